/-! ClosureHeap$Reader: characters, names, refusals. The text is tx (codes as naturals), its length L, the place p; the names nf, bd of them -/
set_option maxHeartbeats 4000000 in
set_option maxRecDepth 100000 in
theorem t_isDigit {G : cj_G} {n : Nat} (hn : n < 65536) : cj_T mX3_isDigit 0 0 0 [.int (nI n)] G (cj_rd G (ch_b (48 ≤ n ∧ n ≤ 57))) (cj_no) := by
  refine cj_T_of (by decide) (Nat.le_of_ble_eq_true rfl) ?_
  refine cj_lvs (lv' := [(0, .int (nI n))]) rfl ?_
  refine cj_iload_n dX3_isDigit_0 rfl ?_
  refine cj_bipush (v := 48) dX3_isDigit_1 (by decide) ?_
  refine cj_icmp_lt (tgt := 16) dX3_isDigit_3 (by decide) (fun h1 => ?_) (fun h1 => ?_)
  · refine cj_iconst (v := 0) dX3_isDigit_16 (by decide) ?_
    refine cj_pc (pc' := 17) rfl ?_
    refine cj_zret rfl rfl dX3_isDigit_17 ?_
    have e09 : (nI n < 48) ↔ n < 48 := nI_ltI (b := 48) (by omega) (by decide)
    have e19 : (57 < nI n) ↔ 57 < n := nI_ltI (a := 57) (by decide) (by omega)
    simp only [e09, e19] at h1
    refine ⟨congrArg (fun z => some (Value.int z)) ?_, rfl⟩
    unfold ch_b
    first | (rw [if_pos (by omega)]; done) | (rw [if_neg (by omega)]; done)
  · refine cj_iload_n dX3_isDigit_6 rfl ?_
    refine cj_bipush (v := 57) dX3_isDigit_7 (by decide) ?_
    refine cj_icmp_gt (tgt := 16) dX3_isDigit_9 (by decide) (fun h2 => ?_) (fun h2 => ?_)
    · refine cj_pc (pc' := 16) rfl ?_
      refine cj_iconst (v := 0) dX3_isDigit_16 (by decide) ?_
      refine cj_zret rfl rfl dX3_isDigit_17 ?_
      have e09 : (nI n < 48) ↔ n < 48 := nI_ltI (b := 48) (by omega) (by decide)
      have e19 : (57 < nI n) ↔ 57 < n := nI_ltI (a := 57) (by decide) (by omega)
      simp only [e09, e19] at h1
      simp only [e09, e19] at h2
      refine ⟨congrArg (fun z => some (Value.int z)) ?_, rfl⟩
      unfold ch_b
      first | (rw [if_pos (by omega)]; done) | (rw [if_neg (by omega)]; done)
    · refine cj_iconst (v := 1) dX3_isDigit_12 (by decide) ?_
      refine cj_goto (tgt := 17) dX3_isDigit_13 (by decide) ?_
      refine cj_pc (pc' := 17) rfl ?_
      refine cj_zret rfl rfl dX3_isDigit_17 ?_
      have e09 : (nI n < 48) ↔ n < 48 := nI_ltI (b := 48) (by omega) (by decide)
      have e19 : (57 < nI n) ↔ 57 < n := nI_ltI (a := 57) (by decide) (by omega)
      simp only [e09, e19] at h1
      simp only [e09, e19] at h2
      refine ⟨congrArg (fun z => some (Value.int z)) ?_, rfl⟩
      unfold ch_b
      first | (rw [if_pos (by omega)]; done) | (rw [if_neg (by omega)]; done)
set_option maxHeartbeats 4000000 in
set_option maxRecDepth 100000 in
theorem t_isName {G : cj_G} {n : Nat} (hn : n < 65536) : cj_T mX3_isName 0 0 0 [.int (nI n)] G (cj_rd G (ch_b (97 ≤ n ∧ n ≤ 122))) (cj_no) := by
  refine cj_T_of (by decide) (Nat.le_of_ble_eq_true rfl) ?_
  refine cj_lvs (lv' := [(0, .int (nI n))]) rfl ?_
  refine cj_iload_n dX3_isName_0 rfl ?_
  refine cj_bipush (v := 97) dX3_isName_1 (by decide) ?_
  refine cj_icmp_lt (tgt := 16) dX3_isName_3 (by decide) (fun h1 => ?_) (fun h1 => ?_)
  · refine cj_iconst (v := 0) dX3_isName_16 (by decide) ?_
    refine cj_pc (pc' := 17) rfl ?_
    refine cj_zret rfl rfl dX3_isName_17 ?_
    have e09 : (nI n < 97) ↔ n < 97 := nI_ltI (b := 97) (by omega) (by decide)
    have e19 : (122 < nI n) ↔ 122 < n := nI_ltI (a := 122) (by decide) (by omega)
    simp only [e09, e19] at h1
    refine ⟨congrArg (fun z => some (Value.int z)) ?_, rfl⟩
    unfold ch_b
    first | (rw [if_pos (by omega)]; done) | (rw [if_neg (by omega)]; done)
  · refine cj_iload_n dX3_isName_6 rfl ?_
    refine cj_bipush (v := 122) dX3_isName_7 (by decide) ?_
    refine cj_icmp_gt (tgt := 16) dX3_isName_9 (by decide) (fun h2 => ?_) (fun h2 => ?_)
    · refine cj_pc (pc' := 16) rfl ?_
      refine cj_iconst (v := 0) dX3_isName_16 (by decide) ?_
      refine cj_zret rfl rfl dX3_isName_17 ?_
      have e09 : (nI n < 97) ↔ n < 97 := nI_ltI (b := 97) (by omega) (by decide)
      have e19 : (122 < nI n) ↔ 122 < n := nI_ltI (a := 122) (by decide) (by omega)
      simp only [e09, e19] at h1
      simp only [e09, e19] at h2
      refine ⟨congrArg (fun z => some (Value.int z)) ?_, rfl⟩
      unfold ch_b
      first | (rw [if_pos (by omega)]; done) | (rw [if_neg (by omega)]; done)
    · refine cj_iconst (v := 1) dX3_isName_12 (by decide) ?_
      refine cj_goto (tgt := 17) dX3_isName_13 (by decide) ?_
      refine cj_pc (pc' := 17) rfl ?_
      refine cj_zret rfl rfl dX3_isName_17 ?_
      have e09 : (nI n < 97) ↔ n < 97 := nI_ltI (b := 97) (by omega) (by decide)
      have e19 : (122 < nI n) ↔ 122 < n := nI_ltI (a := 122) (by decide) (by omega)
      simp only [e09, e19] at h1
      simp only [e09, e19] at h2
      refine ⟨congrArg (fun z => some (Value.int z)) ?_, rfl⟩
      unfold ch_b
      first | (rw [if_pos (by omega)]; done) | (rw [if_neg (by omega)]; done)
set_option maxHeartbeats 4000000 in
set_option maxRecDepth 100000 in
theorem t_isConstructor {G : cj_G} {n : Nat} (hn : n < 65536) : cj_T mX3_isConstructor 0 0 0 [.int (nI n)] G (cj_rd G (ch_b (65 ≤ n ∧ n ≤ 72))) (cj_no) := by
  refine cj_T_of (by decide) (Nat.le_of_ble_eq_true rfl) ?_
  refine cj_lvs (lv' := [(0, .int (nI n))]) rfl ?_
  refine cj_iload_n dX3_isConstructor_0 rfl ?_
  refine cj_bipush (v := 65) dX3_isConstructor_1 (by decide) ?_
  refine cj_icmp_lt (tgt := 16) dX3_isConstructor_3 (by decide) (fun h1 => ?_) (fun h1 => ?_)
  · refine cj_iconst (v := 0) dX3_isConstructor_16 (by decide) ?_
    refine cj_pc (pc' := 17) rfl ?_
    refine cj_zret rfl rfl dX3_isConstructor_17 ?_
    have e09 : (nI n < 65) ↔ n < 65 := nI_ltI (b := 65) (by omega) (by decide)
    have e19 : (73 ≤ nI n) ↔ 73 ≤ n := nI_leI (a := 73) (by decide) (by omega)
    simp only [e09, e19] at h1
    refine ⟨congrArg (fun z => some (Value.int z)) ?_, rfl⟩
    unfold ch_b
    first | (rw [if_pos (by omega)]; done) | (rw [if_neg (by omega)]; done)
  · refine cj_iload_n dX3_isConstructor_6 rfl ?_
    refine cj_bipush (v := 73) dX3_isConstructor_7 (by decide) ?_
    refine cj_icmp_ge (tgt := 16) dX3_isConstructor_9 (by decide) (fun h2 => ?_) (fun h2 => ?_)
    · refine cj_pc (pc' := 16) rfl ?_
      refine cj_iconst (v := 0) dX3_isConstructor_16 (by decide) ?_
      refine cj_zret rfl rfl dX3_isConstructor_17 ?_
      have e09 : (nI n < 65) ↔ n < 65 := nI_ltI (b := 65) (by omega) (by decide)
      have e19 : (73 ≤ nI n) ↔ 73 ≤ n := nI_leI (a := 73) (by decide) (by omega)
      simp only [e09, e19] at h1
      simp only [e09, e19] at h2
      refine ⟨congrArg (fun z => some (Value.int z)) ?_, rfl⟩
      unfold ch_b
      first | (rw [if_pos (by omega)]; done) | (rw [if_neg (by omega)]; done)
    · refine cj_iconst (v := 1) dX3_isConstructor_12 (by decide) ?_
      refine cj_goto (tgt := 17) dX3_isConstructor_13 (by decide) ?_
      refine cj_pc (pc' := 17) rfl ?_
      refine cj_zret rfl rfl dX3_isConstructor_17 ?_
      have e09 : (nI n < 65) ↔ n < 65 := nI_ltI (b := 65) (by omega) (by decide)
      have e19 : (73 ≤ nI n) ↔ 73 ≤ n := nI_leI (a := 73) (by decide) (by omega)
      simp only [e09, e19] at h1
      simp only [e09, e19] at h2
      refine ⟨congrArg (fun z => some (Value.int z)) ?_, rfl⟩
      unfold ch_b
      first | (rw [if_pos (by omega)]; done) | (rw [if_neg (by omega)]; done)
def rd_atom (n : Nat) : Prop := (48 ≤ n ∧ n ≤ 57) ∨ (97 ≤ n ∧ n ≤ 122) ∨ (65 ≤ n ∧ n ≤ 72) ∨ n = 40
def rd_atomb (n : Nat) : Bool := decide (48 ≤ n ∧ n ≤ 57) || (decide (97 ≤ n ∧ n ≤ 122) || (decide (65 ≤ n ∧ n ≤ 72) || decide (n = 40)))
def rd_ch (tx : Nat → Nat) (L i : Nat) : Nat := if i < L then tx i else 0
theorem rd_ch_lt {tx : Nat → Nat} {L i : Nat} (h : ∀ j, tx j < 65536) : rd_ch tx L i < 65536 := by
  unfold rd_ch; split
  · exact h i
  · omega
set_option maxHeartbeats 4000000 in
set_option maxRecDepth 100000 in
theorem t_beginsAtom {G : cj_G} {n : Nat} (hn : n < 65536) : cj_T mX3_beginsAtom 1 0 0 [.int (nI n)] G (cj_rd G (ch_b (rd_atomb n = true))) (cj_no) := by
  refine cj_T_of (by decide) (Nat.le_of_ble_eq_true rfl) ?_
  refine cj_lvs (lv' := [(0, .int (nI n))]) rfl ?_
  refine cj_iload_n dX3_beginsAtom_0 rfl ?_
  refine cj_callS (M' := mX3_isDigit) (d' := 0) (k' := 0) (n' := 0) (index := 162) (np := 1) (As := [.int (nI n)]) (rest := []) dX3_beginsAtom_1 lkX3_162 mwX3_isDigit (t_isDigit (by first | omega | exact rd_ch_lt hx | exact hcl)) (by omega) rfl rfl (Nat.le_of_ble_eq_true rfl) (fun v9 G2 q1 => ?_) (fun _ _ h => absurd h id)
  obtain ⟨rfl, e9⟩ := q1
  subst G2
  refine cj_st (st' := [.int (ch_b (48 ≤ n ∧ n ≤ 57))]) rfl ?_
  refine cj_if_ne (tgt := 27) dX3_beginsAtom_4 (by decide) (fun h3 => ?_) (fun h3 => ?_)
  · refine cj_iconst (v := 1) dX3_beginsAtom_27 (by decide) ?_
    refine cj_pc (pc' := 28) rfl ?_
    refine cj_goto (tgt := 32) dX3_beginsAtom_28 (by decide) ?_
    refine cj_zret rfl rfl dX3_beginsAtom_32 ?_
    try simp only [ch_b0, Classical.not_not] at h3
    have e9 : (nI n = 40) ↔ n = 40 := nI_eq (b := 40) (by omega) (by decide)
    try simp only [e9] at h3
    refine ⟨congrArg (fun z => some (Value.int z)) ?_, rfl⟩
    simp [ch_b, rd_atomb, h3]
  · refine cj_iload_n dX3_beginsAtom_7 rfl ?_
    refine cj_callS (M' := mX3_isName) (d' := 0) (k' := 0) (n' := 0) (index := 78) (np := 1) (As := [.int (nI n)]) (rest := []) dX3_beginsAtom_8 lkX3_78 mwX3_isName (t_isName (by first | omega | exact rd_ch_lt hx | exact hcl)) (by omega) rfl rfl (Nat.le_of_ble_eq_true rfl) (fun v9 G5 q4 => ?_) (fun _ _ h => absurd h id)
    obtain ⟨rfl, e9⟩ := q4
    subst G5
    refine cj_st (st' := [.int (ch_b (97 ≤ n ∧ n ≤ 122))]) rfl ?_
    refine cj_pc (pc' := 11) rfl ?_
    refine cj_if_ne (tgt := 27) dX3_beginsAtom_11 (by decide) (fun h6 => ?_) (fun h6 => ?_)
    · refine cj_iconst (v := 1) dX3_beginsAtom_27 (by decide) ?_
      refine cj_goto (tgt := 32) dX3_beginsAtom_28 (by decide) ?_
      refine cj_zret rfl rfl dX3_beginsAtom_32 ?_
      try simp only [ch_b0, Classical.not_not] at h3
      try simp only [ch_b0, Classical.not_not] at h6
      have e9 : (nI n = 40) ↔ n = 40 := nI_eq (b := 40) (by omega) (by decide)
      try simp only [e9] at h3 h6
      refine ⟨congrArg (fun z => some (Value.int z)) ?_, rfl⟩
      simp [ch_b, rd_atomb, h3, h6]
    · refine cj_pc (pc' := 14) rfl ?_
      refine cj_iload_n dX3_beginsAtom_14 rfl ?_
      refine cj_callS (M' := mX3_isConstructor) (d' := 0) (k' := 0) (n' := 0) (index := 172) (np := 1) (As := [.int (nI n)]) (rest := []) dX3_beginsAtom_15 lkX3_172 mwX3_isConstructor (t_isConstructor (by first | omega | exact rd_ch_lt hx | exact hcl)) (by omega) rfl rfl (Nat.le_of_ble_eq_true rfl) (fun v9 G8 q7 => ?_) (fun _ _ h => absurd h id)
      obtain ⟨rfl, e9⟩ := q7
      subst G8
      refine cj_st (st' := [.int (ch_b (65 ≤ n ∧ n ≤ 72))]) rfl ?_
      refine cj_if_ne (tgt := 27) dX3_beginsAtom_18 (by decide) (fun h9 => ?_) (fun h9 => ?_)
      · refine cj_iconst (v := 1) dX3_beginsAtom_27 (by decide) ?_
        refine cj_pc (pc' := 28) rfl ?_
        refine cj_goto (tgt := 32) dX3_beginsAtom_28 (by decide) ?_
        refine cj_zret rfl rfl dX3_beginsAtom_32 ?_
        try simp only [ch_b0, Classical.not_not] at h3
        try simp only [ch_b0, Classical.not_not] at h6
        try simp only [ch_b0, Classical.not_not] at h9
        have e9 : (nI n = 40) ↔ n = 40 := nI_eq (b := 40) (by omega) (by decide)
        try simp only [e9] at h3 h6 h9
        refine ⟨congrArg (fun z => some (Value.int z)) ?_, rfl⟩
        simp [ch_b, rd_atomb, h3, h6, h9]
      · refine cj_iload_n dX3_beginsAtom_21 rfl ?_
        refine cj_bipush (v := 40) dX3_beginsAtom_22 (by decide) ?_
        refine cj_pc (pc' := 24) rfl ?_
        refine cj_icmp_ne (tgt := 31) dX3_beginsAtom_24 (by decide) (fun h10 => ?_) (fun h10 => ?_)
        · refine cj_iconst (v := 0) dX3_beginsAtom_31 (by decide) ?_
          refine cj_zret rfl rfl dX3_beginsAtom_32 ?_
          try simp only [ch_b0, Classical.not_not] at h3
          try simp only [ch_b0, Classical.not_not] at h6
          try simp only [ch_b0, Classical.not_not] at h9
          try simp only [ch_b0, Classical.not_not] at h10
          have e9 : (nI n = 40) ↔ n = 40 := nI_eq (b := 40) (by omega) (by decide)
          try simp only [e9] at h3 h6 h9 h10
          refine ⟨congrArg (fun z => some (Value.int z)) ?_, rfl⟩
          simp [ch_b, rd_atomb, h3, h6, h9, h10]
        · refine cj_iconst (v := 1) dX3_beginsAtom_27 (by decide) ?_
          refine cj_pc (pc' := 28) rfl ?_
          refine cj_goto (tgt := 32) dX3_beginsAtom_28 (by decide) ?_
          refine cj_zret rfl rfl dX3_beginsAtom_32 ?_
          try simp only [ch_b0, Classical.not_not] at h3
          try simp only [ch_b0, Classical.not_not] at h6
          try simp only [ch_b0, Classical.not_not] at h9
          try simp only [ch_b0, Classical.not_not] at h10
          have e9 : (nI n = 40) ↔ n = 40 := nI_eq (b := 40) (by omega) (by decide)
          try simp only [e9] at h3 h6 h9 h10
          refine ⟨congrArg (fun z => some (Value.int z)) ?_, rfl⟩
          simp [ch_b, rd_atomb, h3, h6, h9, h10]
set_option maxHeartbeats 4000000 in
set_option maxRecDepth 100000 in
theorem t_characterAt {G : cj_G} {rd rt nb L p bd : Nat} {tx : Nat → Nat} {ill : Int32} (k_rd : G rd = some (.inr (3, [.ref rt, .int (nI L), .int (nI p), .ref nb, .int (nI bd), .int ill]))) (k_rt : G rt = some (.inl (1, 90, .inl (fun j => nI (tx j))))) (hL : L ≤ 90) (hp : p < 1000) (hx : ∀ j, tx j < 65536) {i : Nat} (hi9 : i < 2000) : cj_T mX3_characterAt 0 0 0 [.ref rd, .int (nI i)] G (cj_rd G (nI (rd_ch tx L i))) cj_no := by
  refine cj_T_of (by decide) (Nat.le_of_ble_eq_true rfl) ?_
  refine cj_lvs (lv' := [(0, .ref rd), (1, .int (nI i))]) rfl ?_
  by_cases hi : i < L
  · refine cj_iload_n dX3_characterAt_0 rfl ?_
    refine cj_if_lt (tgt := 30) dX3_characterAt_1 (by decide) (fun h1 => absurd h1 (nI_pos (by omega))) (fun h1 => ?_)
    refine cj_iload_n dX3_characterAt_4 rfl ?_
    refine cj_aload_n dX3_characterAt_5 rfl ?_
    refine cj_pc (pc' := 6) rfl ?_
    refine cj_get flX3_15 dX3_characterAt_6 k_rd rfl ?_
    refine cj_icmp_ge (tgt := 30) dX3_characterAt_9 (by decide) (fun h2 => absurd h2 (nI_ge (by omega) (by omega))) (fun h2 => ?_)
    refine cj_iload_n dX3_characterAt_12 rfl ?_
    refine cj_aload_n dX3_characterAt_13 rfl ?_
    refine cj_pc (pc' := 14) rfl ?_
    refine cj_get flX3_9 dX3_characterAt_14 k_rd rfl ?_
    refine cj_alen (v := nI 90) dX3_characterAt_17 k_rt rfl rfl ?_
    refine cj_icmp_ge (tgt := 30) dX3_characterAt_18 (by decide) (fun h3 => absurd h3 (nI_ge (b := 90) (by omega) (by omega))) (fun h3 => ?_)
    refine cj_aload_n dX3_characterAt_21 rfl ?_
    refine cj_pc (pc' := 22) rfl ?_
    refine cj_get flX3_9 dX3_characterAt_22 k_rd rfl ?_
    refine cj_iload_n dX3_characterAt_25 rfl ?_
    have i4 : vp_in (nI i) 90 := vp_in_nI (by omega) (by decide)
    refine cj_cald dX3_characterAt_26 k_rt i4 ?_
    refine cj_st (st' := [.int (nI (tx i))]) (by rw [nI_clamp (by omega)]) ?_
    refine cj_goto (tgt := 31) dX3_characterAt_27 (by decide) ?_
    refine cj_pc (pc' := 31) rfl ?_
    refine cj_zret rfl (pk_charN (by first | omega | exact hx _)).1 dX3_characterAt_31 ?_
    exact ⟨by unfold rd_ch; rw [if_pos hi], rfl⟩
  · refine cj_iload_n dX3_characterAt_0 rfl ?_
    refine cj_if_lt (tgt := 30) dX3_characterAt_1 (by decide) (fun h1 => absurd h1 (nI_pos (by omega))) (fun h1 => ?_)
    refine cj_iload_n dX3_characterAt_4 rfl ?_
    refine cj_aload_n dX3_characterAt_5 rfl ?_
    refine cj_pc (pc' := 6) rfl ?_
    refine cj_get flX3_15 dX3_characterAt_6 k_rd rfl ?_
    refine cj_icmp_ge (tgt := 30) dX3_characterAt_9 (by decide) (fun h2 => ?_) (fun h2 => absurd h2 (Classical.not_not.mpr (nI_le (by omega) (by omega))))
    refine cj_iconst (v := 0) dX3_characterAt_30 (by decide) ?_
    refine cj_zret rfl rfl dX3_characterAt_31 ?_
    exact ⟨by unfold rd_ch; rw [if_neg hi]; rfl, rfl⟩
set_option maxHeartbeats 4000000 in
set_option maxRecDepth 100000 in
theorem t_peek {G : cj_G} {rd rt nb L p bd : Nat} {tx : Nat → Nat} {ill : Int32} (k_rd : G rd = some (.inr (3, [.ref rt, .int (nI L), .int (nI p), .ref nb, .int (nI bd), .int ill]))) (k_rt : G rt = some (.inl (1, 90, .inl (fun j => nI (tx j))))) (hL : L ≤ 90) (hp : p < 1000) (hx : ∀ j, tx j < 65536) : cj_T mX3_peek 1 0 0 [.ref rd] G (cj_rd G (nI (rd_ch tx L p))) (cj_no) := by
  refine cj_T_of (by decide) (Nat.le_of_ble_eq_true rfl) ?_
  refine cj_lvs (lv' := [(0, .ref rd)]) rfl ?_
  refine cj_aload_n dX3_peek_0 rfl ?_
  refine cj_aload_n dX3_peek_1 rfl ?_
  refine cj_get flX3_19 dX3_peek_2 k_rd rfl ?_
  refine cj_callV (M' := mX3_characterAt) (d' := 0) (k' := 0) (n' := 0) (index := 82) (np := 1) (As := [.int (nI p)]) (rest := []) dX3_peek_5 lkX3_82 mwX3_characterAt (t_characterAt k_rd k_rt hL hp hx (by omega)) (by omega) rfl rfl (Nat.le_of_ble_eq_true rfl) k_rd rfl (fun v9 G2 q1 => ?_) (fun _ _ h => absurd h id)
  obtain ⟨rfl, e9⟩ := q1
  subst G2
  refine cj_st (st' := [.int (nI (rd_ch tx L p))]) rfl ?_
  refine cj_pc (pc' := 8) rfl ?_
  refine cj_zret rfl (pk_charN (rd_ch_lt hx)).1 dX3_peek_8 ?_
  exact ⟨rfl, rfl⟩
/-- the refusal: the text is ill at p -/
def rd_no (G : cj_G) (rd rt nb : Nat) (L p bd : Nat) : String → cj_G → Prop := fun E G' => E = "java/lang/IllegalArgumentException" ∧ G' rd = some (.inr (3, [.ref rt, .int (nI L), .int (nI p), .ref nb, .int (nI bd), .int (nI p)])) ∧ cj_fr [rd] G G' 
set_option maxHeartbeats 4000000 in
set_option maxRecDepth 100000 in
theorem t_refuse {G : cj_G} {rd rt nb L p bd : Nat} {ill : Int32} (k_rd : G rd = some (.inr (3, [.ref rt, .int (nI L), .int (nI p), .ref nb, .int (nI bd), .int ill]))) : cj_T mX3_refuse 6 1 6 [.ref rd] G (fun _ _ => False) (rd_no G rd rt nb L p bd) := by
  refine cj_T_of (by decide) (Nat.le_of_ble_eq_true rfl) ?_
  refine cj_lvs (lv' := [(0, .ref rd)]) rfl ?_
  refine cj_aload_n dX3_refuse_0 rfl ?_
  refine cj_aload_n dX3_refuse_1 rfl ?_
  refine cj_get flX3_19 dX3_refuse_2 k_rd rfl ?_
  refine cj_put flX3_28 dX3_refuse_5 k_rd rfl rfl (Nat.le_of_ble_eq_true rfl) ?_
  refine cj_nm (fun G1 e2 => ?_)
  have k3 : G1 rd = some (.inr (3, [.ref rt, .int (nI L), .int (nI p), .ref nb, .int (nI bd), .int (nI p)])) := by rw [e2]; exact cj_up_s
  have r4 : cj_fr [rd] G G1 := by rw [e2]; exact cj_fr.up (cj_fr.rf (S := [rd]) (G := G)) (by simp)
  refine cj_pc (pc' := 8) rfl ?_
  exact cj_throw (k := 0) (n := 0) thX3_48 dX3_refuse_8 dX3_refuse_11 dX3_refuse_12 dX3_refuse_14 dX3_refuse_17 (by decide) (by decide) ⟨rfl, k3, r4⟩
set_option maxHeartbeats 4000000 in
set_option maxRecDepth 100000 in
theorem t_expect_1 {G : cj_G} {rd rt nb L p bd : Nat} {tx : Nat → Nat} {ch : Nat} {ill : Int32} (k_rd : G rd = some (.inr (3, [.ref rt, .int (nI L), .int (nI p), .ref nb, .int (nI bd), .int ill]))) (k_rt : G rt = some (.inl (1, 90, .inl (fun j => nI (tx j))))) (hL : L ≤ 90) (hp : p < 1000) (hx : ∀ j, tx j < 65536) (hch : ch < 65536) (he : rd_ch tx L p = ch) : cj_T mX3_expect 2 0 0 [.ref rd, .int (nI ch)] G (fun v G' => v = none ∧ G' rd = some (.inr (3, [.ref rt, .int (nI L), .int (nI (p + 1)), .ref nb, .int (nI bd), .int ill])) ∧ cj_fr [rd] G G') (cj_no) := by
  refine cj_T_of (by decide) (Nat.le_of_ble_eq_true rfl) ?_
  refine cj_lvs (lv' := [(0, .ref rd), (1, .int (nI ch))]) rfl ?_
  refine cj_aload_n dX3_expect_0 rfl ?_
  refine cj_callV (M' := mX3_peek) (d' := 1) (k' := 0) (n' := 0) (index := 64) (np := 0) (As := []) (rest := []) dX3_expect_1 lkX3_64 mwX3_peek (t_peek k_rd k_rt hL hp hx) (by omega) rfl rfl (Nat.le_of_ble_eq_true rfl) k_rd rfl (fun v9 G2 q1 => ?_) (fun _ _ h => absurd h id)
  obtain ⟨rfl, e9⟩ := q1
  subst G2
  refine cj_st (st' := [.int (nI (rd_ch tx L p))]) rfl ?_
  refine cj_iload_n dX3_expect_4 rfl ?_
  refine cj_icmp_eq (tgt := 12) dX3_expect_5 (by decide) (fun h3 => ?_) (fun h3 => absurd h3 (Classical.not_not.mpr (by rw [he])))
  refine cj_pc (pc' := 12) rfl ?_
  refine cj_aload_n dX3_expect_12 rfl ?_
  refine cj_dup dX3_expect_13 rfl ?_
  refine cj_get flX3_19 dX3_expect_14 k_rd rfl ?_
  refine cj_iconst (v := 1) dX3_expect_17 (by decide) ?_
  refine cj_pc (pc' := 18) rfl ?_
  refine cj_iadd dX3_expect_18 ?_
  refine cj_st (st' := [.int (nI (p + 1)), .ref rd]) (by rw [nI_1]) ?_
  refine cj_put flX3_19 dX3_expect_19 k_rd rfl rfl (Nat.le_of_ble_eq_true rfl) ?_
  refine cj_nm (fun G4 e5 => ?_)
  have k6 : G4 rd = some (.inr (3, [.ref rt, .int (nI L), .int (nI (p + 1)), .ref nb, .int (nI bd), .int ill])) := by rw [e5]; exact cj_up_s
  have k7 : G4 rt = some (.inl (1, 90, .inl (fun j => nI (tx j)))) := by rw [e5, cj_up_n (cj_nao k_rt k_rd)]; exact k_rt
  have r8 : cj_fr [rd] G G4 := by rw [e5]; exact cj_fr.up (cj_fr.rf (S := [rd]) (G := G)) (by simp)
  refine cj_vret rfl dX3_expect_22 ?_
  exact ⟨rfl, k6, r8⟩
set_option maxHeartbeats 4000000 in
set_option maxRecDepth 100000 in
theorem t_expect_0 {G : cj_G} {rd rt nb L p bd : Nat} {tx : Nat → Nat} {ch : Nat} {ill : Int32} (k_rd : G rd = some (.inr (3, [.ref rt, .int (nI L), .int (nI p), .ref nb, .int (nI bd), .int ill]))) (k_rt : G rt = some (.inl (1, 90, .inl (fun j => nI (tx j))))) (hL : L ≤ 90) (hp : p < 1000) (hx : ∀ j, tx j < 65536) (hch : ch < 65536) (he : ¬ rd_ch tx L p = ch) : cj_T mX3_expect 7 1 6 [.ref rd, .int (nI ch)] G (fun _ _ => False) (rd_no G rd rt nb L p bd) := by
  refine cj_T_of (by decide) (Nat.le_of_ble_eq_true rfl) ?_
  refine cj_lvs (lv' := [(0, .ref rd), (1, .int (nI ch))]) rfl ?_
  refine cj_aload_n dX3_expect_0 rfl ?_
  refine cj_callV (M' := mX3_peek) (d' := 1) (k' := 0) (n' := 0) (index := 64) (np := 0) (As := []) (rest := []) dX3_expect_1 lkX3_64 mwX3_peek (t_peek k_rd k_rt hL hp hx) (by omega) rfl rfl (Nat.le_of_ble_eq_true rfl) k_rd rfl (fun v9 G2 q1 => ?_) (fun _ _ h => absurd h id)
  obtain ⟨rfl, e9⟩ := q1
  subst G2
  refine cj_st (st' := [.int (nI (rd_ch tx L p))]) rfl ?_
  refine cj_iload_n dX3_expect_4 rfl ?_
  refine cj_icmp_eq (tgt := 12) dX3_expect_5 (by decide) (fun h3 => absurd h3 (fun h9 => he ((nI_eq (Nat.lt_trans (rd_ch_lt hx) (by decide)) (by omega)).mp h9))) (fun h3 => ?_)
  refine cj_pc (pc' := 8) rfl ?_
  refine cj_aload_n dX3_expect_8 rfl ?_
  exact cj_callV (M' := mX3_refuse) (d' := 6) (k' := 1) (n' := 6) (k := 0) (n := 0) (index := 39) (np := 0) (As := []) (rest := []) dX3_expect_9 lkX3_39 mwX3_refuse (t_refuse k_rd) (by omega) rfl rfl (Nat.le_of_ble_eq_true rfl) k_rd rfl (fun _ _ h => absurd h id) (fun E9 G9 h9 => h9)
set_option maxHeartbeats 4000000 in
set_option maxRecDepth 100000 in
theorem t_takeName_1 {G : cj_G} {rd rt nb L p bd : Nat} {tx : Nat → Nat} {ill : Int32} (k_rd : G rd = some (.inr (3, [.ref rt, .int (nI L), .int (nI p), .ref nb, .int (nI bd), .int ill]))) (k_rt : G rt = some (.inl (1, 90, .inl (fun j => nI (tx j))))) (hL : L ≤ 90) (hp : p < 1000) (hx : ∀ j, tx j < 65536) (he : 97 ≤ (rd_ch tx L p) ∧ (rd_ch tx L p) ≤ 122) : cj_T mX3_takeName 2 0 0 [.ref rd] G (fun v G' => v = some (.int (nI (rd_ch tx L p))) ∧ G' rd = some (.inr (3, [.ref rt, .int (nI L), .int (nI (p + 1)), .ref nb, .int (nI bd), .int ill])) ∧ cj_fr [rd] G G') (cj_no) := by
  refine cj_T_of (by decide) (Nat.le_of_ble_eq_true rfl) ?_
  refine cj_lvs (lv' := [(0, .ref rd)]) rfl ?_
  refine cj_aload_n dX3_takeName_0 rfl ?_
  refine cj_callV (M' := mX3_peek) (d' := 1) (k' := 0) (n' := 0) (index := 64) (np := 0) (As := []) (rest := []) dX3_takeName_1 lkX3_64 mwX3_peek (t_peek k_rd k_rt hL hp hx) (by omega) rfl rfl (Nat.le_of_ble_eq_true rfl) k_rd rfl (fun v9 G2 q1 => ?_) (fun _ _ h => absurd h id)
  obtain ⟨rfl, e9⟩ := q1
  subst G2
  refine cj_st (st' := [.int (nI (rd_ch tx L p))]) rfl ?_
  refine cj_istore_n (lv' := [(1, .int (nI (rd_ch tx L p))), (0, .ref rd)]) dX3_takeName_4 (by decide) rfl ?_
  refine cj_iload_n dX3_takeName_5 rfl ?_
  refine cj_pc (pc' := 6) rfl ?_
  refine cj_callS (M' := mX3_isName) (d' := 0) (k' := 0) (n' := 0) (index := 78) (np := 1) (As := [.int (nI (rd_ch tx L p))]) (rest := []) dX3_takeName_6 lkX3_78 mwX3_isName (t_isName (by first | omega | exact rd_ch_lt hx | exact hcl)) (by omega) rfl rfl (Nat.le_of_ble_eq_true rfl) (fun v9 G4 q3 => ?_) (fun _ _ h => absurd h id)
  obtain ⟨rfl, e9⟩ := q3
  subst G4
  refine cj_st (st' := [.int (ch_b (97 ≤ (rd_ch tx L p) ∧ (rd_ch tx L p) ≤ 122))]) rfl ?_
  refine cj_if_ne (tgt := 16) dX3_takeName_9 (by decide) (fun h5 => ?_) (fun h5 => absurd h5 (ch_bn he))
  refine cj_aload_n dX3_takeName_16 rfl ?_
  refine cj_dup dX3_takeName_17 rfl ?_
  refine cj_pc (pc' := 18) rfl ?_
  refine cj_get flX3_19 dX3_takeName_18 k_rd rfl ?_
  refine cj_iconst (v := 1) dX3_takeName_21 (by decide) ?_
  refine cj_iadd dX3_takeName_22 ?_
  refine cj_st (st' := [.int (nI (p + 1)), .ref rd]) (by rw [nI_1]) ?_
  refine cj_put flX3_19 dX3_takeName_23 k_rd rfl rfl (Nat.le_of_ble_eq_true rfl) ?_
  refine cj_nm (fun G6 e7 => ?_)
  have k8 : G6 rd = some (.inr (3, [.ref rt, .int (nI L), .int (nI (p + 1)), .ref nb, .int (nI bd), .int ill])) := by rw [e7]; exact cj_up_s
  have k9 : G6 rt = some (.inl (1, 90, .inl (fun j => nI (tx j)))) := by rw [e7, cj_up_n (cj_nao k_rt k_rd)]; exact k_rt
  have r10 : cj_fr [rd] G G6 := by rw [e7]; exact cj_fr.up (cj_fr.rf (S := [rd]) (G := G)) (by simp)
  refine cj_pc (pc' := 26) rfl ?_
  refine cj_iload_n dX3_takeName_26 rfl ?_
  refine cj_zret rfl (pk_charN (rd_ch_lt hx)).1 dX3_takeName_27 ?_
  exact ⟨rfl, k8, r10⟩
set_option maxHeartbeats 4000000 in
set_option maxRecDepth 100000 in
theorem t_takeName_0 {G : cj_G} {rd rt nb L p bd : Nat} {tx : Nat → Nat} {ill : Int32} (k_rd : G rd = some (.inr (3, [.ref rt, .int (nI L), .int (nI p), .ref nb, .int (nI bd), .int ill]))) (k_rt : G rt = some (.inl (1, 90, .inl (fun j => nI (tx j))))) (hL : L ≤ 90) (hp : p < 1000) (hx : ∀ j, tx j < 65536) (he : ¬ (97 ≤ (rd_ch tx L p) ∧ (rd_ch tx L p) ≤ 122)) : cj_T mX3_takeName 7 1 6 [.ref rd] G (fun _ _ => False) (rd_no G rd rt nb L p bd) := by
  refine cj_T_of (by decide) (Nat.le_of_ble_eq_true rfl) ?_
  refine cj_lvs (lv' := [(0, .ref rd)]) rfl ?_
  refine cj_aload_n dX3_takeName_0 rfl ?_
  refine cj_callV (M' := mX3_peek) (d' := 1) (k' := 0) (n' := 0) (index := 64) (np := 0) (As := []) (rest := []) dX3_takeName_1 lkX3_64 mwX3_peek (t_peek k_rd k_rt hL hp hx) (by omega) rfl rfl (Nat.le_of_ble_eq_true rfl) k_rd rfl (fun v9 G2 q1 => ?_) (fun _ _ h => absurd h id)
  obtain ⟨rfl, e9⟩ := q1
  subst G2
  refine cj_st (st' := [.int (nI (rd_ch tx L p))]) rfl ?_
  refine cj_istore_n (lv' := [(1, .int (nI (rd_ch tx L p))), (0, .ref rd)]) dX3_takeName_4 (by decide) rfl ?_
  refine cj_iload_n dX3_takeName_5 rfl ?_
  refine cj_pc (pc' := 6) rfl ?_
  refine cj_callS (M' := mX3_isName) (d' := 0) (k' := 0) (n' := 0) (index := 78) (np := 1) (As := [.int (nI (rd_ch tx L p))]) (rest := []) dX3_takeName_6 lkX3_78 mwX3_isName (t_isName (by first | omega | exact rd_ch_lt hx | exact hcl)) (by omega) rfl rfl (Nat.le_of_ble_eq_true rfl) (fun v9 G4 q3 => ?_) (fun _ _ h => absurd h id)
  obtain ⟨rfl, e9⟩ := q3
  subst G4
  refine cj_st (st' := [.int (ch_b (97 ≤ (rd_ch tx L p) ∧ (rd_ch tx L p) ≤ 122))]) rfl ?_
  refine cj_if_ne (tgt := 16) dX3_takeName_9 (by decide) (fun h5 => absurd h5 (Classical.not_not.mpr (ch_bz he))) (fun h5 => ?_)
  refine cj_aload_n dX3_takeName_12 rfl ?_
  exact cj_callV (M' := mX3_refuse) (d' := 6) (k' := 1) (n' := 6) (k := 0) (n := 0) (index := 39) (np := 0) (As := []) (rest := []) dX3_takeName_13 lkX3_39 mwX3_refuse (t_refuse k_rd) (by omega) rfl rfl (Nat.le_of_ble_eq_true rfl) k_rd rfl (fun _ _ h => absurd h id) (fun E9 G9 h9 => h9)
def rd_seen (seen tag : Nat) : Prop := seen.testBit tag = true
theorem rd_bit {seen tag : Nat} (hs : seen < 256) (ht : tag < 8) : ((nI seen >>> (nI tag &&& 31)) &&& 1 = 1) ↔ seen.testBit tag = true := by
  have h : ∀ s : Fin 256, ∀ t : Fin 8, ((nI s.val >>> (nI t.val &&& 31)) &&& 1 = 1) ↔ s.val.testBit t.val = true := by decide +kernel
  exact h ⟨seen, hs⟩ ⟨tag, ht⟩
set_option maxHeartbeats 4000000 in
set_option maxRecDepth 100000 in
theorem t_takeTag_1 {G : cj_G} {rd rt nb L p bd : Nat} {tx : Nat → Nat} {seen : Nat} {ill : Int32} (k_rd : G rd = some (.inr (3, [.ref rt, .int (nI L), .int (nI p), .ref nb, .int (nI bd), .int ill]))) (k_rt : G rt = some (.inl (1, 90, .inl (fun j => nI (tx j))))) (hL : L ≤ 90) (hp : p < 1000) (hx : ∀ j, tx j < 65536) (hse : seen < 256) (he : 65 ≤ (rd_ch tx L p) ∧ (rd_ch tx L p) ≤ 72) (hb : ¬ seen.testBit ((rd_ch tx L p) - 65) = true) : cj_T mX3_takeTagNotIn 2 0 0 [.ref rd, .int (nI seen)] G (fun v G' => v = some (.int (nI ((rd_ch tx L p) - 65))) ∧ G' rd = some (.inr (3, [.ref rt, .int (nI L), .int (nI (p + 1)), .ref nb, .int (nI bd), .int ill])) ∧ cj_fr [rd] G G') (cj_no) := by
  refine cj_T_of (by decide) (Nat.le_of_ble_eq_true rfl) ?_
  refine cj_lvs (lv' := [(0, .ref rd), (1, .int (nI seen))]) rfl ?_
  refine cj_aload_n dX3_takeTagNotIn_0 rfl ?_
  refine cj_callV (M' := mX3_peek) (d' := 1) (k' := 0) (n' := 0) (index := 64) (np := 0) (As := []) (rest := []) dX3_takeTagNotIn_1 lkX3_64 mwX3_peek (t_peek k_rd k_rt hL hp hx) (by omega) rfl rfl (Nat.le_of_ble_eq_true rfl) k_rd rfl (fun v9 G2 q1 => ?_) (fun _ _ h => absurd h id)
  obtain ⟨rfl, e9⟩ := q1
  subst G2
  refine cj_st (st' := [.int (nI (rd_ch tx L p))]) rfl ?_
  refine cj_istore_n (lv' := [(2, .int (nI (rd_ch tx L p))), (0, .ref rd), (1, .int (nI seen))]) dX3_takeTagNotIn_4 (by decide) rfl ?_
  refine cj_iload_n dX3_takeTagNotIn_5 rfl ?_
  refine cj_pc (pc' := 6) rfl ?_
  refine cj_bipush (v := 65) dX3_takeTagNotIn_6 (by decide) ?_
  refine cj_isub dX3_takeTagNotIn_8 ?_
  refine cj_st (st' := [.int (nI ((rd_ch tx L p) - 65))]) (by rw [show (65 : Int32) = nI 65 from rfl, pk_sub he.1]) ?_
  refine cj_istore_n (lv' := [(3, .int (nI ((rd_ch tx L p) - 65))), (2, .int (nI (rd_ch tx L p))), (0, .ref rd), (1, .int (nI seen))]) dX3_takeTagNotIn_9 (by decide) rfl ?_
  refine cj_iload_n dX3_takeTagNotIn_10 rfl ?_
  refine cj_pc (pc' := 11) rfl ?_
  refine cj_callS (M' := mX3_isConstructor) (d' := 0) (k' := 0) (n' := 0) (index := 172) (np := 1) (As := [.int (nI (rd_ch tx L p))]) (rest := []) dX3_takeTagNotIn_11 lkX3_172 mwX3_isConstructor (t_isConstructor (by first | omega | exact rd_ch_lt hx | exact hcl)) (by omega) rfl rfl (Nat.le_of_ble_eq_true rfl) (fun v9 G4 q3 => ?_) (fun _ _ h => absurd h id)
  obtain ⟨rfl, e9⟩ := q3
  subst G4
  refine cj_st (st' := [.int (ch_b (65 ≤ (rd_ch tx L p) ∧ (rd_ch tx L p) ≤ 72))]) rfl ?_
  refine cj_if_eq (tgt := 26) dX3_takeTagNotIn_14 (by decide) (fun h5 => absurd h5 (ch_bn he)) (fun h5 => ?_)
  refine cj_iload_n dX3_takeTagNotIn_17 rfl ?_
  refine cj_iload_n dX3_takeTagNotIn_18 rfl ?_
  refine cj_pc (pc' := 19) rfl ?_
  refine cj_ishr dX3_takeTagNotIn_19 ?_
  refine cj_iconst (v := 1) dX3_takeTagNotIn_20 (by decide) ?_
  refine cj_iand dX3_takeTagNotIn_21 ?_
  refine cj_iconst (v := 1) dX3_takeTagNotIn_22 (by decide) ?_
  refine cj_pc (pc' := 23) rfl ?_
  refine cj_icmp_ne (tgt := 30) dX3_takeTagNotIn_23 (by decide) (fun h6 => ?_) (fun h6 => absurd h6 (fun h9 => hb ((rd_bit hse (by omega)).mp h9)))
  refine cj_aload_n dX3_takeTagNotIn_30 rfl ?_
  refine cj_dup dX3_takeTagNotIn_31 rfl ?_
  refine cj_get flX3_19 dX3_takeTagNotIn_32 k_rd rfl ?_
  refine cj_pc (pc' := 35) rfl ?_
  refine cj_iconst (v := 1) dX3_takeTagNotIn_35 (by decide) ?_
  refine cj_iadd dX3_takeTagNotIn_36 ?_
  refine cj_st (st' := [.int (nI (p + 1)), .ref rd]) (by rw [nI_1]) ?_
  refine cj_put flX3_19 dX3_takeTagNotIn_37 k_rd rfl rfl (Nat.le_of_ble_eq_true rfl) ?_
  refine cj_nm (fun G7 e8 => ?_)
  have k9 : G7 rd = some (.inr (3, [.ref rt, .int (nI L), .int (nI (p + 1)), .ref nb, .int (nI bd), .int ill])) := by rw [e8]; exact cj_up_s
  have k10 : G7 rt = some (.inl (1, 90, .inl (fun j => nI (tx j)))) := by rw [e8, cj_up_n (cj_nao k_rt k_rd)]; exact k_rt
  have r11 : cj_fr [rd] G G7 := by rw [e8]; exact cj_fr.up (cj_fr.rf (S := [rd]) (G := G)) (by simp)
  refine cj_iload_n dX3_takeTagNotIn_40 rfl ?_
  refine cj_pc (pc' := 41) rfl ?_
  refine cj_iret rfl dX3_takeTagNotIn_41 ?_
  exact ⟨rfl, k9, r11⟩
set_option maxHeartbeats 4000000 in
set_option maxRecDepth 100000 in
theorem t_takeTag_0 {G : cj_G} {rd rt nb L p bd : Nat} {tx : Nat → Nat} {seen : Nat} {ill : Int32} (k_rd : G rd = some (.inr (3, [.ref rt, .int (nI L), .int (nI p), .ref nb, .int (nI bd), .int ill]))) (k_rt : G rt = some (.inl (1, 90, .inl (fun j => nI (tx j))))) (hL : L ≤ 90) (hp : p < 1000) (hx : ∀ j, tx j < 65536) (hse : seen < 256) (he : 65 ≤ (rd_ch tx L p) ∧ (rd_ch tx L p) ≤ 72) (hb :  seen.testBit ((rd_ch tx L p) - 65) = true) : cj_T mX3_takeTagNotIn 7 1 6 [.ref rd, .int (nI seen)] G (fun _ _ => False) (rd_no G rd rt nb L p bd) := by
  refine cj_T_of (by decide) (Nat.le_of_ble_eq_true rfl) ?_
  refine cj_lvs (lv' := [(0, .ref rd), (1, .int (nI seen))]) rfl ?_
  refine cj_aload_n dX3_takeTagNotIn_0 rfl ?_
  refine cj_callV (M' := mX3_peek) (d' := 1) (k' := 0) (n' := 0) (index := 64) (np := 0) (As := []) (rest := []) dX3_takeTagNotIn_1 lkX3_64 mwX3_peek (t_peek k_rd k_rt hL hp hx) (by omega) rfl rfl (Nat.le_of_ble_eq_true rfl) k_rd rfl (fun v9 G2 q1 => ?_) (fun _ _ h => absurd h id)
  obtain ⟨rfl, e9⟩ := q1
  subst G2
  refine cj_st (st' := [.int (nI (rd_ch tx L p))]) rfl ?_
  refine cj_istore_n (lv' := [(2, .int (nI (rd_ch tx L p))), (0, .ref rd), (1, .int (nI seen))]) dX3_takeTagNotIn_4 (by decide) rfl ?_
  refine cj_iload_n dX3_takeTagNotIn_5 rfl ?_
  refine cj_pc (pc' := 6) rfl ?_
  refine cj_bipush (v := 65) dX3_takeTagNotIn_6 (by decide) ?_
  refine cj_isub dX3_takeTagNotIn_8 ?_
  refine cj_st (st' := [.int (nI ((rd_ch tx L p) - 65))]) (by rw [show (65 : Int32) = nI 65 from rfl, pk_sub he.1]) ?_
  refine cj_istore_n (lv' := [(3, .int (nI ((rd_ch tx L p) - 65))), (2, .int (nI (rd_ch tx L p))), (0, .ref rd), (1, .int (nI seen))]) dX3_takeTagNotIn_9 (by decide) rfl ?_
  refine cj_iload_n dX3_takeTagNotIn_10 rfl ?_
  refine cj_pc (pc' := 11) rfl ?_
  refine cj_callS (M' := mX3_isConstructor) (d' := 0) (k' := 0) (n' := 0) (index := 172) (np := 1) (As := [.int (nI (rd_ch tx L p))]) (rest := []) dX3_takeTagNotIn_11 lkX3_172 mwX3_isConstructor (t_isConstructor (by first | omega | exact rd_ch_lt hx | exact hcl)) (by omega) rfl rfl (Nat.le_of_ble_eq_true rfl) (fun v9 G4 q3 => ?_) (fun _ _ h => absurd h id)
  obtain ⟨rfl, e9⟩ := q3
  subst G4
  refine cj_st (st' := [.int (ch_b (65 ≤ (rd_ch tx L p) ∧ (rd_ch tx L p) ≤ 72))]) rfl ?_
  refine cj_if_eq (tgt := 26) dX3_takeTagNotIn_14 (by decide) (fun h5 => absurd h5 (ch_bn he)) (fun h5 => ?_)
  refine cj_iload_n dX3_takeTagNotIn_17 rfl ?_
  refine cj_iload_n dX3_takeTagNotIn_18 rfl ?_
  refine cj_pc (pc' := 19) rfl ?_
  refine cj_ishr dX3_takeTagNotIn_19 ?_
  refine cj_iconst (v := 1) dX3_takeTagNotIn_20 (by decide) ?_
  refine cj_iand dX3_takeTagNotIn_21 ?_
  refine cj_iconst (v := 1) dX3_takeTagNotIn_22 (by decide) ?_
  refine cj_pc (pc' := 23) rfl ?_
  refine cj_icmp_ne (tgt := 30) dX3_takeTagNotIn_23 (by decide) (fun h6 => absurd h6 (Classical.not_not.mpr ((rd_bit hse (by omega)).mpr hb))) (fun h6 => ?_)
  refine cj_aload_n dX3_takeTagNotIn_26 rfl ?_
  exact cj_callV (M' := mX3_refuse) (d' := 6) (k' := 1) (n' := 6) (k := 0) (n := 0) (index := 39) (np := 0) (As := []) (rest := []) dX3_takeTagNotIn_27 lkX3_39 mwX3_refuse (t_refuse k_rd) (by omega) rfl rfl (Nat.le_of_ble_eq_true rfl) k_rd rfl (fun _ _ h => absurd h id) (fun E9 G9 h9 => h9)
set_option maxHeartbeats 4000000 in
set_option maxRecDepth 100000 in
theorem t_takeTag_n {G : cj_G} {rd rt nb L p bd : Nat} {tx : Nat → Nat} {seen : Nat} {ill : Int32} (k_rd : G rd = some (.inr (3, [.ref rt, .int (nI L), .int (nI p), .ref nb, .int (nI bd), .int ill]))) (k_rt : G rt = some (.inl (1, 90, .inl (fun j => nI (tx j))))) (hL : L ≤ 90) (hp : p < 1000) (hx : ∀ j, tx j < 65536) (hse : seen < 256) (he : ¬ (65 ≤ (rd_ch tx L p) ∧ (rd_ch tx L p) ≤ 72)) : cj_T mX3_takeTagNotIn 7 1 6 [.ref rd, .int (nI seen)] G (fun _ _ => False) (rd_no G rd rt nb L p bd) := by
  refine cj_T_of (by decide) (Nat.le_of_ble_eq_true rfl) ?_
  refine cj_lvs (lv' := [(0, .ref rd), (1, .int (nI seen))]) rfl ?_
  refine cj_aload_n dX3_takeTagNotIn_0 rfl ?_
  refine cj_callV (M' := mX3_peek) (d' := 1) (k' := 0) (n' := 0) (index := 64) (np := 0) (As := []) (rest := []) dX3_takeTagNotIn_1 lkX3_64 mwX3_peek (t_peek k_rd k_rt hL hp hx) (by omega) rfl rfl (Nat.le_of_ble_eq_true rfl) k_rd rfl (fun v9 G2 q1 => ?_) (fun _ _ h => absurd h id)
  obtain ⟨rfl, e9⟩ := q1
  subst G2
  refine cj_st (st' := [.int (nI (rd_ch tx L p))]) rfl ?_
  refine cj_istore_n (lv' := [(2, .int (nI (rd_ch tx L p))), (0, .ref rd), (1, .int (nI seen))]) dX3_takeTagNotIn_4 (by decide) rfl ?_
  refine cj_iload_n dX3_takeTagNotIn_5 rfl ?_
  refine cj_pc (pc' := 6) rfl ?_
  refine cj_bipush (v := 65) dX3_takeTagNotIn_6 (by decide) ?_
  refine cj_isub dX3_takeTagNotIn_8 ?_
  refine cj_istore_n (lv' := [(3, .int (nI (rd_ch tx L p) - 65)), (2, .int (nI (rd_ch tx L p))), (0, .ref rd), (1, .int (nI seen))]) dX3_takeTagNotIn_9 (by decide) rfl ?_
  refine cj_iload_n dX3_takeTagNotIn_10 rfl ?_
  refine cj_pc (pc' := 11) rfl ?_
  refine cj_callS (M' := mX3_isConstructor) (d' := 0) (k' := 0) (n' := 0) (index := 172) (np := 1) (As := [.int (nI (rd_ch tx L p))]) (rest := []) dX3_takeTagNotIn_11 lkX3_172 mwX3_isConstructor (t_isConstructor (by first | omega | exact rd_ch_lt hx | exact hcl)) (by omega) rfl rfl (Nat.le_of_ble_eq_true rfl) (fun v9 G4 q3 => ?_) (fun _ _ h => absurd h id)
  obtain ⟨rfl, e9⟩ := q3
  subst G4
  refine cj_st (st' := [.int (ch_b (65 ≤ (rd_ch tx L p) ∧ (rd_ch tx L p) ≤ 72))]) rfl ?_
  refine cj_if_eq (tgt := 26) dX3_takeTagNotIn_14 (by decide) (fun h5 => ?_) (fun h5 => absurd h5 (Classical.not_not.mpr (ch_bz he)))
  refine cj_aload_n dX3_takeTagNotIn_26 rfl ?_
  exact cj_callV (M' := mX3_refuse) (d' := 6) (k' := 1) (n' := 6) (k := 0) (n := 0) (index := 39) (np := 0) (As := []) (rest := []) dX3_takeTagNotIn_27 lkX3_39 mwX3_refuse (t_refuse k_rd) (by omega) rfl rfl (Nat.le_of_ble_eq_true rfl) k_rd rfl (fun _ _ h => absurd h id) (fun E9 G9 h9 => h9)
def rd_up (nf : Nat → Nat) (k x : Nat) : Nat → Nat := fun j => if j = k then x else nf j
theorem rd_upd (nf : Nat → Nat) (k x : Nat) : upd (fun j => nI (nf j)) k (nI x) = fun j => nI (rd_up nf k x j) := by
  funext j; unfold upd rd_up; by_cases h : j = k <;> simp [h]
theorem rd_nar {x : Nat} (h : x < 65536) : vp_nar .char (nI x) = nI x := by unfold vp_nar; rw [(pk_charN h).1]
set_option maxHeartbeats 4000000 in
set_option maxRecDepth 100000 in
theorem t_rbind {G : cj_G} {rd rt nb L p bd nm : Nat} {nf : Nat → Nat} {ill : Int32} (k_rd : G rd = some (.inr (3, [.ref rt, .int (nI L), .int (nI p), .ref nb, .int (nI bd), .int ill]))) (k_nb : G nb = some (.inl (1, 90, .inl (fun j => nI (nf j))))) (hbd : bd < 90) (hnm : nm < 65536) : cj_T mX3_bind 0 0 0 [.ref rd, .int (nI nm)] G (fun v G' => v = none ∧ G' rd = some (.inr (3, [.ref rt, .int (nI L), .int (nI p), .ref nb, .int (nI (bd + 1)), .int ill])) ∧ G' nb = some (.inl (1, 90, .inl (fun j => nI (rd_up nf bd nm j)))) ∧ cj_fr [rd, nb] G G') (cj_no) := by
  refine cj_T_of (by decide) (Nat.le_of_ble_eq_true rfl) ?_
  refine cj_lvs (lv' := [(0, .ref rd), (1, .int (nI nm))]) rfl ?_
  refine cj_aload_n dX3_bind_0 rfl ?_
  refine cj_get flX3_25 dX3_bind_1 k_rd rfl ?_
  refine cj_aload_n dX3_bind_4 rfl ?_
  refine cj_get flX3_22 dX3_bind_5 k_rd rfl ?_
  refine cj_pc (pc' := 8) rfl ?_
  refine cj_alen (v := nI 90) dX3_bind_8 k_nb rfl rfl ?_
  refine cj_icmp_ge (tgt := 32) dX3_bind_9 (by decide) (fun h1 => absurd h1 (nI_ge (b := 90) (by omega) (by omega))) (fun h1 => ?_)
  refine cj_aload_n dX3_bind_12 rfl ?_
  refine cj_get flX3_22 dX3_bind_13 k_rd rfl ?_
  refine cj_pc (pc' := 16) rfl ?_
  refine cj_aload_n dX3_bind_16 rfl ?_
  refine cj_get flX3_25 dX3_bind_17 k_rd rfl ?_
  refine cj_iload_n dX3_bind_20 rfl ?_
  have i2 : vp_in (nI bd) 90 := vp_in_nI (by omega) (by decide)
  refine cj_cast dX3_bind_21 k_nb i2 ?_
  refine cj_eqG (G' := cj_up G nb (.inl (1, 90, .inl (fun j => nI (rd_up nf bd nm j))))) (by rw [nI_clamp (by omega), rd_nar hnm, rd_upd]) ?_
  refine cj_nm (fun G3 e4 => ?_)
  have k5 : G3 rd = some (.inr (3, [.ref rt, .int (nI L), .int (nI p), .ref nb, .int (nI bd), .int ill])) := by rw [e4, cj_up_n (cj_noa k_rd k_nb)]; exact k_rd
  have k6 : G3 nb = some (.inl (1, 90, .inl (fun j => nI (rd_up nf bd nm j)))) := by rw [e4]; exact cj_up_s
  have r7 : cj_fr [rd, nb] G G3 := by rw [e4]; exact cj_fr.up (cj_fr.rf (S := [rd, nb]) (G := G)) (by simp)
  refine cj_pc (pc' := 22) rfl ?_
  refine cj_aload_n dX3_bind_22 rfl ?_
  refine cj_dup dX3_bind_23 rfl ?_
  refine cj_get flX3_25 dX3_bind_24 k5 rfl ?_
  refine cj_iconst (v := 1) dX3_bind_27 (by decide) ?_
  refine cj_pc (pc' := 28) rfl ?_
  refine cj_iadd dX3_bind_28 ?_
  refine cj_st (st' := [.int (nI (bd + 1)), .ref rd]) (by rw [nI_1]) ?_
  refine cj_put flX3_25 dX3_bind_29 k5 rfl rfl (Nat.le_of_ble_eq_true rfl) ?_
  refine cj_nm (fun G8 e9 => ?_)
  have k10 : G8 rd = some (.inr (3, [.ref rt, .int (nI L), .int (nI p), .ref nb, .int (nI (bd + 1)), .int ill])) := by rw [e9]; exact cj_up_s
  have k11 : G8 nb = some (.inl (1, 90, .inl (fun j => nI (rd_up nf bd nm j)))) := by rw [e9, cj_up_n (cj_nao k6 k5)]; exact k6
  have r12 : cj_fr [rd, nb] G G8 := by rw [e9]; exact cj_fr.up r7 (by simp)
  refine cj_vret rfl dX3_bind_32 ?_
  exact ⟨rfl, k10, k11, r12⟩
/-- how many names were bound behind x, none: it isn't bound -/
def rd_fo (nf : Nat → Nat) (x : Nat) : Nat → Nat → Option Nat
  | 0, _ => none
  | i + 1, k => if nf i = x then some k else rd_fo nf x i (k + 1)
def rd_foI (o : Option Nat) : Int32 := match o with
  | some k => nI k
  | none => -1
set_option maxHeartbeats 4000000 in
set_option maxRecDepth 100000 in
theorem l_rfo {d k0 n0 k n : Nat} {Qr : Option Value → cj_G → Prop} {Qx : String → cj_G → Prop} {rd rt nb L p bd nm : Nat} {nf : Nat → Nat} {ill : Int32} {G : cj_G} (k_rd : G rd = some (.inr (3, [.ref rt, .int (nI L), .int (nI p), .ref nb, .int (nI bd), .int ill]))) (k_nb : G nb = some (.inl (1, 90, .inl (fun j => nI (nf j))))) (hbd : bd ≤ 90) (hnm : nm < 65536) (hnf : ∀ j, nf j < 65536) {res : Int32} (hQ : Qr (some (.int res)) G) : ∀ (i k9 : Nat), i + k9 = bd → rd_foI (rd_fo nf nm i k9) = res → cj_J mX3_furtherOn d k0 n0 Qr Qx k n 7 [(2, .int (nI i - 1)), (0, .ref rd), (1, .int (nI nm))] [] G := by
  intro i
  induction i with
  | zero =>
    intro k9 hk he
    have e0 : nI 0 - 1 = -1 := by decide
    refine cj_lvs (lv' := [(2, .int (-1)), (0, .ref rd), (1, .int (nI nm))]) (by rw [e0]) ?_
    refine cj_iload_n dX3_furtherOn_7 rfl ?_
    refine cj_if_lt (tgt := 45) dX3_furtherOn_8 (by decide) (fun h1 => ?_) (fun h1 => absurd h1 (by decide))
    refine cj_iconst (v := (-1)) dX3_furtherOn_45 (by decide) ?_
    refine cj_iret rfl dX3_furtherOn_46 ?_
    have e9 : (-1 : Int32) = res := he
    rw [e9]; exact hQ
  | succ i ih =>
    intro k9 hk he
    refine cj_lvs (lv' := [(2, .int (nI i)), (0, .ref rd), (1, .int (nI nm))]) (by rw [nI_pred]) ?_
    by_cases hm : nf i = nm
    · refine cj_iload_n dX3_furtherOn_7 rfl ?_
      refine cj_if_lt (tgt := 45) dX3_furtherOn_8 (by decide) (fun h1 => absurd h1 (nI_pos (by omega))) (fun h1 => ?_)
      refine cj_iload_n dX3_furtherOn_11 rfl ?_
      refine cj_aload_n dX3_furtherOn_12 rfl ?_
      refine cj_pc (pc' := 13) rfl ?_
      refine cj_get flX3_22 dX3_furtherOn_13 k_rd rfl ?_
      refine cj_alen (v := nI 90) dX3_furtherOn_16 k_nb rfl rfl ?_
      refine cj_icmp_ge (tgt := 45) dX3_furtherOn_17 (by decide) (fun h2 => absurd h2 (nI_ge (b := 90) (by omega) (by omega))) (fun h2 => ?_)
      refine cj_aload_n dX3_furtherOn_20 rfl ?_
      refine cj_pc (pc' := 21) rfl ?_
      refine cj_get flX3_22 dX3_furtherOn_21 k_rd rfl ?_
      refine cj_iload_n dX3_furtherOn_24 rfl ?_
      have i3 : vp_in (nI i) 90 := vp_in_nI (by omega) (by decide)
      refine cj_cald dX3_furtherOn_25 k_nb i3 ?_
      refine cj_st (st' := [.int (nI (nf i))]) (by rw [nI_clamp (by omega)]) ?_
      refine cj_iload_n dX3_furtherOn_26 rfl ?_
      refine cj_pc (pc' := 27) rfl ?_
      refine cj_icmp_ne (tgt := 39) dX3_furtherOn_27 (by decide) (fun h4 => absurd h4 (Classical.not_not.mpr (by rw [hm]))) (fun h4 => ?_)
      refine cj_aload_n dX3_furtherOn_30 rfl ?_
      refine cj_get flX3_25 dX3_furtherOn_31 k_rd rfl ?_
      refine cj_iconst (v := 1) dX3_furtherOn_34 (by decide) ?_
      refine cj_pc (pc' := 35) rfl ?_
      refine cj_isub dX3_furtherOn_35 ?_
      refine cj_iload_n dX3_furtherOn_36 rfl ?_
      refine cj_isub dX3_furtherOn_37 ?_
      refine cj_st (st' := [.int (nI k9)]) (by rw [← hk, show i + 1 + k9 = (i + k9) + 1 by omega, nI_pred, pk_sub (by omega), Nat.add_sub_cancel_left]) ?_
      refine cj_iret rfl dX3_furtherOn_38 ?_
      have e9 : nI k9 = res := by rw [← he]; unfold rd_fo; rw [if_pos hm]; rfl
      rw [e9]; exact hQ
    · refine cj_iload_n dX3_furtherOn_7 rfl ?_
      refine cj_if_lt (tgt := 45) dX3_furtherOn_8 (by decide) (fun h1 => absurd h1 (nI_pos (by omega))) (fun h1 => ?_)
      refine cj_iload_n dX3_furtherOn_11 rfl ?_
      refine cj_aload_n dX3_furtherOn_12 rfl ?_
      refine cj_pc (pc' := 13) rfl ?_
      refine cj_get flX3_22 dX3_furtherOn_13 k_rd rfl ?_
      refine cj_alen (v := nI 90) dX3_furtherOn_16 k_nb rfl rfl ?_
      refine cj_icmp_ge (tgt := 45) dX3_furtherOn_17 (by decide) (fun h2 => absurd h2 (nI_ge (b := 90) (by omega) (by omega))) (fun h2 => ?_)
      refine cj_aload_n dX3_furtherOn_20 rfl ?_
      refine cj_pc (pc' := 21) rfl ?_
      refine cj_get flX3_22 dX3_furtherOn_21 k_rd rfl ?_
      refine cj_iload_n dX3_furtherOn_24 rfl ?_
      have i3 : vp_in (nI i) 90 := vp_in_nI (by omega) (by decide)
      refine cj_cald dX3_furtherOn_25 k_nb i3 ?_
      refine cj_st (st' := [.int (nI (nf i))]) (by rw [nI_clamp (by omega)]) ?_
      refine cj_iload_n dX3_furtherOn_26 rfl ?_
      refine cj_pc (pc' := 27) rfl ?_
      refine cj_icmp_ne (tgt := 39) dX3_furtherOn_27 (by decide) (fun h4 => ?_) (fun h4 => absurd h4 (fun h9 => hm ((nI_eq (Nat.lt_trans (hnf i) (by decide)) (by omega)).mp h9)))
      refine cj_iinc (v := nI i - 1) (lv' := [(2, .int (nI i - 1)), (0, .ref rd), (1, .int (nI nm))]) dX3_furtherOn_39 rfl (by rw [Int32.sub_eq_add_neg]; rfl) (by decide) rfl ?_
      refine cj_goto (tgt := 7) dX3_furtherOn_42 (by decide) ?_
      exact ih (k9 + 1) (by omega) (by rw [← he]; conv => rhs; unfold rd_fo; rw [if_neg hm])
set_option maxHeartbeats 4000000 in
set_option maxRecDepth 100000 in
theorem t_rfurther {rd rt nb L p bd nm : Nat} {nf : Nat → Nat} {ill : Int32} {G : cj_G} (k_rd : G rd = some (.inr (3, [.ref rt, .int (nI L), .int (nI p), .ref nb, .int (nI bd), .int ill]))) (k_nb : G nb = some (.inl (1, 90, .inl (fun j => nI (nf j))))) (hbd : bd ≤ 90) (hnm : nm < 65536) (hnf : ∀ j, nf j < 65536) : cj_T mX3_furtherOn 0 0 0 [.ref rd, .int (nI nm)] G (cj_rd G (rd_foI (rd_fo nf nm bd 0))) (cj_no) := by
  refine cj_T_of (by decide) (Nat.le_of_ble_eq_true rfl) ?_
  refine cj_lvs (lv' := [(0, .ref rd), (1, .int (nI nm))]) rfl ?_
  refine cj_aload_n dX3_furtherOn_0 rfl ?_
  refine cj_get flX3_25 dX3_furtherOn_1 k_rd rfl ?_
  refine cj_iconst (v := 1) dX3_furtherOn_4 (by decide) ?_
  refine cj_isub dX3_furtherOn_5 ?_
  refine cj_pc (pc' := 6) rfl ?_
  refine cj_istore_n (lv' := [(2, .int ((nI bd) - 1)), (0, .ref rd), (1, .int (nI nm))]) dX3_furtherOn_6 (by decide) rfl ?_
  refine cj_sub (lv' := [(2, .int (nI bd - 1)), (0, .ref rd), (1, .int (nI nm))]) (by simp) ?_
  exact l_rfo k_rd k_nb hbd hnm hnf ⟨rfl, rfl⟩ bd 0 (by omega) rfl
