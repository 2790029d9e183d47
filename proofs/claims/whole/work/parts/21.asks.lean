/-! ClosureHeap$Machine: isWrong, wordsMade, perform: a contract an instruction -/
set_option maxHeartbeats 4000000 in
set_option maxRecDepth 100000 in
theorem t_isWrong_0 {G : cj_G} {m pg pa o sk ht ln a b c N t q : Nat} {f sf pf : Nat → Int32} {x acc env at9 hl rs cp9 tn9 : Int32} (k_m : G m = some (.inr (2, [.ref pg, .ref o, .ref sk, .int (nI ht), .int acc, .int env, .int at9, .int hl, .int rs]))) (k_sk : G sk = some (.inl (0, 40, .inl sf))) (k_o : G o = some (.inr (1, [.ref a, .ref b, .ref c, .int (nI t), .int cp9, .int tn9]))) (k_a : G a = some (.inl (0, N, .inl f))) (hN : N ≤ 200) (k_pg : G pg = some (.inr (0, [.ref pa, .int (nI ln)]))) (k_pa : G pa = some (.inl (0, 360, .inl pf))) (hln : ln ≤ 120) (n_sk_a : sk ≠ a) (n_pa_a : pa ≠ a) (n_pa_sk : pa ≠ sk) (hht : ht ≤ 40) (ht9 : t ≤ N) (hq : q < 1000) : cj_T mX2_isWrong 4 0 0 [.ref m, .int 0, .int x] G (cj_rd G (0)) (cj_no) := by
  refine cj_T_of (by decide) (Nat.le_of_ble_eq_true rfl) ?_
  refine cj_lvs (lv' := [(0, .ref m), (1, .int 0), (2, .int x)]) rfl ?_
  refine cj_iload_n dX2_isWrong_0 rfl ?_
  refine cj_tableOut (tgt := 166) dX2_isWrong_1 (by decide +kernel) (by decide +kernel) ?_
  refine cj_iload_n dX2_isWrong_166 rfl ?_
  refine cj_if_lt (tgt := 176) dX2_isWrong_167 (by decide) (fun h1 => absurd h1 (by decide +kernel)) (fun h1 => ?_)
  refine cj_pc (pc' := 170) rfl ?_
  refine cj_iload_n dX2_isWrong_170 rfl ?_
  refine cj_bipush (v := 20) dX2_isWrong_171 (by decide) ?_
  refine cj_icmp_le (tgt := 180) dX2_isWrong_173 (by decide) (fun h2 => ?_) (fun h2 => absurd h2 (by decide +kernel))
  refine cj_iconst (v := 0) dX2_isWrong_180 (by decide) ?_
  refine cj_pc (pc' := 181) rfl ?_
  refine cj_zret rfl (by first | rfl | decide +kernel) dX2_isWrong_181 ?_
  exact ⟨rfl, rfl⟩
set_option maxHeartbeats 4000000 in
set_option maxRecDepth 100000 in
theorem t_isWrong_1 {G : cj_G} {m pg pa o sk ht ln a b c N t q : Nat} {f sf pf : Nat → Int32} {x acc env at9 hl rs cp9 tn9 : Int32} (k_m : G m = some (.inr (2, [.ref pg, .ref o, .ref sk, .int (nI ht), .int acc, .int env, .int at9, .int hl, .int rs]))) (k_sk : G sk = some (.inl (0, 40, .inl sf))) (k_o : G o = some (.inr (1, [.ref a, .ref b, .ref c, .int (nI t), .int cp9, .int tn9]))) (k_a : G a = some (.inl (0, N, .inl f))) (hN : N ≤ 200) (k_pg : G pg = some (.inr (0, [.ref pa, .int (nI ln)]))) (k_pa : G pa = some (.inl (0, 360, .inl pf))) (hln : ln ≤ 120) (n_sk_a : sk ≠ a) (n_pa_a : pa ≠ a) (n_pa_sk : pa ≠ sk) (hht : ht ≤ 40) (ht9 : t ≤ N) (hq : q < 1000) : cj_T mX2_isWrong 4 0 0 [.ref m, .int 1, .int x] G (cj_rd G (0)) (cj_no) := by
  refine cj_T_of (by decide) (Nat.le_of_ble_eq_true rfl) ?_
  refine cj_lvs (lv' := [(0, .ref m), (1, .int 1), (2, .int x)]) rfl ?_
  refine cj_iload_n dX2_isWrong_0 rfl ?_
  refine cj_tableOut (tgt := 166) dX2_isWrong_1 (by decide +kernel) (by decide +kernel) ?_
  refine cj_iload_n dX2_isWrong_166 rfl ?_
  refine cj_if_lt (tgt := 176) dX2_isWrong_167 (by decide) (fun h1 => absurd h1 (by decide +kernel)) (fun h1 => ?_)
  refine cj_pc (pc' := 170) rfl ?_
  refine cj_iload_n dX2_isWrong_170 rfl ?_
  refine cj_bipush (v := 20) dX2_isWrong_171 (by decide) ?_
  refine cj_icmp_le (tgt := 180) dX2_isWrong_173 (by decide) (fun h2 => ?_) (fun h2 => absurd h2 (by decide +kernel))
  refine cj_iconst (v := 0) dX2_isWrong_180 (by decide) ?_
  refine cj_pc (pc' := 181) rfl ?_
  refine cj_zret rfl (by first | rfl | decide +kernel) dX2_isWrong_181 ?_
  exact ⟨rfl, rfl⟩
set_option maxHeartbeats 4000000 in
set_option maxRecDepth 100000 in
theorem t_isWrong_2 {G : cj_G} {m pg pa o sk ht ln a b c N t q : Nat} {f sf pf : Nat → Int32} {x acc env at9 hl rs cp9 tn9 : Int32} (k_m : G m = some (.inr (2, [.ref pg, .ref o, .ref sk, .int (nI ht), .int acc, .int env, .int at9, .int hl, .int rs]))) (k_sk : G sk = some (.inl (0, 40, .inl sf))) (k_o : G o = some (.inr (1, [.ref a, .ref b, .ref c, .int (nI t), .int cp9, .int tn9]))) (k_a : G a = some (.inl (0, N, .inl f))) (hN : N ≤ 200) (k_pg : G pg = some (.inr (0, [.ref pa, .int (nI ln)]))) (k_pa : G pa = some (.inl (0, 360, .inl pf))) (hln : ln ≤ 120) (n_sk_a : sk ≠ a) (n_pa_a : pa ≠ a) (n_pa_sk : pa ≠ sk) (hht : ht ≤ 40) (ht9 : t ≤ N) (hq : q < 1000) : cj_T mX2_isWrong 4 0 0 [.ref m, .int 2, .int x] G (cj_rd G (0)) (cj_no) := by
  refine cj_T_of (by decide) (Nat.le_of_ble_eq_true rfl) ?_
  refine cj_lvs (lv' := [(0, .ref m), (1, .int 2), (2, .int x)]) rfl ?_
  refine cj_iload_n dX2_isWrong_0 rfl ?_
  refine cj_tableOut (tgt := 166) dX2_isWrong_1 (by decide +kernel) (by decide +kernel) ?_
  refine cj_iload_n dX2_isWrong_166 rfl ?_
  refine cj_if_lt (tgt := 176) dX2_isWrong_167 (by decide) (fun h1 => absurd h1 (by decide +kernel)) (fun h1 => ?_)
  refine cj_pc (pc' := 170) rfl ?_
  refine cj_iload_n dX2_isWrong_170 rfl ?_
  refine cj_bipush (v := 20) dX2_isWrong_171 (by decide) ?_
  refine cj_icmp_le (tgt := 180) dX2_isWrong_173 (by decide) (fun h2 => ?_) (fun h2 => absurd h2 (by decide +kernel))
  refine cj_iconst (v := 0) dX2_isWrong_180 (by decide) ?_
  refine cj_pc (pc' := 181) rfl ?_
  refine cj_zret rfl (by first | rfl | decide +kernel) dX2_isWrong_181 ?_
  exact ⟨rfl, rfl⟩
set_option maxHeartbeats 4000000 in
set_option maxRecDepth 100000 in
theorem t_isWrong_3 {G : cj_G} {m pg pa o sk ht ln a b c N t q : Nat} {f sf pf : Nat → Int32} {x acc env at9 hl rs cp9 tn9 : Int32} (k_m : G m = some (.inr (2, [.ref pg, .ref o, .ref sk, .int (nI ht), .int acc, .int env, .int at9, .int hl, .int rs]))) (k_sk : G sk = some (.inl (0, 40, .inl sf))) (k_o : G o = some (.inr (1, [.ref a, .ref b, .ref c, .int (nI t), .int cp9, .int tn9]))) (k_a : G a = some (.inl (0, N, .inl f))) (hN : N ≤ 200) (k_pg : G pg = some (.inr (0, [.ref pa, .int (nI ln)]))) (k_pa : G pa = some (.inl (0, 360, .inl pf))) (hln : ln ≤ 120) (n_sk_a : sk ≠ a) (n_pa_a : pa ≠ a) (n_pa_sk : pa ≠ sk) (hht : ht ≤ 40) (ht9 : t ≤ N) (hq : q < 1000) : cj_T mX2_isWrong 4 0 0 [.ref m, .int 3, .int x] G (cj_rd G (0)) (cj_no) := by
  refine cj_T_of (by decide) (Nat.le_of_ble_eq_true rfl) ?_
  refine cj_lvs (lv' := [(0, .ref m), (1, .int 3), (2, .int x)]) rfl ?_
  refine cj_iload_n dX2_isWrong_0 rfl ?_
  refine cj_tableOut (tgt := 166) dX2_isWrong_1 (by decide +kernel) (by decide +kernel) ?_
  refine cj_iload_n dX2_isWrong_166 rfl ?_
  refine cj_if_lt (tgt := 176) dX2_isWrong_167 (by decide) (fun h1 => absurd h1 (by decide +kernel)) (fun h1 => ?_)
  refine cj_pc (pc' := 170) rfl ?_
  refine cj_iload_n dX2_isWrong_170 rfl ?_
  refine cj_bipush (v := 20) dX2_isWrong_171 (by decide) ?_
  refine cj_icmp_le (tgt := 180) dX2_isWrong_173 (by decide) (fun h2 => ?_) (fun h2 => absurd h2 (by decide +kernel))
  refine cj_iconst (v := 0) dX2_isWrong_180 (by decide) ?_
  refine cj_pc (pc' := 181) rfl ?_
  refine cj_zret rfl (by first | rfl | decide +kernel) dX2_isWrong_181 ?_
  exact ⟨rfl, rfl⟩
set_option maxHeartbeats 4000000 in
set_option maxRecDepth 100000 in
theorem t_isWrong_4 {G : cj_G} {m pg pa o sk ht ln a b c N t q : Nat} {f sf pf : Nat → Int32} {x acc env at9 hl rs cp9 tn9 : Int32} (k_m : G m = some (.inr (2, [.ref pg, .ref o, .ref sk, .int (nI ht), .int acc, .int env, .int at9, .int hl, .int rs]))) (k_sk : G sk = some (.inl (0, 40, .inl sf))) (k_o : G o = some (.inr (1, [.ref a, .ref b, .ref c, .int (nI t), .int cp9, .int tn9]))) (k_a : G a = some (.inl (0, N, .inl f))) (hN : N ≤ 200) (k_pg : G pg = some (.inr (0, [.ref pa, .int (nI ln)]))) (k_pa : G pa = some (.inl (0, 360, .inl pf))) (hln : ln ≤ 120) (n_sk_a : sk ≠ a) (n_pa_a : pa ≠ a) (n_pa_sk : pa ≠ sk) (hht : ht ≤ 40) (ht9 : t ≤ N) (hq : q < 1000) : cj_T mX2_isWrong 4 0 0 [.ref m, .int 4, .int x] G (cj_rd G (ch_b (¬ mc_top sf ht &&& 1 = 1 ∨ ¬ acc &&& 1 = 1))) (cj_no) := by
  refine cj_T_of (by decide) (Nat.le_of_ble_eq_true rfl) ?_
  refine cj_lvs (lv' := [(0, .ref m), (1, .int 4), (2, .int x)]) rfl ?_
  refine cj_iload_n dX2_isWrong_0 rfl ?_
  refine cj_tableIn (off := 83) (tgt := 84) dX2_isWrong_1 (by decide +kernel) (by decide +kernel) (by decide +kernel) (by decide +kernel) ?_
  refine cj_aload_n dX2_isWrong_84 rfl ?_
  refine cj_callV (M' := mX2_top) (d' := 0) (k' := 0) (n' := 0) (index := 82) (np := 0) (As := []) (rest := []) dX2_isWrong_85 lkX2_82 mwX2_top (t_top k_m k_sk hht) (by omega) rfl rfl (Nat.le_of_ble_eq_true rfl) k_m rfl (fun v9 G2 q1 => ?_) (fun _ _ h => absurd h id)
  obtain ⟨rfl, e9⟩ := q1
  subst G2
  refine cj_st (st' := [.int (mc_top sf ht)]) rfl ?_
  refine cj_pc (pc' := 88) rfl ?_
  refine cj_callSN (M' := mX6_isInt) (d' := 0) (k' := 0) (n' := 0) (index := 86) (np := 1) (As := [.int (mc_top sf ht)]) (rest := []) dX2_isWrong_88 lkX2_86 mwX6_isInt (t_isInt) (by omega) rfl rfl (Nat.le_of_ble_eq_true rfl) (fun v9 G4 q3 => ?_)
  obtain ⟨rfl, e9⟩ := q3
  subst G4
  refine cj_st (st' := [.int (ch_b ((mc_top sf ht) &&& 1 = 1))]) rfl ?_
  refine cj_if_eq (tgt := 104) dX2_isWrong_91 (by decide) (fun h5 => ?_) (fun h5 => ?_)
  · refine cj_iconst (v := 1) dX2_isWrong_104 (by decide) ?_
    refine cj_goto (tgt := 109) dX2_isWrong_105 (by decide) ?_
    refine cj_pc (pc' := 109) rfl ?_
    refine cj_zret rfl (by first | rfl | decide +kernel) dX2_isWrong_109 ?_
    refine ⟨congrArg (fun z => some (Value.int z)) ?_, rfl⟩
    try simp only [ch_b0, Classical.not_not] at h5
    simp [ch_b, h5]
  · refine cj_aload_n dX2_isWrong_94 rfl ?_
    refine cj_get flX2_19 dX2_isWrong_95 k_m rfl ?_
    refine cj_callSN (M' := mX6_isInt) (d' := 0) (k' := 0) (n' := 0) (index := 86) (np := 1) (As := [.int acc]) (rest := []) dX2_isWrong_98 lkX2_86 mwX6_isInt (t_isInt) (by omega) rfl rfl (Nat.le_of_ble_eq_true rfl) (fun v9 G7 q6 => ?_)
    obtain ⟨rfl, e9⟩ := q6
    subst G7
    refine cj_st (st' := [.int (ch_b (acc &&& 1 = 1))]) rfl ?_
    refine cj_pc (pc' := 101) rfl ?_
    refine cj_if_ne (tgt := 108) dX2_isWrong_101 (by decide) (fun h8 => ?_) (fun h8 => ?_)
    · refine cj_iconst (v := 0) dX2_isWrong_108 (by decide) ?_
      refine cj_zret rfl (by first | rfl | decide +kernel) dX2_isWrong_109 ?_
      refine ⟨congrArg (fun z => some (Value.int z)) ?_, rfl⟩
      try simp only [ch_b0, Classical.not_not] at h5
      try simp only [ch_b0, Classical.not_not] at h8
      simp [ch_b, h5, h8]
    · refine cj_iconst (v := 1) dX2_isWrong_104 (by decide) ?_
      refine cj_pc (pc' := 105) rfl ?_
      refine cj_goto (tgt := 109) dX2_isWrong_105 (by decide) ?_
      refine cj_zret rfl (by first | rfl | decide +kernel) dX2_isWrong_109 ?_
      refine ⟨congrArg (fun z => some (Value.int z)) ?_, rfl⟩
      try simp only [ch_b0, Classical.not_not] at h5
      try simp only [ch_b0, Classical.not_not] at h8
      simp [ch_b, h5, h8]
set_option maxHeartbeats 4000000 in
set_option maxRecDepth 100000 in
theorem t_isWrong_5 {G : cj_G} {m pg pa o sk ht ln a b c N t q : Nat} {f sf pf : Nat → Int32} {x acc env at9 hl rs cp9 tn9 : Int32} (k_m : G m = some (.inr (2, [.ref pg, .ref o, .ref sk, .int (nI ht), .int acc, .int env, .int at9, .int hl, .int rs]))) (k_sk : G sk = some (.inl (0, 40, .inl sf))) (k_o : G o = some (.inr (1, [.ref a, .ref b, .ref c, .int (nI t), .int cp9, .int tn9]))) (k_a : G a = some (.inl (0, N, .inl f))) (hN : N ≤ 200) (k_pg : G pg = some (.inr (0, [.ref pa, .int (nI ln)]))) (k_pa : G pa = some (.inl (0, 360, .inl pf))) (hln : ln ≤ 120) (n_sk_a : sk ≠ a) (n_pa_a : pa ≠ a) (n_pa_sk : pa ≠ sk) (hht : ht ≤ 40) (ht9 : t ≤ N) (hq : q < 1000) : cj_T mX2_isWrong 4 0 0 [.ref m, .int 5, .int x] G (cj_rd G (ch_b (¬ mc_top sf ht &&& 1 = 1 ∨ ¬ acc &&& 1 = 1))) (cj_no) := by
  refine cj_T_of (by decide) (Nat.le_of_ble_eq_true rfl) ?_
  refine cj_lvs (lv' := [(0, .ref m), (1, .int 5), (2, .int x)]) rfl ?_
  refine cj_iload_n dX2_isWrong_0 rfl ?_
  refine cj_tableIn (off := 83) (tgt := 84) dX2_isWrong_1 (by decide +kernel) (by decide +kernel) (by decide +kernel) (by decide +kernel) ?_
  refine cj_aload_n dX2_isWrong_84 rfl ?_
  refine cj_callV (M' := mX2_top) (d' := 0) (k' := 0) (n' := 0) (index := 82) (np := 0) (As := []) (rest := []) dX2_isWrong_85 lkX2_82 mwX2_top (t_top k_m k_sk hht) (by omega) rfl rfl (Nat.le_of_ble_eq_true rfl) k_m rfl (fun v9 G2 q1 => ?_) (fun _ _ h => absurd h id)
  obtain ⟨rfl, e9⟩ := q1
  subst G2
  refine cj_st (st' := [.int (mc_top sf ht)]) rfl ?_
  refine cj_pc (pc' := 88) rfl ?_
  refine cj_callSN (M' := mX6_isInt) (d' := 0) (k' := 0) (n' := 0) (index := 86) (np := 1) (As := [.int (mc_top sf ht)]) (rest := []) dX2_isWrong_88 lkX2_86 mwX6_isInt (t_isInt) (by omega) rfl rfl (Nat.le_of_ble_eq_true rfl) (fun v9 G4 q3 => ?_)
  obtain ⟨rfl, e9⟩ := q3
  subst G4
  refine cj_st (st' := [.int (ch_b ((mc_top sf ht) &&& 1 = 1))]) rfl ?_
  refine cj_if_eq (tgt := 104) dX2_isWrong_91 (by decide) (fun h5 => ?_) (fun h5 => ?_)
  · refine cj_iconst (v := 1) dX2_isWrong_104 (by decide) ?_
    refine cj_goto (tgt := 109) dX2_isWrong_105 (by decide) ?_
    refine cj_pc (pc' := 109) rfl ?_
    refine cj_zret rfl (by first | rfl | decide +kernel) dX2_isWrong_109 ?_
    refine ⟨congrArg (fun z => some (Value.int z)) ?_, rfl⟩
    try simp only [ch_b0, Classical.not_not] at h5
    simp [ch_b, h5]
  · refine cj_aload_n dX2_isWrong_94 rfl ?_
    refine cj_get flX2_19 dX2_isWrong_95 k_m rfl ?_
    refine cj_callSN (M' := mX6_isInt) (d' := 0) (k' := 0) (n' := 0) (index := 86) (np := 1) (As := [.int acc]) (rest := []) dX2_isWrong_98 lkX2_86 mwX6_isInt (t_isInt) (by omega) rfl rfl (Nat.le_of_ble_eq_true rfl) (fun v9 G7 q6 => ?_)
    obtain ⟨rfl, e9⟩ := q6
    subst G7
    refine cj_st (st' := [.int (ch_b (acc &&& 1 = 1))]) rfl ?_
    refine cj_pc (pc' := 101) rfl ?_
    refine cj_if_ne (tgt := 108) dX2_isWrong_101 (by decide) (fun h8 => ?_) (fun h8 => ?_)
    · refine cj_iconst (v := 0) dX2_isWrong_108 (by decide) ?_
      refine cj_zret rfl (by first | rfl | decide +kernel) dX2_isWrong_109 ?_
      refine ⟨congrArg (fun z => some (Value.int z)) ?_, rfl⟩
      try simp only [ch_b0, Classical.not_not] at h5
      try simp only [ch_b0, Classical.not_not] at h8
      simp [ch_b, h5, h8]
    · refine cj_iconst (v := 1) dX2_isWrong_104 (by decide) ?_
      refine cj_pc (pc' := 105) rfl ?_
      refine cj_goto (tgt := 109) dX2_isWrong_105 (by decide) ?_
      refine cj_zret rfl (by first | rfl | decide +kernel) dX2_isWrong_109 ?_
      refine ⟨congrArg (fun z => some (Value.int z)) ?_, rfl⟩
      try simp only [ch_b0, Classical.not_not] at h5
      try simp only [ch_b0, Classical.not_not] at h8
      simp [ch_b, h5, h8]
set_option maxHeartbeats 4000000 in
set_option maxRecDepth 100000 in
theorem t_isWrong_6 {G : cj_G} {m pg pa o sk ht ln a b c N t q : Nat} {f sf pf : Nat → Int32} {x acc env at9 hl rs cp9 tn9 : Int32} (k_m : G m = some (.inr (2, [.ref pg, .ref o, .ref sk, .int (nI ht), .int acc, .int env, .int at9, .int hl, .int rs]))) (k_sk : G sk = some (.inl (0, 40, .inl sf))) (k_o : G o = some (.inr (1, [.ref a, .ref b, .ref c, .int (nI t), .int cp9, .int tn9]))) (k_a : G a = some (.inl (0, N, .inl f))) (hN : N ≤ 200) (k_pg : G pg = some (.inr (0, [.ref pa, .int (nI ln)]))) (k_pa : G pa = some (.inl (0, 360, .inl pf))) (hln : ln ≤ 120) (n_sk_a : sk ≠ a) (n_pa_a : pa ≠ a) (n_pa_sk : pa ≠ sk) (hht : ht ≤ 40) (ht9 : t ≤ N) (hq : q < 1000) : cj_T mX2_isWrong 4 0 0 [.ref m, .int 6, .int x] G (cj_rd G (ch_b (¬ mc_top sf ht &&& 1 = 1 ∨ ¬ acc &&& 1 = 1))) (cj_no) := by
  refine cj_T_of (by decide) (Nat.le_of_ble_eq_true rfl) ?_
  refine cj_lvs (lv' := [(0, .ref m), (1, .int 6), (2, .int x)]) rfl ?_
  refine cj_iload_n dX2_isWrong_0 rfl ?_
  refine cj_tableIn (off := 83) (tgt := 84) dX2_isWrong_1 (by decide +kernel) (by decide +kernel) (by decide +kernel) (by decide +kernel) ?_
  refine cj_aload_n dX2_isWrong_84 rfl ?_
  refine cj_callV (M' := mX2_top) (d' := 0) (k' := 0) (n' := 0) (index := 82) (np := 0) (As := []) (rest := []) dX2_isWrong_85 lkX2_82 mwX2_top (t_top k_m k_sk hht) (by omega) rfl rfl (Nat.le_of_ble_eq_true rfl) k_m rfl (fun v9 G2 q1 => ?_) (fun _ _ h => absurd h id)
  obtain ⟨rfl, e9⟩ := q1
  subst G2
  refine cj_st (st' := [.int (mc_top sf ht)]) rfl ?_
  refine cj_pc (pc' := 88) rfl ?_
  refine cj_callSN (M' := mX6_isInt) (d' := 0) (k' := 0) (n' := 0) (index := 86) (np := 1) (As := [.int (mc_top sf ht)]) (rest := []) dX2_isWrong_88 lkX2_86 mwX6_isInt (t_isInt) (by omega) rfl rfl (Nat.le_of_ble_eq_true rfl) (fun v9 G4 q3 => ?_)
  obtain ⟨rfl, e9⟩ := q3
  subst G4
  refine cj_st (st' := [.int (ch_b ((mc_top sf ht) &&& 1 = 1))]) rfl ?_
  refine cj_if_eq (tgt := 104) dX2_isWrong_91 (by decide) (fun h5 => ?_) (fun h5 => ?_)
  · refine cj_iconst (v := 1) dX2_isWrong_104 (by decide) ?_
    refine cj_goto (tgt := 109) dX2_isWrong_105 (by decide) ?_
    refine cj_pc (pc' := 109) rfl ?_
    refine cj_zret rfl (by first | rfl | decide +kernel) dX2_isWrong_109 ?_
    refine ⟨congrArg (fun z => some (Value.int z)) ?_, rfl⟩
    try simp only [ch_b0, Classical.not_not] at h5
    simp [ch_b, h5]
  · refine cj_aload_n dX2_isWrong_94 rfl ?_
    refine cj_get flX2_19 dX2_isWrong_95 k_m rfl ?_
    refine cj_callSN (M' := mX6_isInt) (d' := 0) (k' := 0) (n' := 0) (index := 86) (np := 1) (As := [.int acc]) (rest := []) dX2_isWrong_98 lkX2_86 mwX6_isInt (t_isInt) (by omega) rfl rfl (Nat.le_of_ble_eq_true rfl) (fun v9 G7 q6 => ?_)
    obtain ⟨rfl, e9⟩ := q6
    subst G7
    refine cj_st (st' := [.int (ch_b (acc &&& 1 = 1))]) rfl ?_
    refine cj_pc (pc' := 101) rfl ?_
    refine cj_if_ne (tgt := 108) dX2_isWrong_101 (by decide) (fun h8 => ?_) (fun h8 => ?_)
    · refine cj_iconst (v := 0) dX2_isWrong_108 (by decide) ?_
      refine cj_zret rfl (by first | rfl | decide +kernel) dX2_isWrong_109 ?_
      refine ⟨congrArg (fun z => some (Value.int z)) ?_, rfl⟩
      try simp only [ch_b0, Classical.not_not] at h5
      try simp only [ch_b0, Classical.not_not] at h8
      simp [ch_b, h5, h8]
    · refine cj_iconst (v := 1) dX2_isWrong_104 (by decide) ?_
      refine cj_pc (pc' := 105) rfl ?_
      refine cj_goto (tgt := 109) dX2_isWrong_105 (by decide) ?_
      refine cj_zret rfl (by first | rfl | decide +kernel) dX2_isWrong_109 ?_
      refine ⟨congrArg (fun z => some (Value.int z)) ?_, rfl⟩
      try simp only [ch_b0, Classical.not_not] at h5
      try simp only [ch_b0, Classical.not_not] at h8
      simp [ch_b, h5, h8]
set_option maxHeartbeats 4000000 in
set_option maxRecDepth 100000 in
theorem t_isWrong_7 {G : cj_G} {m pg pa o sk ht ln a b c N t q : Nat} {f sf pf : Nat → Int32} {x acc env at9 hl rs cp9 tn9 : Int32} (k_m : G m = some (.inr (2, [.ref pg, .ref o, .ref sk, .int (nI ht), .int acc, .int env, .int at9, .int hl, .int rs]))) (k_sk : G sk = some (.inl (0, 40, .inl sf))) (k_o : G o = some (.inr (1, [.ref a, .ref b, .ref c, .int (nI t), .int cp9, .int tn9]))) (k_a : G a = some (.inl (0, N, .inl f))) (hN : N ≤ 200) (k_pg : G pg = some (.inr (0, [.ref pa, .int (nI ln)]))) (k_pa : G pa = some (.inl (0, 360, .inl pf))) (hln : ln ≤ 120) (n_sk_a : sk ≠ a) (n_pa_a : pa ≠ a) (n_pa_sk : pa ≠ sk) (hht : ht ≤ 40) (ht9 : t ≤ N) (hq : q < 1000) : cj_T mX2_isWrong 4 0 0 [.ref m, .int 7, .int x] G (cj_rd G (ch_b (¬ mc_top sf ht &&& 1 = 1 ∨ ¬ acc &&& 1 = 1))) (cj_no) := by
  refine cj_T_of (by decide) (Nat.le_of_ble_eq_true rfl) ?_
  refine cj_lvs (lv' := [(0, .ref m), (1, .int 7), (2, .int x)]) rfl ?_
  refine cj_iload_n dX2_isWrong_0 rfl ?_
  refine cj_tableIn (off := 83) (tgt := 84) dX2_isWrong_1 (by decide +kernel) (by decide +kernel) (by decide +kernel) (by decide +kernel) ?_
  refine cj_aload_n dX2_isWrong_84 rfl ?_
  refine cj_callV (M' := mX2_top) (d' := 0) (k' := 0) (n' := 0) (index := 82) (np := 0) (As := []) (rest := []) dX2_isWrong_85 lkX2_82 mwX2_top (t_top k_m k_sk hht) (by omega) rfl rfl (Nat.le_of_ble_eq_true rfl) k_m rfl (fun v9 G2 q1 => ?_) (fun _ _ h => absurd h id)
  obtain ⟨rfl, e9⟩ := q1
  subst G2
  refine cj_st (st' := [.int (mc_top sf ht)]) rfl ?_
  refine cj_pc (pc' := 88) rfl ?_
  refine cj_callSN (M' := mX6_isInt) (d' := 0) (k' := 0) (n' := 0) (index := 86) (np := 1) (As := [.int (mc_top sf ht)]) (rest := []) dX2_isWrong_88 lkX2_86 mwX6_isInt (t_isInt) (by omega) rfl rfl (Nat.le_of_ble_eq_true rfl) (fun v9 G4 q3 => ?_)
  obtain ⟨rfl, e9⟩ := q3
  subst G4
  refine cj_st (st' := [.int (ch_b ((mc_top sf ht) &&& 1 = 1))]) rfl ?_
  refine cj_if_eq (tgt := 104) dX2_isWrong_91 (by decide) (fun h5 => ?_) (fun h5 => ?_)
  · refine cj_iconst (v := 1) dX2_isWrong_104 (by decide) ?_
    refine cj_goto (tgt := 109) dX2_isWrong_105 (by decide) ?_
    refine cj_pc (pc' := 109) rfl ?_
    refine cj_zret rfl (by first | rfl | decide +kernel) dX2_isWrong_109 ?_
    refine ⟨congrArg (fun z => some (Value.int z)) ?_, rfl⟩
    try simp only [ch_b0, Classical.not_not] at h5
    simp [ch_b, h5]
  · refine cj_aload_n dX2_isWrong_94 rfl ?_
    refine cj_get flX2_19 dX2_isWrong_95 k_m rfl ?_
    refine cj_callSN (M' := mX6_isInt) (d' := 0) (k' := 0) (n' := 0) (index := 86) (np := 1) (As := [.int acc]) (rest := []) dX2_isWrong_98 lkX2_86 mwX6_isInt (t_isInt) (by omega) rfl rfl (Nat.le_of_ble_eq_true rfl) (fun v9 G7 q6 => ?_)
    obtain ⟨rfl, e9⟩ := q6
    subst G7
    refine cj_st (st' := [.int (ch_b (acc &&& 1 = 1))]) rfl ?_
    refine cj_pc (pc' := 101) rfl ?_
    refine cj_if_ne (tgt := 108) dX2_isWrong_101 (by decide) (fun h8 => ?_) (fun h8 => ?_)
    · refine cj_iconst (v := 0) dX2_isWrong_108 (by decide) ?_
      refine cj_zret rfl (by first | rfl | decide +kernel) dX2_isWrong_109 ?_
      refine ⟨congrArg (fun z => some (Value.int z)) ?_, rfl⟩
      try simp only [ch_b0, Classical.not_not] at h5
      try simp only [ch_b0, Classical.not_not] at h8
      simp [ch_b, h5, h8]
    · refine cj_iconst (v := 1) dX2_isWrong_104 (by decide) ?_
      refine cj_pc (pc' := 105) rfl ?_
      refine cj_goto (tgt := 109) dX2_isWrong_105 (by decide) ?_
      refine cj_zret rfl (by first | rfl | decide +kernel) dX2_isWrong_109 ?_
      refine ⟨congrArg (fun z => some (Value.int z)) ?_, rfl⟩
      try simp only [ch_b0, Classical.not_not] at h5
      try simp only [ch_b0, Classical.not_not] at h8
      simp [ch_b, h5, h8]
set_option maxHeartbeats 4000000 in
set_option maxRecDepth 100000 in
theorem t_isWrong_8 {G : cj_G} {m pg pa o sk ht ln a b c N t q : Nat} {f sf pf : Nat → Int32} {x acc env at9 hl rs cp9 tn9 : Int32} (k_m : G m = some (.inr (2, [.ref pg, .ref o, .ref sk, .int (nI ht), .int acc, .int env, .int at9, .int hl, .int rs]))) (k_sk : G sk = some (.inl (0, 40, .inl sf))) (k_o : G o = some (.inr (1, [.ref a, .ref b, .ref c, .int (nI t), .int cp9, .int tn9]))) (k_a : G a = some (.inl (0, N, .inl f))) (hN : N ≤ 200) (k_pg : G pg = some (.inr (0, [.ref pa, .int (nI ln)]))) (k_pa : G pa = some (.inl (0, 360, .inl pf))) (hln : ln ≤ 120) (n_sk_a : sk ≠ a) (n_pa_a : pa ≠ a) (n_pa_sk : pa ≠ sk) (hht : ht ≤ 40) (ht9 : t ≤ N) (hq : q < 1000) : cj_T mX2_isWrong 4 0 0 [.ref m, .int 8, .int x] G (cj_rd G (ch_b (¬ mc_top sf ht &&& 1 = 1 ∨ ¬ acc &&& 1 = 1))) (cj_no) := by
  refine cj_T_of (by decide) (Nat.le_of_ble_eq_true rfl) ?_
  refine cj_lvs (lv' := [(0, .ref m), (1, .int 8), (2, .int x)]) rfl ?_
  refine cj_iload_n dX2_isWrong_0 rfl ?_
  refine cj_tableIn (off := 83) (tgt := 84) dX2_isWrong_1 (by decide +kernel) (by decide +kernel) (by decide +kernel) (by decide +kernel) ?_
  refine cj_aload_n dX2_isWrong_84 rfl ?_
  refine cj_callV (M' := mX2_top) (d' := 0) (k' := 0) (n' := 0) (index := 82) (np := 0) (As := []) (rest := []) dX2_isWrong_85 lkX2_82 mwX2_top (t_top k_m k_sk hht) (by omega) rfl rfl (Nat.le_of_ble_eq_true rfl) k_m rfl (fun v9 G2 q1 => ?_) (fun _ _ h => absurd h id)
  obtain ⟨rfl, e9⟩ := q1
  subst G2
  refine cj_st (st' := [.int (mc_top sf ht)]) rfl ?_
  refine cj_pc (pc' := 88) rfl ?_
  refine cj_callSN (M' := mX6_isInt) (d' := 0) (k' := 0) (n' := 0) (index := 86) (np := 1) (As := [.int (mc_top sf ht)]) (rest := []) dX2_isWrong_88 lkX2_86 mwX6_isInt (t_isInt) (by omega) rfl rfl (Nat.le_of_ble_eq_true rfl) (fun v9 G4 q3 => ?_)
  obtain ⟨rfl, e9⟩ := q3
  subst G4
  refine cj_st (st' := [.int (ch_b ((mc_top sf ht) &&& 1 = 1))]) rfl ?_
  refine cj_if_eq (tgt := 104) dX2_isWrong_91 (by decide) (fun h5 => ?_) (fun h5 => ?_)
  · refine cj_iconst (v := 1) dX2_isWrong_104 (by decide) ?_
    refine cj_goto (tgt := 109) dX2_isWrong_105 (by decide) ?_
    refine cj_pc (pc' := 109) rfl ?_
    refine cj_zret rfl (by first | rfl | decide +kernel) dX2_isWrong_109 ?_
    refine ⟨congrArg (fun z => some (Value.int z)) ?_, rfl⟩
    try simp only [ch_b0, Classical.not_not] at h5
    simp [ch_b, h5]
  · refine cj_aload_n dX2_isWrong_94 rfl ?_
    refine cj_get flX2_19 dX2_isWrong_95 k_m rfl ?_
    refine cj_callSN (M' := mX6_isInt) (d' := 0) (k' := 0) (n' := 0) (index := 86) (np := 1) (As := [.int acc]) (rest := []) dX2_isWrong_98 lkX2_86 mwX6_isInt (t_isInt) (by omega) rfl rfl (Nat.le_of_ble_eq_true rfl) (fun v9 G7 q6 => ?_)
    obtain ⟨rfl, e9⟩ := q6
    subst G7
    refine cj_st (st' := [.int (ch_b (acc &&& 1 = 1))]) rfl ?_
    refine cj_pc (pc' := 101) rfl ?_
    refine cj_if_ne (tgt := 108) dX2_isWrong_101 (by decide) (fun h8 => ?_) (fun h8 => ?_)
    · refine cj_iconst (v := 0) dX2_isWrong_108 (by decide) ?_
      refine cj_zret rfl (by first | rfl | decide +kernel) dX2_isWrong_109 ?_
      refine ⟨congrArg (fun z => some (Value.int z)) ?_, rfl⟩
      try simp only [ch_b0, Classical.not_not] at h5
      try simp only [ch_b0, Classical.not_not] at h8
      simp [ch_b, h5, h8]
    · refine cj_iconst (v := 1) dX2_isWrong_104 (by decide) ?_
      refine cj_pc (pc' := 105) rfl ?_
      refine cj_goto (tgt := 109) dX2_isWrong_105 (by decide) ?_
      refine cj_zret rfl (by first | rfl | decide +kernel) dX2_isWrong_109 ?_
      refine ⟨congrArg (fun z => some (Value.int z)) ?_, rfl⟩
      try simp only [ch_b0, Classical.not_not] at h5
      try simp only [ch_b0, Classical.not_not] at h8
      simp [ch_b, h5, h8]
set_option maxHeartbeats 4000000 in
set_option maxRecDepth 100000 in
theorem t_isWrong_9 {G : cj_G} {m pg pa o sk ht ln a b c N t q : Nat} {f sf pf : Nat → Int32} {x acc env at9 hl rs cp9 tn9 : Int32} (k_m : G m = some (.inr (2, [.ref pg, .ref o, .ref sk, .int (nI ht), .int acc, .int env, .int at9, .int hl, .int rs]))) (k_sk : G sk = some (.inl (0, 40, .inl sf))) (k_o : G o = some (.inr (1, [.ref a, .ref b, .ref c, .int (nI t), .int cp9, .int tn9]))) (k_a : G a = some (.inl (0, N, .inl f))) (hN : N ≤ 200) (k_pg : G pg = some (.inr (0, [.ref pa, .int (nI ln)]))) (k_pa : G pa = some (.inl (0, 360, .inl pf))) (hln : ln ≤ 120) (n_sk_a : sk ≠ a) (n_pa_a : pa ≠ a) (n_pa_sk : pa ≠ sk) (hht : ht ≤ 40) (ht9 : t ≤ N) (hq : q < 1000) : cj_T mX2_isWrong 4 0 0 [.ref m, .int 9, .int x] G (cj_rd G (0)) (cj_no) := by
  refine cj_T_of (by decide) (Nat.le_of_ble_eq_true rfl) ?_
  refine cj_lvs (lv' := [(0, .ref m), (1, .int 9), (2, .int x)]) rfl ?_
  refine cj_iload_n dX2_isWrong_0 rfl ?_
  refine cj_tableIn (off := 165) (tgt := 166) dX2_isWrong_1 (by decide +kernel) (by decide +kernel) (by decide +kernel) (by decide +kernel) ?_
  refine cj_iload_n dX2_isWrong_166 rfl ?_
  refine cj_if_lt (tgt := 176) dX2_isWrong_167 (by decide) (fun h1 => absurd h1 (by decide +kernel)) (fun h1 => ?_)
  refine cj_pc (pc' := 170) rfl ?_
  refine cj_iload_n dX2_isWrong_170 rfl ?_
  refine cj_bipush (v := 20) dX2_isWrong_171 (by decide) ?_
  refine cj_icmp_le (tgt := 180) dX2_isWrong_173 (by decide) (fun h2 => ?_) (fun h2 => absurd h2 (by decide +kernel))
  refine cj_iconst (v := 0) dX2_isWrong_180 (by decide) ?_
  refine cj_pc (pc' := 181) rfl ?_
  refine cj_zret rfl (by first | rfl | decide +kernel) dX2_isWrong_181 ?_
  exact ⟨rfl, rfl⟩
set_option maxHeartbeats 4000000 in
set_option maxRecDepth 100000 in
theorem t_isWrong_10 {G : cj_G} {m pg pa o sk ht ln a b c N t q : Nat} {f sf pf : Nat → Int32} {x acc env at9 hl rs cp9 tn9 : Int32} (k_m : G m = some (.inr (2, [.ref pg, .ref o, .ref sk, .int (nI ht), .int acc, .int env, .int at9, .int hl, .int rs]))) (k_sk : G sk = some (.inl (0, 40, .inl sf))) (k_o : G o = some (.inr (1, [.ref a, .ref b, .ref c, .int (nI t), .int cp9, .int tn9]))) (k_a : G a = some (.inl (0, N, .inl f))) (hN : N ≤ 200) (k_pg : G pg = some (.inr (0, [.ref pa, .int (nI ln)]))) (k_pa : G pa = some (.inl (0, 360, .inl pf))) (hln : ln ≤ 120) (n_sk_a : sk ≠ a) (n_pa_a : pa ≠ a) (n_pa_sk : pa ≠ sk) (hht : ht ≤ 40) (ht9 : t ≤ N) (hq : q < 1000) : cj_T mX2_isWrong 4 0 0 [.ref m, .int 10, .int x] G (cj_rd G (0)) (cj_no) := by
  refine cj_T_of (by decide) (Nat.le_of_ble_eq_true rfl) ?_
  refine cj_lvs (lv' := [(0, .ref m), (1, .int 10), (2, .int x)]) rfl ?_
  refine cj_iload_n dX2_isWrong_0 rfl ?_
  refine cj_tableIn (off := 165) (tgt := 166) dX2_isWrong_1 (by decide +kernel) (by decide +kernel) (by decide +kernel) (by decide +kernel) ?_
  refine cj_iload_n dX2_isWrong_166 rfl ?_
  refine cj_if_lt (tgt := 176) dX2_isWrong_167 (by decide) (fun h1 => absurd h1 (by decide +kernel)) (fun h1 => ?_)
  refine cj_pc (pc' := 170) rfl ?_
  refine cj_iload_n dX2_isWrong_170 rfl ?_
  refine cj_bipush (v := 20) dX2_isWrong_171 (by decide) ?_
  refine cj_icmp_le (tgt := 180) dX2_isWrong_173 (by decide) (fun h2 => ?_) (fun h2 => absurd h2 (by decide +kernel))
  refine cj_iconst (v := 0) dX2_isWrong_180 (by decide) ?_
  refine cj_pc (pc' := 181) rfl ?_
  refine cj_zret rfl (by first | rfl | decide +kernel) dX2_isWrong_181 ?_
  exact ⟨rfl, rfl⟩
set_option maxHeartbeats 4000000 in
set_option maxRecDepth 100000 in
theorem t_isWrong_11 {G : cj_G} {m pg pa o sk ht ln a b c N t q : Nat} {f sf pf : Nat → Int32} {x acc env at9 hl rs cp9 tn9 : Int32} (k_m : G m = some (.inr (2, [.ref pg, .ref o, .ref sk, .int (nI ht), .int acc, .int env, .int at9, .int hl, .int rs]))) (k_sk : G sk = some (.inl (0, 40, .inl sf))) (k_o : G o = some (.inr (1, [.ref a, .ref b, .ref c, .int (nI t), .int cp9, .int tn9]))) (k_a : G a = some (.inl (0, N, .inl f))) (hN : N ≤ 200) (k_pg : G pg = some (.inr (0, [.ref pa, .int (nI ln)]))) (k_pa : G pa = some (.inl (0, 360, .inl pf))) (hln : ln ≤ 120) (n_sk_a : sk ≠ a) (n_pa_a : pa ≠ a) (n_pa_sk : pa ≠ sk) (hht : ht ≤ 40) (ht9 : t ≤ N) (hq : q < 1000) : cj_T mX2_isWrong 4 0 0 [.ref m, .int 11, .int x] G (cj_rd G (0)) (cj_no) := by
  refine cj_T_of (by decide) (Nat.le_of_ble_eq_true rfl) ?_
  refine cj_lvs (lv' := [(0, .ref m), (1, .int 11), (2, .int x)]) rfl ?_
  refine cj_iload_n dX2_isWrong_0 rfl ?_
  refine cj_tableIn (off := 165) (tgt := 166) dX2_isWrong_1 (by decide +kernel) (by decide +kernel) (by decide +kernel) (by decide +kernel) ?_
  refine cj_iload_n dX2_isWrong_166 rfl ?_
  refine cj_if_lt (tgt := 176) dX2_isWrong_167 (by decide) (fun h1 => absurd h1 (by decide +kernel)) (fun h1 => ?_)
  refine cj_pc (pc' := 170) rfl ?_
  refine cj_iload_n dX2_isWrong_170 rfl ?_
  refine cj_bipush (v := 20) dX2_isWrong_171 (by decide) ?_
  refine cj_icmp_le (tgt := 180) dX2_isWrong_173 (by decide) (fun h2 => ?_) (fun h2 => absurd h2 (by decide +kernel))
  refine cj_iconst (v := 0) dX2_isWrong_180 (by decide) ?_
  refine cj_pc (pc' := 181) rfl ?_
  refine cj_zret rfl (by first | rfl | decide +kernel) dX2_isWrong_181 ?_
  exact ⟨rfl, rfl⟩
set_option maxHeartbeats 4000000 in
set_option maxRecDepth 100000 in
theorem t_isWrong_12 {G : cj_G} {m pg pa o sk ht ln a b c N t q : Nat} {f sf pf : Nat → Int32} {x acc env at9 hl rs cp9 tn9 : Int32} (k_m : G m = some (.inr (2, [.ref pg, .ref o, .ref sk, .int (nI ht), .int acc, .int env, .int at9, .int hl, .int rs]))) (k_sk : G sk = some (.inl (0, 40, .inl sf))) (k_o : G o = some (.inr (1, [.ref a, .ref b, .ref c, .int (nI t), .int cp9, .int tn9]))) (k_a : G a = some (.inl (0, N, .inl f))) (hN : N ≤ 200) (k_pg : G pg = some (.inr (0, [.ref pa, .int (nI ln)]))) (k_pa : G pa = some (.inl (0, 360, .inl pf))) (hln : ln ≤ 120) (n_sk_a : sk ≠ a) (n_pa_a : pa ≠ a) (n_pa_sk : pa ≠ sk) (hht : ht ≤ 40) (ht9 : t ≤ N) (hq : q < 1000) : cj_T mX2_isWrong 4 0 0 [.ref m, .int 12, .int x] G (cj_rd G (0)) (cj_no) := by
  refine cj_T_of (by decide) (Nat.le_of_ble_eq_true rfl) ?_
  refine cj_lvs (lv' := [(0, .ref m), (1, .int 12), (2, .int x)]) rfl ?_
  refine cj_iload_n dX2_isWrong_0 rfl ?_
  refine cj_tableIn (off := 165) (tgt := 166) dX2_isWrong_1 (by decide +kernel) (by decide +kernel) (by decide +kernel) (by decide +kernel) ?_
  refine cj_iload_n dX2_isWrong_166 rfl ?_
  refine cj_if_lt (tgt := 176) dX2_isWrong_167 (by decide) (fun h1 => absurd h1 (by decide +kernel)) (fun h1 => ?_)
  refine cj_pc (pc' := 170) rfl ?_
  refine cj_iload_n dX2_isWrong_170 rfl ?_
  refine cj_bipush (v := 20) dX2_isWrong_171 (by decide) ?_
  refine cj_icmp_le (tgt := 180) dX2_isWrong_173 (by decide) (fun h2 => ?_) (fun h2 => absurd h2 (by decide +kernel))
  refine cj_iconst (v := 0) dX2_isWrong_180 (by decide) ?_
  refine cj_pc (pc' := 181) rfl ?_
  refine cj_zret rfl (by first | rfl | decide +kernel) dX2_isWrong_181 ?_
  exact ⟨rfl, rfl⟩
set_option maxHeartbeats 4000000 in
set_option maxRecDepth 100000 in
theorem t_isWrong_13 {G : cj_G} {m pg pa o sk ht ln a b c N t q : Nat} {f sf pf : Nat → Int32} {x acc env at9 hl rs cp9 tn9 : Int32} (k_m : G m = some (.inr (2, [.ref pg, .ref o, .ref sk, .int (nI ht), .int acc, .int env, .int at9, .int hl, .int rs]))) (k_sk : G sk = some (.inl (0, 40, .inl sf))) (k_o : G o = some (.inr (1, [.ref a, .ref b, .ref c, .int (nI t), .int cp9, .int tn9]))) (k_a : G a = some (.inl (0, N, .inl f))) (hN : N ≤ 200) (k_pg : G pg = some (.inr (0, [.ref pa, .int (nI ln)]))) (k_pa : G pa = some (.inl (0, 360, .inl pf))) (hln : ln ≤ 120) (n_sk_a : sk ≠ a) (n_pa_a : pa ≠ a) (n_pa_sk : pa ≠ sk) (hht : ht ≤ 40) (ht9 : t ≤ N) (hq : q < 1000) : cj_T mX2_isWrong 4 0 0 [.ref m, .int 13, .int x] G (cj_rd G (ch_b (¬ hp_fnb f (nI t) acc = true))) (cj_no) := by
  refine cj_T_of (by decide) (Nat.le_of_ble_eq_true rfl) ?_
  refine cj_lvs (lv' := [(0, .ref m), (1, .int 13), (2, .int x)]) rfl ?_
  refine cj_iload_n dX2_isWrong_0 rfl ?_
  refine cj_tableIn (off := 124) (tgt := 125) dX2_isWrong_1 (by decide +kernel) (by decide +kernel) (by decide +kernel) (by decide +kernel) ?_
  refine cj_aload_n dX2_isWrong_125 rfl ?_
  refine cj_get flX2_39 dX2_isWrong_126 k_m rfl ?_
  refine cj_pc (pc' := 129) rfl ?_
  refine cj_aload_n dX2_isWrong_129 rfl ?_
  refine cj_get flX2_19 dX2_isWrong_130 k_m rfl ?_
  refine cj_callV (M' := mX1_isFunction) (d' := 2) (k' := 0) (n' := 0) (index := 92) (np := 1) (As := [.int acc]) (rest := []) dX2_isWrong_133 lkX2_92 mwX1_isFunction (t_isFunction k_o k_a (by rw [nI_toInt (by omega)]; omega)) (by omega) rfl rfl (Nat.le_of_ble_eq_true rfl) k_o rfl (fun v9 G2 q1 => ?_) (fun _ _ h => absurd h id)
  obtain ⟨rfl, e9⟩ := q1
  subst G2
  refine cj_st (st' := [.int (ch_b (hp_fnb f (nI t) acc = true))]) rfl ?_
  refine cj_if_ne (tgt := 143) dX2_isWrong_136 (by decide) (fun h3 => ?_) (fun h3 => ?_)
  · refine cj_pc (pc' := 143) rfl ?_
    refine cj_iconst (v := 0) dX2_isWrong_143 (by decide) ?_
    refine cj_zret rfl (by first | rfl | decide +kernel) dX2_isWrong_144 ?_
    refine ⟨congrArg (fun z => some (Value.int z)) ?_, rfl⟩
    try simp only [ch_b0, Classical.not_not] at h3
    simp [ch_b, h3]
  · refine cj_iconst (v := 1) dX2_isWrong_139 (by decide) ?_
    refine cj_goto (tgt := 144) dX2_isWrong_140 (by decide) ?_
    refine cj_pc (pc' := 144) rfl ?_
    refine cj_zret rfl (by first | rfl | decide +kernel) dX2_isWrong_144 ?_
    refine ⟨congrArg (fun z => some (Value.int z)) ?_, rfl⟩
    try simp only [ch_b0, Classical.not_not] at h3
    simp [ch_b, h3]
set_option maxHeartbeats 4000000 in
set_option maxRecDepth 100000 in
theorem t_isWrong_14 {G : cj_G} {m pg pa o sk ht ln a b c N t q : Nat} {f sf pf : Nat → Int32} {x acc env at9 hl rs cp9 tn9 : Int32} (k_m : G m = some (.inr (2, [.ref pg, .ref o, .ref sk, .int (nI ht), .int acc, .int env, .int at9, .int hl, .int rs]))) (k_sk : G sk = some (.inl (0, 40, .inl sf))) (k_o : G o = some (.inr (1, [.ref a, .ref b, .ref c, .int (nI t), .int cp9, .int tn9]))) (k_a : G a = some (.inl (0, N, .inl f))) (hN : N ≤ 200) (k_pg : G pg = some (.inr (0, [.ref pa, .int (nI ln)]))) (k_pa : G pa = some (.inl (0, 360, .inl pf))) (hln : ln ≤ 120) (n_sk_a : sk ≠ a) (n_pa_a : pa ≠ a) (n_pa_sk : pa ≠ sk) (hht : ht ≤ 40) (ht9 : t ≤ N) (hq : q < 1000) : cj_T mX2_isWrong 4 0 0 [.ref m, .int 14, .int x] G (cj_rd G (0)) (cj_no) := by
  refine cj_T_of (by decide) (Nat.le_of_ble_eq_true rfl) ?_
  refine cj_lvs (lv' := [(0, .ref m), (1, .int 14), (2, .int x)]) rfl ?_
  refine cj_iload_n dX2_isWrong_0 rfl ?_
  refine cj_tableIn (off := 165) (tgt := 166) dX2_isWrong_1 (by decide +kernel) (by decide +kernel) (by decide +kernel) (by decide +kernel) ?_
  refine cj_iload_n dX2_isWrong_166 rfl ?_
  refine cj_if_lt (tgt := 176) dX2_isWrong_167 (by decide) (fun h1 => absurd h1 (by decide +kernel)) (fun h1 => ?_)
  refine cj_pc (pc' := 170) rfl ?_
  refine cj_iload_n dX2_isWrong_170 rfl ?_
  refine cj_bipush (v := 20) dX2_isWrong_171 (by decide) ?_
  refine cj_icmp_le (tgt := 180) dX2_isWrong_173 (by decide) (fun h2 => ?_) (fun h2 => absurd h2 (by decide +kernel))
  refine cj_iconst (v := 0) dX2_isWrong_180 (by decide) ?_
  refine cj_pc (pc' := 181) rfl ?_
  refine cj_zret rfl (by first | rfl | decide +kernel) dX2_isWrong_181 ?_
  exact ⟨rfl, rfl⟩
set_option maxHeartbeats 4000000 in
set_option maxRecDepth 100000 in
theorem t_isWrong_15 {G : cj_G} {m pg pa o sk ht ln a b c N t q : Nat} {f sf pf : Nat → Int32} {x acc env at9 hl rs cp9 tn9 : Int32} (k_m : G m = some (.inr (2, [.ref pg, .ref o, .ref sk, .int (nI ht), .int acc, .int env, .int at9, .int hl, .int rs]))) (k_sk : G sk = some (.inl (0, 40, .inl sf))) (k_o : G o = some (.inr (1, [.ref a, .ref b, .ref c, .int (nI t), .int cp9, .int tn9]))) (k_a : G a = some (.inl (0, N, .inl f))) (hN : N ≤ 200) (k_pg : G pg = some (.inr (0, [.ref pa, .int (nI ln)]))) (k_pa : G pa = some (.inl (0, 360, .inl pf))) (hln : ln ≤ 120) (n_sk_a : sk ≠ a) (n_pa_a : pa ≠ a) (n_pa_sk : pa ≠ sk) (hht : ht ≤ 40) (ht9 : t ≤ N) (hq : q < 1000) : cj_T mX2_isWrong 4 0 0 [.ref m, .int 15, .int x] G (cj_rd G (0)) (cj_no) := by
  refine cj_T_of (by decide) (Nat.le_of_ble_eq_true rfl) ?_
  refine cj_lvs (lv' := [(0, .ref m), (1, .int 15), (2, .int x)]) rfl ?_
  refine cj_iload_n dX2_isWrong_0 rfl ?_
  refine cj_tableIn (off := 165) (tgt := 166) dX2_isWrong_1 (by decide +kernel) (by decide +kernel) (by decide +kernel) (by decide +kernel) ?_
  refine cj_iload_n dX2_isWrong_166 rfl ?_
  refine cj_if_lt (tgt := 176) dX2_isWrong_167 (by decide) (fun h1 => absurd h1 (by decide +kernel)) (fun h1 => ?_)
  refine cj_pc (pc' := 170) rfl ?_
  refine cj_iload_n dX2_isWrong_170 rfl ?_
  refine cj_bipush (v := 20) dX2_isWrong_171 (by decide) ?_
  refine cj_icmp_le (tgt := 180) dX2_isWrong_173 (by decide) (fun h2 => ?_) (fun h2 => absurd h2 (by decide +kernel))
  refine cj_iconst (v := 0) dX2_isWrong_180 (by decide) ?_
  refine cj_pc (pc' := 181) rfl ?_
  refine cj_zret rfl (by first | rfl | decide +kernel) dX2_isWrong_181 ?_
  exact ⟨rfl, rfl⟩
set_option maxHeartbeats 4000000 in
set_option maxRecDepth 100000 in
theorem t_isWrong_16 {G : cj_G} {m pg pa o sk ht ln a b c N t q : Nat} {f sf pf : Nat → Int32} {x acc env at9 hl rs cp9 tn9 : Int32} (k_m : G m = some (.inr (2, [.ref pg, .ref o, .ref sk, .int (nI ht), .int acc, .int env, .int at9, .int hl, .int rs]))) (k_sk : G sk = some (.inl (0, 40, .inl sf))) (k_o : G o = some (.inr (1, [.ref a, .ref b, .ref c, .int (nI t), .int cp9, .int tn9]))) (k_a : G a = some (.inl (0, N, .inl f))) (hN : N ≤ 200) (k_pg : G pg = some (.inr (0, [.ref pa, .int (nI ln)]))) (k_pa : G pa = some (.inl (0, 360, .inl pf))) (hln : ln ≤ 120) (n_sk_a : sk ≠ a) (n_pa_a : pa ≠ a) (n_pa_sk : pa ≠ sk) (hht : ht ≤ 40) (ht9 : t ≤ N) (hq : q < 1000) : cj_T mX2_isWrong 4 0 0 [.ref m, .int 16, .int x] G (cj_rd G (0)) (cj_no) := by
  refine cj_T_of (by decide) (Nat.le_of_ble_eq_true rfl) ?_
  refine cj_lvs (lv' := [(0, .ref m), (1, .int 16), (2, .int x)]) rfl ?_
  refine cj_iload_n dX2_isWrong_0 rfl ?_
  refine cj_tableIn (off := 165) (tgt := 166) dX2_isWrong_1 (by decide +kernel) (by decide +kernel) (by decide +kernel) (by decide +kernel) ?_
  refine cj_iload_n dX2_isWrong_166 rfl ?_
  refine cj_if_lt (tgt := 176) dX2_isWrong_167 (by decide) (fun h1 => absurd h1 (by decide +kernel)) (fun h1 => ?_)
  refine cj_pc (pc' := 170) rfl ?_
  refine cj_iload_n dX2_isWrong_170 rfl ?_
  refine cj_bipush (v := 20) dX2_isWrong_171 (by decide) ?_
  refine cj_icmp_le (tgt := 180) dX2_isWrong_173 (by decide) (fun h2 => ?_) (fun h2 => absurd h2 (by decide +kernel))
  refine cj_iconst (v := 0) dX2_isWrong_180 (by decide) ?_
  refine cj_pc (pc' := 181) rfl ?_
  refine cj_zret rfl (by first | rfl | decide +kernel) dX2_isWrong_181 ?_
  exact ⟨rfl, rfl⟩
set_option maxHeartbeats 4000000 in
set_option maxRecDepth 100000 in
theorem t_isWrong_17 {G : cj_G} {m pg pa o sk ht ln a b c N t q : Nat} {f sf pf : Nat → Int32} {x acc env at9 hl rs cp9 tn9 : Int32} (k_m : G m = some (.inr (2, [.ref pg, .ref o, .ref sk, .int (nI ht), .int acc, .int env, .int at9, .int hl, .int rs]))) (k_sk : G sk = some (.inl (0, 40, .inl sf))) (k_o : G o = some (.inr (1, [.ref a, .ref b, .ref c, .int (nI t), .int cp9, .int tn9]))) (k_a : G a = some (.inl (0, N, .inl f))) (hN : N ≤ 200) (k_pg : G pg = some (.inr (0, [.ref pa, .int (nI ln)]))) (k_pa : G pa = some (.inl (0, 360, .inl pf))) (hln : ln ≤ 120) (n_sk_a : sk ≠ a) (n_pa_a : pa ≠ a) (n_pa_sk : pa ≠ sk) (hht : ht ≤ 40) (ht9 : t ≤ N) (hq : q < 1000) : cj_T mX2_isWrong 4 0 0 [.ref m, .int 17, .int x] G (cj_rd G (0)) (cj_no) := by
  refine cj_T_of (by decide) (Nat.le_of_ble_eq_true rfl) ?_
  refine cj_lvs (lv' := [(0, .ref m), (1, .int 17), (2, .int x)]) rfl ?_
  refine cj_iload_n dX2_isWrong_0 rfl ?_
  refine cj_tableIn (off := 165) (tgt := 166) dX2_isWrong_1 (by decide +kernel) (by decide +kernel) (by decide +kernel) (by decide +kernel) ?_
  refine cj_iload_n dX2_isWrong_166 rfl ?_
  refine cj_if_lt (tgt := 176) dX2_isWrong_167 (by decide) (fun h1 => absurd h1 (by decide +kernel)) (fun h1 => ?_)
  refine cj_pc (pc' := 170) rfl ?_
  refine cj_iload_n dX2_isWrong_170 rfl ?_
  refine cj_bipush (v := 20) dX2_isWrong_171 (by decide) ?_
  refine cj_icmp_le (tgt := 180) dX2_isWrong_173 (by decide) (fun h2 => ?_) (fun h2 => absurd h2 (by decide +kernel))
  refine cj_iconst (v := 0) dX2_isWrong_180 (by decide) ?_
  refine cj_pc (pc' := 181) rfl ?_
  refine cj_zret rfl (by first | rfl | decide +kernel) dX2_isWrong_181 ?_
  exact ⟨rfl, rfl⟩
set_option maxHeartbeats 4000000 in
set_option maxRecDepth 100000 in
theorem t_isWrong_18 {G : cj_G} {m pg pa o sk ht ln a b c N t q : Nat} {f sf pf : Nat → Int32} {x acc env at9 hl rs cp9 tn9 : Int32} (k_m : G m = some (.inr (2, [.ref pg, .ref o, .ref sk, .int (nI ht), .int acc, .int env, .int at9, .int hl, .int rs]))) (k_sk : G sk = some (.inl (0, 40, .inl sf))) (k_o : G o = some (.inr (1, [.ref a, .ref b, .ref c, .int (nI t), .int cp9, .int tn9]))) (k_a : G a = some (.inl (0, N, .inl f))) (hN : N ≤ 200) (k_pg : G pg = some (.inr (0, [.ref pa, .int (nI ln)]))) (k_pa : G pa = some (.inl (0, 360, .inl pf))) (hln : ln ≤ 120) (n_sk_a : sk ≠ a) (n_pa_a : pa ≠ a) (n_pa_sk : pa ≠ sk) (hht : ht ≤ 40) (ht9 : t ≤ N) (hq : q < 1000) : cj_T mX2_isWrong 4 0 0 [.ref m, .int 18, .int (nI q)] G (cj_rd G (ch_b (mc_pc pf ln at9 (hp_co f (nI t) acc) q 1 = -1))) (cj_no) := by
  refine cj_T_of (by decide) (Nat.le_of_ble_eq_true rfl) ?_
  refine cj_lvs (lv' := [(0, .ref m), (1, .int 18), (2, .int (nI q))]) rfl ?_
  refine cj_iload_n dX2_isWrong_0 rfl ?_
  refine cj_tableIn (off := 109) (tgt := 110) dX2_isWrong_1 (by decide +kernel) (by decide +kernel) (by decide +kernel) (by decide +kernel) ?_
  refine cj_aload_n dX2_isWrong_110 rfl ?_
  refine cj_iload_n dX2_isWrong_111 rfl ?_
  refine cj_pc (pc' := 112) rfl ?_
  refine cj_callV (M' := mX2_placeOfCase) (d' := 3) (k' := 0) (n' := 0) (index := 89) (np := 1) (As := [.int (nI q)]) (rest := []) dX2_isWrong_112 lkX2_89 mwX2_placeOfCase (t_placeOfCase k_m k_o k_a hN ht9 k_pg k_pa hln (by omega)) (by omega) rfl rfl (Nat.le_of_ble_eq_true rfl) k_m rfl (fun v9 G2 q1 => ?_) (fun _ _ h => absurd h id)
  obtain ⟨rfl, e9⟩ := q1
  subst G2
  refine cj_st (st' := [.int (mc_pc pf ln at9 (hp_co f (nI t) acc) q 1)]) rfl ?_
  refine cj_iconst (v := (-1)) dX2_isWrong_115 (by decide) ?_
  refine cj_icmp_ne (tgt := 123) dX2_isWrong_116 (by decide) (fun h3 => ?_) (fun h3 => ?_)
  · refine cj_iconst (v := 0) dX2_isWrong_123 (by decide) ?_
    refine cj_pc (pc' := 124) rfl ?_
    refine cj_zret rfl (by first | rfl | decide +kernel) dX2_isWrong_124 ?_
    refine ⟨congrArg (fun z => some (Value.int z)) ?_, rfl⟩
    try simp only [ch_b0, Classical.not_not] at h3
    simp [ch_b, h3]
  · refine cj_iconst (v := 1) dX2_isWrong_119 (by decide) ?_
    refine cj_goto (tgt := 124) dX2_isWrong_120 (by decide) ?_
    refine cj_zret rfl (by first | rfl | decide +kernel) dX2_isWrong_124 ?_
    refine ⟨congrArg (fun z => some (Value.int z)) ?_, rfl⟩
    try simp only [ch_b0, Classical.not_not] at h3
    simp [ch_b, h3]
set_option maxHeartbeats 4000000 in
set_option maxRecDepth 100000 in
theorem t_isWrong_19 {G : cj_G} {m pg pa o sk ht ln a b c N t q : Nat} {f sf pf : Nat → Int32} {x acc env at9 hl rs cp9 tn9 : Int32} (k_m : G m = some (.inr (2, [.ref pg, .ref o, .ref sk, .int (nI ht), .int acc, .int env, .int at9, .int hl, .int rs]))) (k_sk : G sk = some (.inl (0, 40, .inl sf))) (k_o : G o = some (.inr (1, [.ref a, .ref b, .ref c, .int (nI t), .int cp9, .int tn9]))) (k_a : G a = some (.inl (0, N, .inl f))) (hN : N ≤ 200) (k_pg : G pg = some (.inr (0, [.ref pa, .int (nI ln)]))) (k_pa : G pa = some (.inl (0, 360, .inl pf))) (hln : ln ≤ 120) (n_sk_a : sk ≠ a) (n_pa_a : pa ≠ a) (n_pa_sk : pa ≠ sk) (hht : ht ≤ 40) (ht9 : t ≤ N) (hq : q < 1000) : cj_T mX2_isWrong 4 0 0 [.ref m, .int 19, .int x] G (cj_rd G (0)) (cj_no) := by
  refine cj_T_of (by decide) (Nat.le_of_ble_eq_true rfl) ?_
  refine cj_lvs (lv' := [(0, .ref m), (1, .int 19), (2, .int x)]) rfl ?_
  refine cj_iload_n dX2_isWrong_0 rfl ?_
  refine cj_tableIn (off := 165) (tgt := 166) dX2_isWrong_1 (by decide +kernel) (by decide +kernel) (by decide +kernel) (by decide +kernel) ?_
  refine cj_iload_n dX2_isWrong_166 rfl ?_
  refine cj_if_lt (tgt := 176) dX2_isWrong_167 (by decide) (fun h1 => absurd h1 (by decide +kernel)) (fun h1 => ?_)
  refine cj_pc (pc' := 170) rfl ?_
  refine cj_iload_n dX2_isWrong_170 rfl ?_
  refine cj_bipush (v := 20) dX2_isWrong_171 (by decide) ?_
  refine cj_icmp_le (tgt := 180) dX2_isWrong_173 (by decide) (fun h2 => ?_) (fun h2 => absurd h2 (by decide +kernel))
  refine cj_iconst (v := 0) dX2_isWrong_180 (by decide) ?_
  refine cj_pc (pc' := 181) rfl ?_
  refine cj_zret rfl (by first | rfl | decide +kernel) dX2_isWrong_181 ?_
  exact ⟨rfl, rfl⟩
set_option maxHeartbeats 4000000 in
set_option maxRecDepth 100000 in
theorem t_isWrong_20 {G : cj_G} {m pg pa o sk ht ln a b c N t q : Nat} {f sf pf : Nat → Int32} {x acc env at9 hl rs cp9 tn9 : Int32} (k_m : G m = some (.inr (2, [.ref pg, .ref o, .ref sk, .int (nI ht), .int acc, .int env, .int at9, .int hl, .int rs]))) (k_sk : G sk = some (.inl (0, 40, .inl sf))) (k_o : G o = some (.inr (1, [.ref a, .ref b, .ref c, .int (nI t), .int cp9, .int tn9]))) (k_a : G a = some (.inl (0, N, .inl f))) (hN : N ≤ 200) (k_pg : G pg = some (.inr (0, [.ref pa, .int (nI ln)]))) (k_pa : G pa = some (.inl (0, 360, .inl pf))) (hln : ln ≤ 120) (n_sk_a : sk ≠ a) (n_pa_a : pa ≠ a) (n_pa_sk : pa ≠ sk) (hht : ht ≤ 40) (ht9 : t ≤ N) (hq : q < 1000) : cj_T mX2_isWrong 4 0 0 [.ref m, .int 20, .int (nI q)] G (cj_rd G (ch_b (¬ hp_bw f (nI t) acc = nI q))) (cj_no) := by
  refine cj_T_of (by decide) (Nat.le_of_ble_eq_true rfl) ?_
  refine cj_lvs (lv' := [(0, .ref m), (1, .int 20), (2, .int (nI q))]) rfl ?_
  refine cj_iload_n dX2_isWrong_0 rfl ?_
  refine cj_tableIn (off := 144) (tgt := 145) dX2_isWrong_1 (by decide +kernel) (by decide +kernel) (by decide +kernel) (by decide +kernel) ?_
  refine cj_aload_n dX2_isWrong_145 rfl ?_
  refine cj_get flX2_39 dX2_isWrong_146 k_m rfl ?_
  refine cj_pc (pc' := 149) rfl ?_
  refine cj_aload_n dX2_isWrong_149 rfl ?_
  refine cj_get flX2_19 dX2_isWrong_150 k_m rfl ?_
  refine cj_callV (M' := mX1_blockWords) (d' := 1) (k' := 0) (n' := 0) (index := 95) (np := 1) (As := [.int acc]) (rest := []) dX2_isWrong_153 lkX2_95 mwX1_blockWords (t_blockWords k_o k_a (by rw [nI_toInt (by omega)]; omega)) (by omega) rfl rfl (Nat.le_of_ble_eq_true rfl) k_o rfl (fun v9 G2 q1 => ?_) (fun _ _ h => absurd h id)
  obtain ⟨rfl, e9⟩ := q1
  subst G2
  refine cj_st (st' := [.int (hp_bw f (nI t) acc)]) rfl ?_
  refine cj_iload_n dX2_isWrong_156 rfl ?_
  refine cj_pc (pc' := 157) rfl ?_
  refine cj_icmp_eq (tgt := 164) dX2_isWrong_157 (by decide) (fun h3 => ?_) (fun h3 => ?_)
  · refine cj_iconst (v := 0) dX2_isWrong_164 (by decide) ?_
    refine cj_zret rfl (by first | rfl | decide +kernel) dX2_isWrong_165 ?_
    refine ⟨congrArg (fun z => some (Value.int z)) ?_, rfl⟩
    try simp only [ch_b0, Classical.not_not] at h3
    simp [ch_b, h3]
  · refine cj_iconst (v := 1) dX2_isWrong_160 (by decide) ?_
    refine cj_pc (pc' := 161) rfl ?_
    refine cj_goto (tgt := 165) dX2_isWrong_161 (by decide) ?_
    refine cj_zret rfl (by first | rfl | decide +kernel) dX2_isWrong_165 ?_
    refine ⟨congrArg (fun z => some (Value.int z)) ?_, rfl⟩
    try simp only [ch_b0, Classical.not_not] at h3
    simp [ch_b, h3]
set_option maxHeartbeats 4000000 in
set_option maxRecDepth 100000 in
theorem t_wordsMade_0 {G : cj_G} {m pg pa o sk ht ln a b c N t q : Nat} {f sf pf : Nat → Int32} {x acc env at9 hl rs cp9 tn9 : Int32} (k_m : G m = some (.inr (2, [.ref pg, .ref o, .ref sk, .int (nI ht), .int acc, .int env, .int at9, .int hl, .int rs]))) (k_sk : G sk = some (.inl (0, 40, .inl sf))) (k_o : G o = some (.inr (1, [.ref a, .ref b, .ref c, .int (nI t), .int cp9, .int tn9]))) (k_a : G a = some (.inl (0, N, .inl f))) (hN : N ≤ 200) (k_pg : G pg = some (.inr (0, [.ref pa, .int (nI ln)]))) (k_pa : G pa = some (.inl (0, 360, .inl pf))) (hln : ln ≤ 120) (n_sk_a : sk ≠ a) (n_pa_a : pa ≠ a) (n_pa_sk : pa ≠ sk) (hht : ht ≤ 40) (ht9 : t ≤ N) (hq : q < 1000) : cj_T mX2_wordsMade 2 0 0 [.ref m, .int 0, .int x] G (cj_rd G (0)) (cj_no) := by
  refine cj_T_of (by decide) (Nat.le_of_ble_eq_true rfl) ?_
  refine cj_lvs (lv' := [(0, .ref m), (1, .int 0), (2, .int x)]) rfl ?_
  refine cj_iload_n dX2_wordsMade_0 rfl ?_
  refine cj_tableOut (tgt := 100) dX2_wordsMade_1 (by decide +kernel) (by decide +kernel) ?_
  refine cj_iconst (v := 0) dX2_wordsMade_100 (by decide) ?_
  refine cj_iret rfl dX2_wordsMade_101 ?_
  exact ⟨rfl, rfl⟩
set_option maxHeartbeats 4000000 in
set_option maxRecDepth 100000 in
theorem t_wordsMade_1 {G : cj_G} {m pg pa o sk ht ln a b c N t q : Nat} {f sf pf : Nat → Int32} {x acc env at9 hl rs cp9 tn9 : Int32} (k_m : G m = some (.inr (2, [.ref pg, .ref o, .ref sk, .int (nI ht), .int acc, .int env, .int at9, .int hl, .int rs]))) (k_sk : G sk = some (.inl (0, 40, .inl sf))) (k_o : G o = some (.inr (1, [.ref a, .ref b, .ref c, .int (nI t), .int cp9, .int tn9]))) (k_a : G a = some (.inl (0, N, .inl f))) (hN : N ≤ 200) (k_pg : G pg = some (.inr (0, [.ref pa, .int (nI ln)]))) (k_pa : G pa = some (.inl (0, 360, .inl pf))) (hln : ln ≤ 120) (n_sk_a : sk ≠ a) (n_pa_a : pa ≠ a) (n_pa_sk : pa ≠ sk) (hht : ht ≤ 40) (ht9 : t ≤ N) (hq : q < 1000) : cj_T mX2_wordsMade 2 0 0 [.ref m, .int 1, .int x] G (cj_rd G (0)) (cj_no) := by
  refine cj_T_of (by decide) (Nat.le_of_ble_eq_true rfl) ?_
  refine cj_lvs (lv' := [(0, .ref m), (1, .int 1), (2, .int x)]) rfl ?_
  refine cj_iload_n dX2_wordsMade_0 rfl ?_
  refine cj_tableOut (tgt := 100) dX2_wordsMade_1 (by decide +kernel) (by decide +kernel) ?_
  refine cj_iconst (v := 0) dX2_wordsMade_100 (by decide) ?_
  refine cj_iret rfl dX2_wordsMade_101 ?_
  exact ⟨rfl, rfl⟩
set_option maxHeartbeats 4000000 in
set_option maxRecDepth 100000 in
theorem t_wordsMade_2 {G : cj_G} {m pg pa o sk ht ln a b c N t q : Nat} {f sf pf : Nat → Int32} {x acc env at9 hl rs cp9 tn9 : Int32} (k_m : G m = some (.inr (2, [.ref pg, .ref o, .ref sk, .int (nI ht), .int acc, .int env, .int at9, .int hl, .int rs]))) (k_sk : G sk = some (.inl (0, 40, .inl sf))) (k_o : G o = some (.inr (1, [.ref a, .ref b, .ref c, .int (nI t), .int cp9, .int tn9]))) (k_a : G a = some (.inl (0, N, .inl f))) (hN : N ≤ 200) (k_pg : G pg = some (.inr (0, [.ref pa, .int (nI ln)]))) (k_pa : G pa = some (.inl (0, 360, .inl pf))) (hln : ln ≤ 120) (n_sk_a : sk ≠ a) (n_pa_a : pa ≠ a) (n_pa_sk : pa ≠ sk) (hht : ht ≤ 40) (ht9 : t ≤ N) (hq : q < 1000) : cj_T mX2_wordsMade 2 0 0 [.ref m, .int 2, .int x] G (cj_rd G (0)) (cj_no) := by
  refine cj_T_of (by decide) (Nat.le_of_ble_eq_true rfl) ?_
  refine cj_lvs (lv' := [(0, .ref m), (1, .int 2), (2, .int x)]) rfl ?_
  refine cj_iload_n dX2_wordsMade_0 rfl ?_
  refine cj_tableOut (tgt := 100) dX2_wordsMade_1 (by decide +kernel) (by decide +kernel) ?_
  refine cj_iconst (v := 0) dX2_wordsMade_100 (by decide) ?_
  refine cj_iret rfl dX2_wordsMade_101 ?_
  exact ⟨rfl, rfl⟩
set_option maxHeartbeats 4000000 in
set_option maxRecDepth 100000 in
theorem t_wordsMade_3 {G : cj_G} {m pg pa o sk ht ln a b c N t q : Nat} {f sf pf : Nat → Int32} {x acc env at9 hl rs cp9 tn9 : Int32} (k_m : G m = some (.inr (2, [.ref pg, .ref o, .ref sk, .int (nI ht), .int acc, .int env, .int at9, .int hl, .int rs]))) (k_sk : G sk = some (.inl (0, 40, .inl sf))) (k_o : G o = some (.inr (1, [.ref a, .ref b, .ref c, .int (nI t), .int cp9, .int tn9]))) (k_a : G a = some (.inl (0, N, .inl f))) (hN : N ≤ 200) (k_pg : G pg = some (.inr (0, [.ref pa, .int (nI ln)]))) (k_pa : G pa = some (.inl (0, 360, .inl pf))) (hln : ln ≤ 120) (n_sk_a : sk ≠ a) (n_pa_a : pa ≠ a) (n_pa_sk : pa ≠ sk) (hht : ht ≤ 40) (ht9 : t ≤ N) (hq : q < 1000) : cj_T mX2_wordsMade 2 0 0 [.ref m, .int 3, .int x] G (cj_rd G (0)) (cj_no) := by
  refine cj_T_of (by decide) (Nat.le_of_ble_eq_true rfl) ?_
  refine cj_lvs (lv' := [(0, .ref m), (1, .int 3), (2, .int x)]) rfl ?_
  refine cj_iload_n dX2_wordsMade_0 rfl ?_
  refine cj_tableOut (tgt := 100) dX2_wordsMade_1 (by decide +kernel) (by decide +kernel) ?_
  refine cj_iconst (v := 0) dX2_wordsMade_100 (by decide) ?_
  refine cj_iret rfl dX2_wordsMade_101 ?_
  exact ⟨rfl, rfl⟩
set_option maxHeartbeats 4000000 in
set_option maxRecDepth 100000 in
theorem t_wordsMade_4 {G : cj_G} {m pg pa o sk ht ln a b c N t q : Nat} {f sf pf : Nat → Int32} {x acc env at9 hl rs cp9 tn9 : Int32} (k_m : G m = some (.inr (2, [.ref pg, .ref o, .ref sk, .int (nI ht), .int acc, .int env, .int at9, .int hl, .int rs]))) (k_sk : G sk = some (.inl (0, 40, .inl sf))) (k_o : G o = some (.inr (1, [.ref a, .ref b, .ref c, .int (nI t), .int cp9, .int tn9]))) (k_a : G a = some (.inl (0, N, .inl f))) (hN : N ≤ 200) (k_pg : G pg = some (.inr (0, [.ref pa, .int (nI ln)]))) (k_pa : G pa = some (.inl (0, 360, .inl pf))) (hln : ln ≤ 120) (n_sk_a : sk ≠ a) (n_pa_a : pa ≠ a) (n_pa_sk : pa ≠ sk) (hht : ht ≤ 40) (ht9 : t ≤ N) (hq : q < 1000) : cj_T mX2_wordsMade 2 0 0 [.ref m, .int 4, .int x] G (cj_rd G (0)) (cj_no) := by
  refine cj_T_of (by decide) (Nat.le_of_ble_eq_true rfl) ?_
  refine cj_lvs (lv' := [(0, .ref m), (1, .int 4), (2, .int x)]) rfl ?_
  refine cj_iload_n dX2_wordsMade_0 rfl ?_
  refine cj_tableOut (tgt := 100) dX2_wordsMade_1 (by decide +kernel) (by decide +kernel) ?_
  refine cj_iconst (v := 0) dX2_wordsMade_100 (by decide) ?_
  refine cj_iret rfl dX2_wordsMade_101 ?_
  exact ⟨rfl, rfl⟩
set_option maxHeartbeats 4000000 in
set_option maxRecDepth 100000 in
theorem t_wordsMade_5 {G : cj_G} {m pg pa o sk ht ln a b c N t q : Nat} {f sf pf : Nat → Int32} {x acc env at9 hl rs cp9 tn9 : Int32} (k_m : G m = some (.inr (2, [.ref pg, .ref o, .ref sk, .int (nI ht), .int acc, .int env, .int at9, .int hl, .int rs]))) (k_sk : G sk = some (.inl (0, 40, .inl sf))) (k_o : G o = some (.inr (1, [.ref a, .ref b, .ref c, .int (nI t), .int cp9, .int tn9]))) (k_a : G a = some (.inl (0, N, .inl f))) (hN : N ≤ 200) (k_pg : G pg = some (.inr (0, [.ref pa, .int (nI ln)]))) (k_pa : G pa = some (.inl (0, 360, .inl pf))) (hln : ln ≤ 120) (n_sk_a : sk ≠ a) (n_pa_a : pa ≠ a) (n_pa_sk : pa ≠ sk) (hht : ht ≤ 40) (ht9 : t ≤ N) (hq : q < 1000) : cj_T mX2_wordsMade 2 0 0 [.ref m, .int 5, .int x] G (cj_rd G (0)) (cj_no) := by
  refine cj_T_of (by decide) (Nat.le_of_ble_eq_true rfl) ?_
  refine cj_lvs (lv' := [(0, .ref m), (1, .int 5), (2, .int x)]) rfl ?_
  refine cj_iload_n dX2_wordsMade_0 rfl ?_
  refine cj_tableOut (tgt := 100) dX2_wordsMade_1 (by decide +kernel) (by decide +kernel) ?_
  refine cj_iconst (v := 0) dX2_wordsMade_100 (by decide) ?_
  refine cj_iret rfl dX2_wordsMade_101 ?_
  exact ⟨rfl, rfl⟩
set_option maxHeartbeats 4000000 in
set_option maxRecDepth 100000 in
theorem t_wordsMade_6 {G : cj_G} {m pg pa o sk ht ln a b c N t q : Nat} {f sf pf : Nat → Int32} {x acc env at9 hl rs cp9 tn9 : Int32} (k_m : G m = some (.inr (2, [.ref pg, .ref o, .ref sk, .int (nI ht), .int acc, .int env, .int at9, .int hl, .int rs]))) (k_sk : G sk = some (.inl (0, 40, .inl sf))) (k_o : G o = some (.inr (1, [.ref a, .ref b, .ref c, .int (nI t), .int cp9, .int tn9]))) (k_a : G a = some (.inl (0, N, .inl f))) (hN : N ≤ 200) (k_pg : G pg = some (.inr (0, [.ref pa, .int (nI ln)]))) (k_pa : G pa = some (.inl (0, 360, .inl pf))) (hln : ln ≤ 120) (n_sk_a : sk ≠ a) (n_pa_a : pa ≠ a) (n_pa_sk : pa ≠ sk) (hht : ht ≤ 40) (ht9 : t ≤ N) (hq : q < 1000) : cj_T mX2_wordsMade 2 0 0 [.ref m, .int 6, .int x] G (cj_rd G (0)) (cj_no) := by
  refine cj_T_of (by decide) (Nat.le_of_ble_eq_true rfl) ?_
  refine cj_lvs (lv' := [(0, .ref m), (1, .int 6), (2, .int x)]) rfl ?_
  refine cj_iload_n dX2_wordsMade_0 rfl ?_
  refine cj_tableOut (tgt := 100) dX2_wordsMade_1 (by decide +kernel) (by decide +kernel) ?_
  refine cj_iconst (v := 0) dX2_wordsMade_100 (by decide) ?_
  refine cj_iret rfl dX2_wordsMade_101 ?_
  exact ⟨rfl, rfl⟩
set_option maxHeartbeats 4000000 in
set_option maxRecDepth 100000 in
theorem t_wordsMade_7 {G : cj_G} {m pg pa o sk ht ln a b c N t q : Nat} {f sf pf : Nat → Int32} {x acc env at9 hl rs cp9 tn9 : Int32} (k_m : G m = some (.inr (2, [.ref pg, .ref o, .ref sk, .int (nI ht), .int acc, .int env, .int at9, .int hl, .int rs]))) (k_sk : G sk = some (.inl (0, 40, .inl sf))) (k_o : G o = some (.inr (1, [.ref a, .ref b, .ref c, .int (nI t), .int cp9, .int tn9]))) (k_a : G a = some (.inl (0, N, .inl f))) (hN : N ≤ 200) (k_pg : G pg = some (.inr (0, [.ref pa, .int (nI ln)]))) (k_pa : G pa = some (.inl (0, 360, .inl pf))) (hln : ln ≤ 120) (n_sk_a : sk ≠ a) (n_pa_a : pa ≠ a) (n_pa_sk : pa ≠ sk) (hht : ht ≤ 40) (ht9 : t ≤ N) (hq : q < 1000) : cj_T mX2_wordsMade 2 0 0 [.ref m, .int 7, .int x] G (cj_rd G (0)) (cj_no) := by
  refine cj_T_of (by decide) (Nat.le_of_ble_eq_true rfl) ?_
  refine cj_lvs (lv' := [(0, .ref m), (1, .int 7), (2, .int x)]) rfl ?_
  refine cj_iload_n dX2_wordsMade_0 rfl ?_
  refine cj_tableOut (tgt := 100) dX2_wordsMade_1 (by decide +kernel) (by decide +kernel) ?_
  refine cj_iconst (v := 0) dX2_wordsMade_100 (by decide) ?_
  refine cj_iret rfl dX2_wordsMade_101 ?_
  exact ⟨rfl, rfl⟩
set_option maxHeartbeats 4000000 in
set_option maxRecDepth 100000 in
theorem t_wordsMade_8 {G : cj_G} {m pg pa o sk ht ln a b c N t q : Nat} {f sf pf : Nat → Int32} {x acc env at9 hl rs cp9 tn9 : Int32} (k_m : G m = some (.inr (2, [.ref pg, .ref o, .ref sk, .int (nI ht), .int acc, .int env, .int at9, .int hl, .int rs]))) (k_sk : G sk = some (.inl (0, 40, .inl sf))) (k_o : G o = some (.inr (1, [.ref a, .ref b, .ref c, .int (nI t), .int cp9, .int tn9]))) (k_a : G a = some (.inl (0, N, .inl f))) (hN : N ≤ 200) (k_pg : G pg = some (.inr (0, [.ref pa, .int (nI ln)]))) (k_pa : G pa = some (.inl (0, 360, .inl pf))) (hln : ln ≤ 120) (n_sk_a : sk ≠ a) (n_pa_a : pa ≠ a) (n_pa_sk : pa ≠ sk) (hht : ht ≤ 40) (ht9 : t ≤ N) (hq : q < 1000) : cj_T mX2_wordsMade 2 0 0 [.ref m, .int 8, .int x] G (cj_rd G (0)) (cj_no) := by
  refine cj_T_of (by decide) (Nat.le_of_ble_eq_true rfl) ?_
  refine cj_lvs (lv' := [(0, .ref m), (1, .int 8), (2, .int x)]) rfl ?_
  refine cj_iload_n dX2_wordsMade_0 rfl ?_
  refine cj_tableOut (tgt := 100) dX2_wordsMade_1 (by decide +kernel) (by decide +kernel) ?_
  refine cj_iconst (v := 0) dX2_wordsMade_100 (by decide) ?_
  refine cj_iret rfl dX2_wordsMade_101 ?_
  exact ⟨rfl, rfl⟩
set_option maxHeartbeats 4000000 in
set_option maxRecDepth 100000 in
theorem t_wordsMade_9 {G : cj_G} {m pg pa o sk ht ln a b c N t q : Nat} {f sf pf : Nat → Int32} {x acc env at9 hl rs cp9 tn9 : Int32} (k_m : G m = some (.inr (2, [.ref pg, .ref o, .ref sk, .int (nI ht), .int acc, .int env, .int at9, .int hl, .int rs]))) (k_sk : G sk = some (.inl (0, 40, .inl sf))) (k_o : G o = some (.inr (1, [.ref a, .ref b, .ref c, .int (nI t), .int cp9, .int tn9]))) (k_a : G a = some (.inl (0, N, .inl f))) (hN : N ≤ 200) (k_pg : G pg = some (.inr (0, [.ref pa, .int (nI ln)]))) (k_pa : G pa = some (.inl (0, 360, .inl pf))) (hln : ln ≤ 120) (n_sk_a : sk ≠ a) (n_pa_a : pa ≠ a) (n_pa_sk : pa ≠ sk) (hht : ht ≤ 40) (ht9 : t ≤ N) (hq : q < 1000) : cj_T mX2_wordsMade 2 0 0 [.ref m, .int 9, .int x] G (cj_rd G (3)) (cj_no) := by
  refine cj_T_of (by decide) (Nat.le_of_ble_eq_true rfl) ?_
  refine cj_lvs (lv' := [(0, .ref m), (1, .int 9), (2, .int x)]) rfl ?_
  refine cj_iload_n dX2_wordsMade_0 rfl ?_
  refine cj_tableIn (off := 63) (tgt := 64) dX2_wordsMade_1 (by decide +kernel) (by decide +kernel) (by decide +kernel) (by decide +kernel) ?_
  refine cj_iconst (v := 3) dX2_wordsMade_64 (by decide) ?_
  refine cj_iret rfl dX2_wordsMade_65 ?_
  exact ⟨rfl, rfl⟩
set_option maxHeartbeats 4000000 in
set_option maxRecDepth 100000 in
theorem t_wordsMade_10 {G : cj_G} {m pg pa o sk ht ln a b c N t q : Nat} {f sf pf : Nat → Int32} {x acc env at9 hl rs cp9 tn9 : Int32} (k_m : G m = some (.inr (2, [.ref pg, .ref o, .ref sk, .int (nI ht), .int acc, .int env, .int at9, .int hl, .int rs]))) (k_sk : G sk = some (.inl (0, 40, .inl sf))) (k_o : G o = some (.inr (1, [.ref a, .ref b, .ref c, .int (nI t), .int cp9, .int tn9]))) (k_a : G a = some (.inl (0, N, .inl f))) (hN : N ≤ 200) (k_pg : G pg = some (.inr (0, [.ref pa, .int (nI ln)]))) (k_pa : G pa = some (.inl (0, 360, .inl pf))) (hln : ln ≤ 120) (n_sk_a : sk ≠ a) (n_pa_a : pa ≠ a) (n_pa_sk : pa ≠ sk) (hht : ht ≤ 40) (ht9 : t ≤ N) (hq : q < 1000) : cj_T mX2_wordsMade 2 0 0 [.ref m, .int 10, .int x] G (cj_rd G (3)) (cj_no) := by
  refine cj_T_of (by decide) (Nat.le_of_ble_eq_true rfl) ?_
  refine cj_lvs (lv' := [(0, .ref m), (1, .int 10), (2, .int x)]) rfl ?_
  refine cj_iload_n dX2_wordsMade_0 rfl ?_
  refine cj_tableIn (off := 63) (tgt := 64) dX2_wordsMade_1 (by decide +kernel) (by decide +kernel) (by decide +kernel) (by decide +kernel) ?_
  refine cj_iconst (v := 3) dX2_wordsMade_64 (by decide) ?_
  refine cj_iret rfl dX2_wordsMade_65 ?_
  exact ⟨rfl, rfl⟩
set_option maxHeartbeats 4000000 in
set_option maxRecDepth 100000 in
theorem t_wordsMade_11 {G : cj_G} {m pg pa o sk ht ln a b c N t q : Nat} {f sf pf : Nat → Int32} {x acc env at9 hl rs cp9 tn9 : Int32} (k_m : G m = some (.inr (2, [.ref pg, .ref o, .ref sk, .int (nI ht), .int acc, .int env, .int at9, .int hl, .int rs]))) (k_sk : G sk = some (.inl (0, 40, .inl sf))) (k_o : G o = some (.inr (1, [.ref a, .ref b, .ref c, .int (nI t), .int cp9, .int tn9]))) (k_a : G a = some (.inl (0, N, .inl f))) (hN : N ≤ 200) (k_pg : G pg = some (.inr (0, [.ref pa, .int (nI ln)]))) (k_pa : G pa = some (.inl (0, 360, .inl pf))) (hln : ln ≤ 120) (n_sk_a : sk ≠ a) (n_pa_a : pa ≠ a) (n_pa_sk : pa ≠ sk) (hht : ht ≤ 40) (ht9 : t ≤ N) (hq : q < 1000) : cj_T mX2_wordsMade 2 0 0 [.ref m, .int 11, .int x] G (cj_rd G (0)) (cj_no) := by
  refine cj_T_of (by decide) (Nat.le_of_ble_eq_true rfl) ?_
  refine cj_lvs (lv' := [(0, .ref m), (1, .int 11), (2, .int x)]) rfl ?_
  refine cj_iload_n dX2_wordsMade_0 rfl ?_
  refine cj_tableIn (off := 99) (tgt := 100) dX2_wordsMade_1 (by decide +kernel) (by decide +kernel) (by decide +kernel) (by decide +kernel) ?_
  refine cj_iconst (v := 0) dX2_wordsMade_100 (by decide) ?_
  refine cj_iret rfl dX2_wordsMade_101 ?_
  exact ⟨rfl, rfl⟩
set_option maxHeartbeats 4000000 in
set_option maxRecDepth 100000 in
theorem t_wordsMade_12 {G : cj_G} {m pg pa o sk ht ln a b c N t q : Nat} {f sf pf : Nat → Int32} {x acc env at9 hl rs cp9 tn9 : Int32} (k_m : G m = some (.inr (2, [.ref pg, .ref o, .ref sk, .int (nI ht), .int acc, .int env, .int at9, .int hl, .int rs]))) (k_sk : G sk = some (.inl (0, 40, .inl sf))) (k_o : G o = some (.inr (1, [.ref a, .ref b, .ref c, .int (nI t), .int cp9, .int tn9]))) (k_a : G a = some (.inl (0, N, .inl f))) (hN : N ≤ 200) (k_pg : G pg = some (.inr (0, [.ref pa, .int (nI ln)]))) (k_pa : G pa = some (.inl (0, 360, .inl pf))) (hln : ln ≤ 120) (n_sk_a : sk ≠ a) (n_pa_a : pa ≠ a) (n_pa_sk : pa ≠ sk) (hht : ht ≤ 40) (ht9 : t ≤ N) (hq : q < 1000) : cj_T mX2_wordsMade 2 0 0 [.ref m, .int 12, .int x] G (cj_rd G (0)) (cj_no) := by
  refine cj_T_of (by decide) (Nat.le_of_ble_eq_true rfl) ?_
  refine cj_lvs (lv' := [(0, .ref m), (1, .int 12), (2, .int x)]) rfl ?_
  refine cj_iload_n dX2_wordsMade_0 rfl ?_
  refine cj_tableIn (off := 99) (tgt := 100) dX2_wordsMade_1 (by decide +kernel) (by decide +kernel) (by decide +kernel) (by decide +kernel) ?_
  refine cj_iconst (v := 0) dX2_wordsMade_100 (by decide) ?_
  refine cj_iret rfl dX2_wordsMade_101 ?_
  exact ⟨rfl, rfl⟩
set_option maxHeartbeats 4000000 in
set_option maxRecDepth 100000 in
theorem t_wordsMade_13 {G : cj_G} {m pg pa o sk ht ln a b c N t q : Nat} {f sf pf : Nat → Int32} {x acc env at9 hl rs cp9 tn9 : Int32} (k_m : G m = some (.inr (2, [.ref pg, .ref o, .ref sk, .int (nI ht), .int acc, .int env, .int at9, .int hl, .int rs]))) (k_sk : G sk = some (.inl (0, 40, .inl sf))) (k_o : G o = some (.inr (1, [.ref a, .ref b, .ref c, .int (nI t), .int cp9, .int tn9]))) (k_a : G a = some (.inl (0, N, .inl f))) (hN : N ≤ 200) (k_pg : G pg = some (.inr (0, [.ref pa, .int (nI ln)]))) (k_pa : G pa = some (.inl (0, 360, .inl pf))) (hln : ln ≤ 120) (n_sk_a : sk ≠ a) (n_pa_a : pa ≠ a) (n_pa_sk : pa ≠ sk) (hht : ht ≤ 40) (ht9 : t ≤ N) (hq : q < 1000) : cj_T mX2_wordsMade 2 0 0 [.ref m, .int 13, .int x] G (cj_rd G ((if hp_bk f (nI t) acc = 9 then (6 : Int32) else 3))) (cj_no) := by
  refine cj_T_of (by decide) (Nat.le_of_ble_eq_true rfl) ?_
  refine cj_lvs (lv' := [(0, .ref m), (1, .int 13), (2, .int x)]) rfl ?_
  refine cj_iload_n dX2_wordsMade_0 rfl ?_
  refine cj_tableIn (off := 76) (tgt := 77) dX2_wordsMade_1 (by decide +kernel) (by decide +kernel) (by decide +kernel) (by decide +kernel) ?_
  refine cj_aload_n dX2_wordsMade_77 rfl ?_
  refine cj_get flX2_39 dX2_wordsMade_78 k_m rfl ?_
  refine cj_pc (pc' := 81) rfl ?_
  refine cj_aload_n dX2_wordsMade_81 rfl ?_
  refine cj_get flX2_19 dX2_wordsMade_82 k_m rfl ?_
  refine cj_callV (M' := mX1_blockKind) (d' := 1) (k' := 0) (n' := 0) (index := 101) (np := 1) (As := [.int acc]) (rest := []) dX2_wordsMade_85 lkX2_101 mwX1_blockKind (t_blockKind k_o k_a (by rw [nI_toInt (by omega)]; omega)) (by omega) rfl rfl (Nat.le_of_ble_eq_true rfl) k_o rfl (fun v9 G2 q1 => ?_) (fun _ _ h => absurd h id)
  obtain ⟨rfl, e9⟩ := q1
  subst G2
  refine cj_st (st' := [.int (hp_bk f (nI t) acc)]) rfl ?_
  refine cj_bipush (v := 9) dX2_wordsMade_88 (by decide) ?_
  refine cj_pc (pc' := 90) rfl ?_
  refine cj_icmp_ne (tgt := 98) dX2_wordsMade_90 (by decide) (fun h3 => ?_) (fun h3 => ?_)
  · refine cj_iconst (v := 3) dX2_wordsMade_98 (by decide) ?_
    refine cj_iret rfl dX2_wordsMade_99 ?_
    refine ⟨congrArg (fun z => some (Value.int z)) ?_, rfl⟩
    simp [h3]
  · refine cj_bipush (v := 6) dX2_wordsMade_93 (by decide) ?_
    refine cj_pc (pc' := 95) rfl ?_
    refine cj_goto (tgt := 99) dX2_wordsMade_95 (by decide) ?_
    refine cj_iret rfl dX2_wordsMade_99 ?_
    refine ⟨congrArg (fun z => some (Value.int z)) ?_, rfl⟩
    simp [h3]
set_option maxHeartbeats 4000000 in
set_option maxRecDepth 100000 in
theorem t_wordsMade_14 {G : cj_G} {m pg pa o sk ht ln a b c N t q : Nat} {f sf pf : Nat → Int32} {x acc env at9 hl rs cp9 tn9 : Int32} (k_m : G m = some (.inr (2, [.ref pg, .ref o, .ref sk, .int (nI ht), .int acc, .int env, .int at9, .int hl, .int rs]))) (k_sk : G sk = some (.inl (0, 40, .inl sf))) (k_o : G o = some (.inr (1, [.ref a, .ref b, .ref c, .int (nI t), .int cp9, .int tn9]))) (k_a : G a = some (.inl (0, N, .inl f))) (hN : N ≤ 200) (k_pg : G pg = some (.inr (0, [.ref pa, .int (nI ln)]))) (k_pa : G pa = some (.inl (0, 360, .inl pf))) (hln : ln ≤ 120) (n_sk_a : sk ≠ a) (n_pa_a : pa ≠ a) (n_pa_sk : pa ≠ sk) (hht : ht ≤ 40) (ht9 : t ≤ N) (hq : q < 1000) : cj_T mX2_wordsMade 2 0 0 [.ref m, .int 14, .int x] G (cj_rd G (3)) (cj_no) := by
  refine cj_T_of (by decide) (Nat.le_of_ble_eq_true rfl) ?_
  refine cj_lvs (lv' := [(0, .ref m), (1, .int 14), (2, .int x)]) rfl ?_
  refine cj_iload_n dX2_wordsMade_0 rfl ?_
  refine cj_tableIn (off := 63) (tgt := 64) dX2_wordsMade_1 (by decide +kernel) (by decide +kernel) (by decide +kernel) (by decide +kernel) ?_
  refine cj_iconst (v := 3) dX2_wordsMade_64 (by decide) ?_
  refine cj_iret rfl dX2_wordsMade_65 ?_
  exact ⟨rfl, rfl⟩
set_option maxHeartbeats 4000000 in
set_option maxRecDepth 100000 in
theorem t_wordsMade_15 {G : cj_G} {m pg pa o sk ht ln a b c N t q : Nat} {f sf pf : Nat → Int32} {x acc env at9 hl rs cp9 tn9 : Int32} (k_m : G m = some (.inr (2, [.ref pg, .ref o, .ref sk, .int (nI ht), .int acc, .int env, .int at9, .int hl, .int rs]))) (k_sk : G sk = some (.inl (0, 40, .inl sf))) (k_o : G o = some (.inr (1, [.ref a, .ref b, .ref c, .int (nI t), .int cp9, .int tn9]))) (k_a : G a = some (.inl (0, N, .inl f))) (hN : N ≤ 200) (k_pg : G pg = some (.inr (0, [.ref pa, .int (nI ln)]))) (k_pa : G pa = some (.inl (0, 360, .inl pf))) (hln : ln ≤ 120) (n_sk_a : sk ≠ a) (n_pa_a : pa ≠ a) (n_pa_sk : pa ≠ sk) (hht : ht ≤ 40) (ht9 : t ≤ N) (hq : q < 1000) : cj_T mX2_wordsMade 2 0 0 [.ref m, .int 15, .int x] G (cj_rd G (0)) (cj_no) := by
  refine cj_T_of (by decide) (Nat.le_of_ble_eq_true rfl) ?_
  refine cj_lvs (lv' := [(0, .ref m), (1, .int 15), (2, .int x)]) rfl ?_
  refine cj_iload_n dX2_wordsMade_0 rfl ?_
  refine cj_tableIn (off := 99) (tgt := 100) dX2_wordsMade_1 (by decide +kernel) (by decide +kernel) (by decide +kernel) (by decide +kernel) ?_
  refine cj_iconst (v := 0) dX2_wordsMade_100 (by decide) ?_
  refine cj_iret rfl dX2_wordsMade_101 ?_
  exact ⟨rfl, rfl⟩
set_option maxHeartbeats 4000000 in
set_option maxRecDepth 100000 in
theorem t_wordsMade_16 {G : cj_G} {m pg pa o sk ht ln a b c N t q : Nat} {f sf pf : Nat → Int32} {x acc env at9 hl rs cp9 tn9 : Int32} (k_m : G m = some (.inr (2, [.ref pg, .ref o, .ref sk, .int (nI ht), .int acc, .int env, .int at9, .int hl, .int rs]))) (k_sk : G sk = some (.inl (0, 40, .inl sf))) (k_o : G o = some (.inr (1, [.ref a, .ref b, .ref c, .int (nI t), .int cp9, .int tn9]))) (k_a : G a = some (.inl (0, N, .inl f))) (hN : N ≤ 200) (k_pg : G pg = some (.inr (0, [.ref pa, .int (nI ln)]))) (k_pa : G pa = some (.inl (0, 360, .inl pf))) (hln : ln ≤ 120) (n_sk_a : sk ≠ a) (n_pa_a : pa ≠ a) (n_pa_sk : pa ≠ sk) (hht : ht ≤ 40) (ht9 : t ≤ N) (hq : q < 1000) : cj_T mX2_wordsMade 2 0 0 [.ref m, .int 16, .int x] G (cj_rd G (0)) (cj_no) := by
  refine cj_T_of (by decide) (Nat.le_of_ble_eq_true rfl) ?_
  refine cj_lvs (lv' := [(0, .ref m), (1, .int 16), (2, .int x)]) rfl ?_
  refine cj_iload_n dX2_wordsMade_0 rfl ?_
  refine cj_tableIn (off := 99) (tgt := 100) dX2_wordsMade_1 (by decide +kernel) (by decide +kernel) (by decide +kernel) (by decide +kernel) ?_
  refine cj_iconst (v := 0) dX2_wordsMade_100 (by decide) ?_
  refine cj_iret rfl dX2_wordsMade_101 ?_
  exact ⟨rfl, rfl⟩
set_option maxHeartbeats 4000000 in
set_option maxRecDepth 100000 in
theorem t_wordsMade_17 {G : cj_G} {m pg pa o sk ht ln a b c N t q : Nat} {f sf pf : Nat → Int32} {x acc env at9 hl rs cp9 tn9 : Int32} (k_m : G m = some (.inr (2, [.ref pg, .ref o, .ref sk, .int (nI ht), .int acc, .int env, .int at9, .int hl, .int rs]))) (k_sk : G sk = some (.inl (0, 40, .inl sf))) (k_o : G o = some (.inr (1, [.ref a, .ref b, .ref c, .int (nI t), .int cp9, .int tn9]))) (k_a : G a = some (.inl (0, N, .inl f))) (hN : N ≤ 200) (k_pg : G pg = some (.inr (0, [.ref pa, .int (nI ln)]))) (k_pa : G pa = some (.inl (0, 360, .inl pf))) (hln : ln ≤ 120) (n_sk_a : sk ≠ a) (n_pa_a : pa ≠ a) (n_pa_sk : pa ≠ sk) (hht : ht ≤ 40) (ht9 : t ≤ N) (hq : q < 1000) : cj_T mX2_wordsMade 2 0 0 [.ref m, .int 17, .int x] G (cj_rd G ((1 : Int32) + (x &&& 3))) (cj_no) := by
  refine cj_T_of (by decide) (Nat.le_of_ble_eq_true rfl) ?_
  refine cj_lvs (lv' := [(0, .ref m), (1, .int 17), (2, .int x)]) rfl ?_
  refine cj_iload_n dX2_wordsMade_0 rfl ?_
  refine cj_tableIn (off := 65) (tgt := 66) dX2_wordsMade_1 (by decide +kernel) (by decide +kernel) (by decide +kernel) (by decide +kernel) ?_
  refine cj_iconst (v := 1) dX2_wordsMade_66 (by decide) ?_
  refine cj_iload_n dX2_wordsMade_67 rfl ?_
  refine cj_pc (pc' := 68) rfl ?_
  refine cj_callSN (M' := mX6_fieldsOf) (d' := 0) (k' := 0) (n' := 0) (index := 98) (np := 1) (As := [.int x]) (rest := [.int 1]) dX2_wordsMade_68 lkX2_98 mwX6_fieldsOf (t_fieldsOf) (by omega) rfl rfl (Nat.le_of_ble_eq_true rfl) (fun v9 G2 q1 => ?_)
  obtain ⟨rfl, e9⟩ := q1
  subst G2
  refine cj_st (st' := [.int (x &&& 3), .int 1]) rfl ?_
  refine cj_iadd dX2_wordsMade_71 ?_
  refine cj_iret rfl dX2_wordsMade_72 ?_
  exact ⟨rfl, rfl⟩
set_option maxHeartbeats 4000000 in
set_option maxRecDepth 100000 in
theorem t_wordsMade_18 {G : cj_G} {m pg pa o sk ht ln a b c N t q : Nat} {f sf pf : Nat → Int32} {x acc env at9 hl rs cp9 tn9 : Int32} (k_m : G m = some (.inr (2, [.ref pg, .ref o, .ref sk, .int (nI ht), .int acc, .int env, .int at9, .int hl, .int rs]))) (k_sk : G sk = some (.inl (0, 40, .inl sf))) (k_o : G o = some (.inr (1, [.ref a, .ref b, .ref c, .int (nI t), .int cp9, .int tn9]))) (k_a : G a = some (.inl (0, N, .inl f))) (hN : N ≤ 200) (k_pg : G pg = some (.inr (0, [.ref pa, .int (nI ln)]))) (k_pa : G pa = some (.inl (0, 360, .inl pf))) (hln : ln ≤ 120) (n_sk_a : sk ≠ a) (n_pa_a : pa ≠ a) (n_pa_sk : pa ≠ sk) (hht : ht ≤ 40) (ht9 : t ≤ N) (hq : q < 1000) : cj_T mX2_wordsMade 2 0 0 [.ref m, .int 18, .int x] G (cj_rd G (0)) (cj_no) := by
  refine cj_T_of (by decide) (Nat.le_of_ble_eq_true rfl) ?_
  refine cj_lvs (lv' := [(0, .ref m), (1, .int 18), (2, .int x)]) rfl ?_
  refine cj_iload_n dX2_wordsMade_0 rfl ?_
  refine cj_tableIn (off := 99) (tgt := 100) dX2_wordsMade_1 (by decide +kernel) (by decide +kernel) (by decide +kernel) (by decide +kernel) ?_
  refine cj_iconst (v := 0) dX2_wordsMade_100 (by decide) ?_
  refine cj_iret rfl dX2_wordsMade_101 ?_
  exact ⟨rfl, rfl⟩
set_option maxHeartbeats 4000000 in
set_option maxRecDepth 100000 in
theorem t_wordsMade_19 {G : cj_G} {m pg pa o sk ht ln a b c N t q : Nat} {f sf pf : Nat → Int32} {x acc env at9 hl rs cp9 tn9 : Int32} (k_m : G m = some (.inr (2, [.ref pg, .ref o, .ref sk, .int (nI ht), .int acc, .int env, .int at9, .int hl, .int rs]))) (k_sk : G sk = some (.inl (0, 40, .inl sf))) (k_o : G o = some (.inr (1, [.ref a, .ref b, .ref c, .int (nI t), .int cp9, .int tn9]))) (k_a : G a = some (.inl (0, N, .inl f))) (hN : N ≤ 200) (k_pg : G pg = some (.inr (0, [.ref pa, .int (nI ln)]))) (k_pa : G pa = some (.inl (0, 360, .inl pf))) (hln : ln ≤ 120) (n_sk_a : sk ≠ a) (n_pa_a : pa ≠ a) (n_pa_sk : pa ≠ sk) (hht : ht ≤ 40) (ht9 : t ≤ N) (hq : q < 1000) : cj_T mX2_wordsMade 2 0 0 [.ref m, .int 19, .int x] G (cj_rd G (0)) (cj_no) := by
  refine cj_T_of (by decide) (Nat.le_of_ble_eq_true rfl) ?_
  refine cj_lvs (lv' := [(0, .ref m), (1, .int 19), (2, .int x)]) rfl ?_
  refine cj_iload_n dX2_wordsMade_0 rfl ?_
  refine cj_tableIn (off := 99) (tgt := 100) dX2_wordsMade_1 (by decide +kernel) (by decide +kernel) (by decide +kernel) (by decide +kernel) ?_
  refine cj_iconst (v := 0) dX2_wordsMade_100 (by decide) ?_
  refine cj_iret rfl dX2_wordsMade_101 ?_
  exact ⟨rfl, rfl⟩
set_option maxHeartbeats 4000000 in
set_option maxRecDepth 100000 in
theorem t_wordsMade_20 {G : cj_G} {m pg pa o sk ht ln a b c N t q : Nat} {f sf pf : Nat → Int32} {x acc env at9 hl rs cp9 tn9 : Int32} (k_m : G m = some (.inr (2, [.ref pg, .ref o, .ref sk, .int (nI ht), .int acc, .int env, .int at9, .int hl, .int rs]))) (k_sk : G sk = some (.inl (0, 40, .inl sf))) (k_o : G o = some (.inr (1, [.ref a, .ref b, .ref c, .int (nI t), .int cp9, .int tn9]))) (k_a : G a = some (.inl (0, N, .inl f))) (hN : N ≤ 200) (k_pg : G pg = some (.inr (0, [.ref pa, .int (nI ln)]))) (k_pa : G pa = some (.inl (0, 360, .inl pf))) (hln : ln ≤ 120) (n_sk_a : sk ≠ a) (n_pa_a : pa ≠ a) (n_pa_sk : pa ≠ sk) (hht : ht ≤ 40) (ht9 : t ≤ N) (hq : q < 1000) : cj_T mX2_wordsMade 2 0 0 [.ref m, .int 20, .int x] G (cj_rd G ((3 : Int32) * x)) (cj_no) := by
  refine cj_T_of (by decide) (Nat.le_of_ble_eq_true rfl) ?_
  refine cj_lvs (lv' := [(0, .ref m), (1, .int 20), (2, .int x)]) rfl ?_
  refine cj_iload_n dX2_wordsMade_0 rfl ?_
  refine cj_tableIn (off := 72) (tgt := 73) dX2_wordsMade_1 (by decide +kernel) (by decide +kernel) (by decide +kernel) (by decide +kernel) ?_
  refine cj_iconst (v := 3) dX2_wordsMade_73 (by decide) ?_
  refine cj_iload_n dX2_wordsMade_74 rfl ?_
  refine cj_pc (pc' := 75) rfl ?_
  refine cj_imul dX2_wordsMade_75 ?_
  refine cj_iret rfl dX2_wordsMade_76 ?_
  exact ⟨rfl, rfl⟩
set_option maxHeartbeats 4000000 in
set_option maxRecDepth 100000 in
theorem t_perform_0 {G : cj_G} {m pg pa o sk ht ln a b c N t q : Nat} {f sf pf : Nat → Int32} {x acc env at9 hl rs cp9 tn9 : Int32} (k_m : G m = some (.inr (2, [.ref pg, .ref o, .ref sk, .int (nI ht), .int acc, .int env, .int at9, .int hl, .int rs]))) (k_sk : G sk = some (.inl (0, 40, .inl sf))) (k_o : G o = some (.inr (1, [.ref a, .ref b, .ref c, .int (nI t), .int cp9, .int tn9]))) (k_a : G a = some (.inl (0, N, .inl f))) (hN : N ≤ 200) (k_pg : G pg = some (.inr (0, [.ref pa, .int (nI ln)]))) (k_pa : G pa = some (.inl (0, 360, .inl pf))) (hln : ln ≤ 120) (n_sk_a : sk ≠ a) (n_pa_a : pa ≠ a) (n_pa_sk : pa ≠ sk) (hht : ht ≤ 40) (ht9 : t ≤ N) (hq : q < 1000) : cj_T mX2_perform 6 0 0 [.ref m, .int 0, .int x] G (fun v G' => v = none ∧ G' m = some (.inr (2, [.ref pg, .ref o, .ref sk, .int (nI ht), .int acc, .int env, .int at9, .int 1, .int rs])) ∧ G' sk = some (.inl (0, 40, .inl sf)) ∧ G' o = some (.inr (1, [.ref a, .ref b, .ref c, .int (nI t), .int cp9, .int tn9])) ∧ G' a = some (.inl (0, N, .inl f)) ∧ cj_fr [m, sk, o, a] G G') (cj_no) := by
  refine cj_T_of (by decide) (Nat.le_of_ble_eq_true rfl) ?_
  refine cj_lvs (lv' := [(0, .ref m), (1, .int 0), (2, .int x)]) rfl ?_
  refine cj_aload_n dX2_perform_0 rfl ?_
  refine cj_get flX2_25 dX2_perform_1 k_m rfl ?_
  refine cj_iconst (v := 1) dX2_perform_4 (by decide) ?_
  refine cj_iadd dX2_perform_5 ?_
  refine cj_pc (pc' := 6) rfl ?_
  refine cj_istore_n (lv' := [(3, .int (at9 + 1)), (0, .ref m), (1, .int 0), (2, .int x)]) dX2_perform_6 (by decide) rfl ?_
  refine cj_iload_n dX2_perform_7 rfl ?_
  refine cj_tableIn (off := 100) (tgt := 108) dX2_perform_8 (by decide +kernel) (by decide +kernel) (by decide +kernel) (by decide +kernel) ?_
  refine cj_aload_n dX2_perform_108 rfl ?_
  refine cj_pc (pc' := 109) rfl ?_
  refine cj_iconst (v := 1) dX2_perform_109 (by decide) ?_
  refine cj_put flX2_28 dX2_perform_110 k_m rfl rfl (Nat.le_of_ble_eq_true rfl) ?_
  refine cj_nm (fun G1 e2 => ?_)
  have k3 : G1 m = some (.inr (2, [.ref pg, .ref o, .ref sk, .int (nI ht), .int acc, .int env, .int at9, .int 1, .int rs])) := by rw [e2]; exact cj_up_s
  have k4 : G1 sk = some (.inl (0, 40, .inl sf)) := by rw [e2, cj_up_n (cj_nao k_sk k_m)]; exact k_sk
  have k5 : G1 o = some (.inr (1, [.ref a, .ref b, .ref c, .int (nI t), .int cp9, .int tn9])) := by rw [e2, cj_up_n (cj_noo k_o k_m (by decide))]; exact k_o
  have k6 : G1 a = some (.inl (0, N, .inl f)) := by rw [e2, cj_up_n (cj_nao k_a k_m)]; exact k_a
  have k7 : G1 pg = some (.inr (0, [.ref pa, .int (nI ln)])) := by rw [e2, cj_up_n (cj_noo k_pg k_m (by decide))]; exact k_pg
  have k8 : G1 pa = some (.inl (0, 360, .inl pf)) := by rw [e2, cj_up_n (cj_nao k_pa k_m)]; exact k_pa
  have r9 : cj_fr [m, sk, o, a] G G1 := by rw [e2]; exact cj_fr.up (cj_fr.rf (S := [m, sk, o, a]) (G := G)) (by simp)
  refine cj_aload_n dX2_perform_113 rfl ?_
  refine cj_get flX2_25 dX2_perform_114 k3 rfl ?_
  refine cj_pc (pc' := 117) rfl ?_
  refine cj_istore_n (lv' := [(3, .int at9), (0, .ref m), (1, .int 0), (2, .int x)]) dX2_perform_117 (by decide) rfl ?_
  refine cj_goto (tgt := 308) dX2_perform_118 (by decide) ?_
  refine cj_aload_n dX2_perform_308 rfl ?_
  refine cj_iload_n dX2_perform_309 rfl ?_
  refine cj_pc (pc' := 310) rfl ?_
  refine cj_put flX2_25 dX2_perform_310 k3 rfl rfl (Nat.le_of_ble_eq_true rfl) ?_
  refine cj_nm (fun G10 e11 => ?_)
  have k12 : G10 m = some (.inr (2, [.ref pg, .ref o, .ref sk, .int (nI ht), .int acc, .int env, .int at9, .int 1, .int rs])) := by rw [e11]; exact cj_up_s
  have k13 : G10 sk = some (.inl (0, 40, .inl sf)) := by rw [e11, cj_up_n (cj_nao k4 k3)]; exact k4
  have k14 : G10 o = some (.inr (1, [.ref a, .ref b, .ref c, .int (nI t), .int cp9, .int tn9])) := by rw [e11, cj_up_n (cj_noo k5 k3 (by decide))]; exact k5
  have k15 : G10 a = some (.inl (0, N, .inl f)) := by rw [e11, cj_up_n (cj_nao k6 k3)]; exact k6
  have k16 : G10 pg = some (.inr (0, [.ref pa, .int (nI ln)])) := by rw [e11, cj_up_n (cj_noo k7 k3 (by decide))]; exact k7
  have k17 : G10 pa = some (.inl (0, 360, .inl pf)) := by rw [e11, cj_up_n (cj_nao k8 k3)]; exact k8
  have r18 : cj_fr [m, sk, o, a] G G10 := by rw [e11]; exact cj_fr.up r9 (by simp)
  refine cj_vret rfl dX2_perform_313 ?_
  exact ⟨rfl, k12, k13, k14, k15, r18⟩
set_option maxHeartbeats 4000000 in
set_option maxRecDepth 100000 in
theorem t_perform_1 {G : cj_G} {m pg pa o sk ht ln a b c N t q : Nat} {f sf pf : Nat → Int32} {x acc env at9 hl rs cp9 tn9 : Int32} (k_m : G m = some (.inr (2, [.ref pg, .ref o, .ref sk, .int (nI ht), .int acc, .int env, .int at9, .int hl, .int rs]))) (k_sk : G sk = some (.inl (0, 40, .inl sf))) (k_o : G o = some (.inr (1, [.ref a, .ref b, .ref c, .int (nI t), .int cp9, .int tn9]))) (k_a : G a = some (.inl (0, N, .inl f))) (hN : N ≤ 200) (k_pg : G pg = some (.inr (0, [.ref pa, .int (nI ln)]))) (k_pa : G pa = some (.inl (0, 360, .inl pf))) (hln : ln ≤ 120) (n_sk_a : sk ≠ a) (n_pa_a : pa ≠ a) (n_pa_sk : pa ≠ sk) (hht : ht ≤ 40) (ht9 : t ≤ N) (hq : q < 1000) : cj_T mX2_perform 6 0 0 [.ref m, .int 1, .int x] G (fun v G' => v = none ∧ G' m = some (.inr (2, [.ref pg, .ref o, .ref sk, .int (nI ht), .int ((2 : Int32) * x + 1), .int env, .int (at9 + 1), .int hl, .int rs])) ∧ G' sk = some (.inl (0, 40, .inl sf)) ∧ G' o = some (.inr (1, [.ref a, .ref b, .ref c, .int (nI t), .int cp9, .int tn9])) ∧ G' a = some (.inl (0, N, .inl f)) ∧ cj_fr [m, sk, o, a] G G') (cj_no) := by
  refine cj_T_of (by decide) (Nat.le_of_ble_eq_true rfl) ?_
  refine cj_lvs (lv' := [(0, .ref m), (1, .int 1), (2, .int x)]) rfl ?_
  refine cj_aload_n dX2_perform_0 rfl ?_
  refine cj_get flX2_25 dX2_perform_1 k_m rfl ?_
  refine cj_iconst (v := 1) dX2_perform_4 (by decide) ?_
  refine cj_iadd dX2_perform_5 ?_
  refine cj_pc (pc' := 6) rfl ?_
  refine cj_istore_n (lv' := [(3, .int (at9 + 1)), (0, .ref m), (1, .int 1), (2, .int x)]) dX2_perform_6 (by decide) rfl ?_
  refine cj_iload_n dX2_perform_7 rfl ?_
  refine cj_tableIn (off := 113) (tgt := 121) dX2_perform_8 (by decide +kernel) (by decide +kernel) (by decide +kernel) (by decide +kernel) ?_
  refine cj_aload_n dX2_perform_121 rfl ?_
  refine cj_pc (pc' := 122) rfl ?_
  refine cj_iload_n dX2_perform_122 rfl ?_
  refine cj_callSN (M' := mX6_wordOfInt) (d' := 0) (k' := 0) (n' := 0) (index := 122) (np := 1) (As := [.int x]) (rest := [.ref m]) dX2_perform_123 lkX2_122 mwX6_wordOfInt (t_wordOfInt) (by omega) rfl rfl (Nat.le_of_ble_eq_true rfl) (fun v9 G2 q1 => ?_)
  obtain ⟨rfl, e9⟩ := q1
  subst G2
  refine cj_st (st' := [.int ((2 : Int32) * x + 1), .ref m]) rfl ?_
  refine cj_put flX2_19 dX2_perform_126 k_m rfl rfl (Nat.le_of_ble_eq_true rfl) ?_
  refine cj_nm (fun G3 e4 => ?_)
  have k5 : G3 m = some (.inr (2, [.ref pg, .ref o, .ref sk, .int (nI ht), .int ((2 : Int32) * x + 1), .int env, .int at9, .int hl, .int rs])) := by rw [e4]; exact cj_up_s
  have k6 : G3 sk = some (.inl (0, 40, .inl sf)) := by rw [e4, cj_up_n (cj_nao k_sk k_m)]; exact k_sk
  have k7 : G3 o = some (.inr (1, [.ref a, .ref b, .ref c, .int (nI t), .int cp9, .int tn9])) := by rw [e4, cj_up_n (cj_noo k_o k_m (by decide))]; exact k_o
  have k8 : G3 a = some (.inl (0, N, .inl f)) := by rw [e4, cj_up_n (cj_nao k_a k_m)]; exact k_a
  have k9 : G3 pg = some (.inr (0, [.ref pa, .int (nI ln)])) := by rw [e4, cj_up_n (cj_noo k_pg k_m (by decide))]; exact k_pg
  have k10 : G3 pa = some (.inl (0, 360, .inl pf)) := by rw [e4, cj_up_n (cj_nao k_pa k_m)]; exact k_pa
  have r11 : cj_fr [m, sk, o, a] G G3 := by rw [e4]; exact cj_fr.up (cj_fr.rf (S := [m, sk, o, a]) (G := G)) (by simp)
  refine cj_goto (tgt := 308) dX2_perform_129 (by decide) ?_
  refine cj_pc (pc' := 308) rfl ?_
  refine cj_aload_n dX2_perform_308 rfl ?_
  refine cj_iload_n dX2_perform_309 rfl ?_
  refine cj_put flX2_25 dX2_perform_310 k5 rfl rfl (Nat.le_of_ble_eq_true rfl) ?_
  refine cj_nm (fun G12 e13 => ?_)
  have k14 : G12 m = some (.inr (2, [.ref pg, .ref o, .ref sk, .int (nI ht), .int ((2 : Int32) * x + 1), .int env, .int (at9 + 1), .int hl, .int rs])) := by rw [e13]; exact cj_up_s
  have k15 : G12 sk = some (.inl (0, 40, .inl sf)) := by rw [e13, cj_up_n (cj_nao k6 k5)]; exact k6
  have k16 : G12 o = some (.inr (1, [.ref a, .ref b, .ref c, .int (nI t), .int cp9, .int tn9])) := by rw [e13, cj_up_n (cj_noo k7 k5 (by decide))]; exact k7
  have k17 : G12 a = some (.inl (0, N, .inl f)) := by rw [e13, cj_up_n (cj_nao k8 k5)]; exact k8
  have k18 : G12 pg = some (.inr (0, [.ref pa, .int (nI ln)])) := by rw [e13, cj_up_n (cj_noo k9 k5 (by decide))]; exact k9
  have k19 : G12 pa = some (.inl (0, 360, .inl pf)) := by rw [e13, cj_up_n (cj_nao k10 k5)]; exact k10
  have r20 : cj_fr [m, sk, o, a] G G12 := by rw [e13]; exact cj_fr.up r11 (by simp)
  refine cj_vret rfl dX2_perform_313 ?_
  exact ⟨rfl, k14, k15, k16, k17, r20⟩
set_option maxHeartbeats 4000000 in
set_option maxRecDepth 100000 in
theorem t_perform_2 {G : cj_G} {m pg pa o sk ht ln a b c N t q : Nat} {f sf pf : Nat → Int32} {x acc env at9 hl rs cp9 tn9 : Int32} (k_m : G m = some (.inr (2, [.ref pg, .ref o, .ref sk, .int (nI ht), .int acc, .int env, .int at9, .int hl, .int rs]))) (k_sk : G sk = some (.inl (0, 40, .inl sf))) (k_o : G o = some (.inr (1, [.ref a, .ref b, .ref c, .int (nI t), .int cp9, .int tn9]))) (k_a : G a = some (.inl (0, N, .inl f))) (hN : N ≤ 200) (k_pg : G pg = some (.inr (0, [.ref pa, .int (nI ln)]))) (k_pa : G pa = some (.inl (0, 360, .inl pf))) (hln : ln ≤ 120) (n_sk_a : sk ≠ a) (n_pa_a : pa ≠ a) (n_pa_sk : pa ≠ sk) (hht : ht ≤ 40) (ht9 : t ≤ N) (hq : q < 1000) : cj_T mX2_perform 6 0 0 [.ref m, .int 2, .int (nI q)] G (fun v G' => v = none ∧ G' m = some (.inr (2, [.ref pg, .ref o, .ref sk, .int (nI ht), .int (hp_wo f (nI t) (mc_fo f t q env) 1), .int env, .int (at9 + 1), .int hl, .int rs])) ∧ G' sk = some (.inl (0, 40, .inl sf)) ∧ G' o = some (.inr (1, [.ref a, .ref b, .ref c, .int (nI t), .int cp9, .int tn9])) ∧ G' a = some (.inl (0, N, .inl f)) ∧ cj_fr [m, sk, o, a] G G') (cj_no) := by
  refine cj_T_of (by decide) (Nat.le_of_ble_eq_true rfl) ?_
  refine cj_lvs (lv' := [(0, .ref m), (1, .int 2), (2, .int (nI q))]) rfl ?_
  refine cj_aload_n dX2_perform_0 rfl ?_
  refine cj_get flX2_25 dX2_perform_1 k_m rfl ?_
  refine cj_iconst (v := 1) dX2_perform_4 (by decide) ?_
  refine cj_iadd dX2_perform_5 ?_
  refine cj_pc (pc' := 6) rfl ?_
  refine cj_istore_n (lv' := [(3, .int (at9 + 1)), (0, .ref m), (1, .int 2), (2, .int (nI q))]) dX2_perform_6 (by decide) rfl ?_
  refine cj_iload_n dX2_perform_7 rfl ?_
  refine cj_tableIn (off := 124) (tgt := 132) dX2_perform_8 (by decide +kernel) (by decide +kernel) (by decide +kernel) (by decide +kernel) ?_
  refine cj_aload_n dX2_perform_132 rfl ?_
  refine cj_pc (pc' := 133) rfl ?_
  refine cj_aload_n dX2_perform_133 rfl ?_
  refine cj_get flX2_39 dX2_perform_134 k_m rfl ?_
  refine cj_aload_n dX2_perform_137 rfl ?_
  refine cj_iload_n dX2_perform_138 rfl ?_
  refine cj_pc (pc' := 139) rfl ?_
  refine cj_callV (M' := mX2_furtherOn) (d' := 3) (k' := 0) (n' := 0) (index := 125) (np := 1) (As := [.int (nI q)]) (rest := [.ref o, .ref m]) dX2_perform_139 lkX2_125 mwX2_furtherOn (t_furtherOn k_m k_o k_a hN ht9 (by omega)) (by omega) rfl rfl (Nat.le_of_ble_eq_true rfl) k_m rfl (fun v9 G2 q1 => ?_) (fun _ _ h => absurd h id)
  obtain ⟨rfl, e9⟩ := q1
  subst G2
  refine cj_st (st' := [.int (mc_fo f t q env), .ref o, .ref m]) rfl ?_
  refine cj_iconst (v := 1) dX2_perform_142 (by decide) ?_
  refine cj_callV (M' := mX1_wordOf) (d' := 2) (k' := 0) (n' := 0) (index := 128) (np := 2) (As := [.int (mc_fo f t q env), .int 1]) (rest := [.ref m]) dX2_perform_143 lkX2_128 mwX1_wordOf (t_wordOf k_o k_a (by rw [nI_toInt (by omega)]; omega) hN) (by omega) rfl rfl (Nat.le_of_ble_eq_true rfl) k_o rfl (fun v9 G4 q3 => ?_) (fun _ _ h => absurd h id)
  obtain ⟨rfl, e9⟩ := q3
  subst G4
  refine cj_st (st' := [.int (hp_wo f (nI t) (mc_fo f t q env) 1), .ref m]) rfl ?_
  refine cj_put flX2_19 dX2_perform_146 k_m rfl rfl (Nat.le_of_ble_eq_true rfl) ?_
  refine cj_nm (fun G5 e6 => ?_)
  have k7 : G5 m = some (.inr (2, [.ref pg, .ref o, .ref sk, .int (nI ht), .int (hp_wo f (nI t) (mc_fo f t q env) 1), .int env, .int at9, .int hl, .int rs])) := by rw [e6]; exact cj_up_s
  have k8 : G5 sk = some (.inl (0, 40, .inl sf)) := by rw [e6, cj_up_n (cj_nao k_sk k_m)]; exact k_sk
  have k9 : G5 o = some (.inr (1, [.ref a, .ref b, .ref c, .int (nI t), .int cp9, .int tn9])) := by rw [e6, cj_up_n (cj_noo k_o k_m (by decide))]; exact k_o
  have k10 : G5 a = some (.inl (0, N, .inl f)) := by rw [e6, cj_up_n (cj_nao k_a k_m)]; exact k_a
  have k11 : G5 pg = some (.inr (0, [.ref pa, .int (nI ln)])) := by rw [e6, cj_up_n (cj_noo k_pg k_m (by decide))]; exact k_pg
  have k12 : G5 pa = some (.inl (0, 360, .inl pf)) := by rw [e6, cj_up_n (cj_nao k_pa k_m)]; exact k_pa
  have r13 : cj_fr [m, sk, o, a] G G5 := by rw [e6]; exact cj_fr.up (cj_fr.rf (S := [m, sk, o, a]) (G := G)) (by simp)
  refine cj_pc (pc' := 149) rfl ?_
  refine cj_goto (tgt := 308) dX2_perform_149 (by decide) ?_
  refine cj_aload_n dX2_perform_308 rfl ?_
  refine cj_iload_n dX2_perform_309 rfl ?_
  refine cj_put flX2_25 dX2_perform_310 k7 rfl rfl (Nat.le_of_ble_eq_true rfl) ?_
  refine cj_nm (fun G14 e15 => ?_)
  have k16 : G14 m = some (.inr (2, [.ref pg, .ref o, .ref sk, .int (nI ht), .int (hp_wo f (nI t) (mc_fo f t q env) 1), .int env, .int (at9 + 1), .int hl, .int rs])) := by rw [e15]; exact cj_up_s
  have k17 : G14 sk = some (.inl (0, 40, .inl sf)) := by rw [e15, cj_up_n (cj_nao k8 k7)]; exact k8
  have k18 : G14 o = some (.inr (1, [.ref a, .ref b, .ref c, .int (nI t), .int cp9, .int tn9])) := by rw [e15, cj_up_n (cj_noo k9 k7 (by decide))]; exact k9
  have k19 : G14 a = some (.inl (0, N, .inl f)) := by rw [e15, cj_up_n (cj_nao k10 k7)]; exact k10
  have k20 : G14 pg = some (.inr (0, [.ref pa, .int (nI ln)])) := by rw [e15, cj_up_n (cj_noo k11 k7 (by decide))]; exact k11
  have k21 : G14 pa = some (.inl (0, 360, .inl pf)) := by rw [e15, cj_up_n (cj_nao k12 k7)]; exact k12
  have r22 : cj_fr [m, sk, o, a] G G14 := by rw [e15]; exact cj_fr.up r13 (by simp)
  refine cj_pc (pc' := 313) rfl ?_
  refine cj_vret rfl dX2_perform_313 ?_
  exact ⟨rfl, k16, k17, k18, k19, r22⟩
set_option maxHeartbeats 4000000 in
set_option maxRecDepth 100000 in
theorem t_perform_3 {G : cj_G} {m pg pa o sk ht ln a b c N t q : Nat} {f sf pf : Nat → Int32} {x acc env at9 hl rs cp9 tn9 : Int32} (k_m : G m = some (.inr (2, [.ref pg, .ref o, .ref sk, .int (nI ht), .int acc, .int env, .int at9, .int hl, .int rs]))) (k_sk : G sk = some (.inl (0, 40, .inl sf))) (k_o : G o = some (.inr (1, [.ref a, .ref b, .ref c, .int (nI t), .int cp9, .int tn9]))) (k_a : G a = some (.inl (0, N, .inl f))) (hN : N ≤ 200) (k_pg : G pg = some (.inr (0, [.ref pa, .int (nI ln)]))) (k_pa : G pa = some (.inl (0, 360, .inl pf))) (hln : ln ≤ 120) (n_sk_a : sk ≠ a) (n_pa_a : pa ≠ a) (n_pa_sk : pa ≠ sk) (hht : ht ≤ 40) (ht9 : t ≤ N) (hq : q < 1000) (hht2 : ht < 40) : cj_T mX2_perform 6 0 0 [.ref m, .int 3, .int x] G (fun v G' => v = none ∧ G' m = some (.inr (2, [.ref pg, .ref o, .ref sk, .int (nI (ht + 1)), .int acc, .int env, .int (at9 + 1), .int hl, .int rs])) ∧ G' sk = some (.inl (0, 40, .inl (upd sf ht acc))) ∧ G' o = some (.inr (1, [.ref a, .ref b, .ref c, .int (nI t), .int cp9, .int tn9])) ∧ G' a = some (.inl (0, N, .inl f)) ∧ cj_fr [m, sk, o, a] G G') (cj_no) := by
  refine cj_T_of (by decide) (Nat.le_of_ble_eq_true rfl) ?_
  refine cj_lvs (lv' := [(0, .ref m), (1, .int 3), (2, .int x)]) rfl ?_
  refine cj_aload_n dX2_perform_0 rfl ?_
  refine cj_get flX2_25 dX2_perform_1 k_m rfl ?_
  refine cj_iconst (v := 1) dX2_perform_4 (by decide) ?_
  refine cj_iadd dX2_perform_5 ?_
  refine cj_pc (pc' := 6) rfl ?_
  refine cj_istore_n (lv' := [(3, .int (at9 + 1)), (0, .ref m), (1, .int 3), (2, .int x)]) dX2_perform_6 (by decide) rfl ?_
  refine cj_iload_n dX2_perform_7 rfl ?_
  refine cj_tableIn (off := 144) (tgt := 152) dX2_perform_8 (by decide +kernel) (by decide +kernel) (by decide +kernel) (by decide +kernel) ?_
  refine cj_aload_n dX2_perform_152 rfl ?_
  refine cj_pc (pc' := 153) rfl ?_
  refine cj_aload_n dX2_perform_153 rfl ?_
  refine cj_get flX2_19 dX2_perform_154 k_m rfl ?_
  refine cj_callV (M' := mX2_push) (d' := 0) (k' := 0) (n' := 0) (index := 131) (np := 1) (As := [.int acc]) (rest := []) dX2_perform_157 lkX2_131 mwX2_push (t_push k_m k_sk (by omega)) (by omega) rfl rfl (Nat.le_of_ble_eq_true rfl) k_m rfl (fun v9 G2 q1 => ?_) (fun _ _ h => absurd h id)
  obtain ⟨rfl, k3, k4, r5⟩ := q1
  have k6 : G2 o = some (.inr (1, [.ref a, .ref b, .ref c, .int (nI t), .int cp9, .int tn9])) := r5 _ _ (cj_ni2 (cj_noo k_o k_m (by decide)) (cj_noa k_o k_sk)) k_o
  have k7 : G2 a = some (.inl (0, N, .inl f)) := r5 _ _ (cj_ni2 (cj_nao k_a k_m) (Ne.symm n_sk_a)) k_a
  have k8 : G2 pg = some (.inr (0, [.ref pa, .int (nI ln)])) := r5 _ _ (cj_ni2 (cj_noo k_pg k_m (by decide)) (cj_noa k_pg k_sk)) k_pg
  have k9 : G2 pa = some (.inl (0, 360, .inl pf)) := r5 _ _ (cj_ni2 (cj_nao k_pa k_m) n_pa_sk) k_pa
  have r10 : cj_fr [m, sk, o, a] G G2 := cj_fr.trans (cj_fr.rf (S := [m, sk, o, a]) (G := G)) (cj_fr.mono r5 (by simp))
  refine cj_st (st' := []) rfl ?_
  refine cj_goto (tgt := 308) dX2_perform_160 (by decide) ?_
  refine cj_pc (pc' := 308) rfl ?_
  refine cj_aload_n dX2_perform_308 rfl ?_
  refine cj_iload_n dX2_perform_309 rfl ?_
  refine cj_put flX2_25 dX2_perform_310 k3 rfl rfl (Nat.le_of_ble_eq_true rfl) ?_
  refine cj_nm (fun G11 e12 => ?_)
  have k13 : G11 m = some (.inr (2, [.ref pg, .ref o, .ref sk, .int (nI (ht + 1)), .int acc, .int env, .int (at9 + 1), .int hl, .int rs])) := by rw [e12]; exact cj_up_s
  have k14 : G11 sk = some (.inl (0, 40, .inl (upd sf ht acc))) := by rw [e12, cj_up_n (cj_nao k4 k3)]; exact k4
  have k15 : G11 o = some (.inr (1, [.ref a, .ref b, .ref c, .int (nI t), .int cp9, .int tn9])) := by rw [e12, cj_up_n (cj_noo k6 k3 (by decide))]; exact k6
  have k16 : G11 a = some (.inl (0, N, .inl f)) := by rw [e12, cj_up_n (cj_nao k7 k3)]; exact k7
  have k17 : G11 pg = some (.inr (0, [.ref pa, .int (nI ln)])) := by rw [e12, cj_up_n (cj_noo k8 k3 (by decide))]; exact k8
  have k18 : G11 pa = some (.inl (0, 360, .inl pf)) := by rw [e12, cj_up_n (cj_nao k9 k3)]; exact k9
  have r19 : cj_fr [m, sk, o, a] G G11 := by rw [e12]; exact cj_fr.up r10 (by simp)
  refine cj_vret rfl dX2_perform_313 ?_
  exact ⟨rfl, k13, k14, k15, k16, r19⟩
set_option maxHeartbeats 4000000 in
set_option maxRecDepth 100000 in
theorem t_perform_4 {G : cj_G} {m pg pa o sk ht ln a b c N t q : Nat} {f sf pf : Nat → Int32} {x acc env at9 hl rs cp9 tn9 : Int32} (k_m : G m = some (.inr (2, [.ref pg, .ref o, .ref sk, .int (nI ht), .int acc, .int env, .int at9, .int hl, .int rs]))) (k_sk : G sk = some (.inl (0, 40, .inl sf))) (k_o : G o = some (.inr (1, [.ref a, .ref b, .ref c, .int (nI t), .int cp9, .int tn9]))) (k_a : G a = some (.inl (0, N, .inl f))) (hN : N ≤ 200) (k_pg : G pg = some (.inr (0, [.ref pa, .int (nI ln)]))) (k_pa : G pa = some (.inl (0, 360, .inl pf))) (hln : ln ≤ 120) (n_sk_a : sk ≠ a) (n_pa_a : pa ≠ a) (n_pa_sk : pa ≠ sk) (hht : ht ≤ 40) (ht9 : t ≤ N) (hq : q < 1000) : cj_T mX2_perform 6 0 0 [.ref m, .int 4, .int x] G (fun v G' => v = none ∧ G' m = some (.inr (2, [.ref pg, .ref o, .ref sk, .int (nI (ht - 1)), .int (mc_op 4 (mc_top sf ht >>> ((1 : Int32) &&& 31)) (acc >>> ((1 : Int32) &&& 31))), .int env, .int (at9 + 1), .int hl, .int rs])) ∧ G' sk = some (.inl (0, 40, .inl sf)) ∧ G' o = some (.inr (1, [.ref a, .ref b, .ref c, .int (nI t), .int cp9, .int tn9])) ∧ G' a = some (.inl (0, N, .inl f)) ∧ cj_fr [m, sk, o, a] G G') (cj_no) := by
  refine cj_T_of (by decide) (Nat.le_of_ble_eq_true rfl) ?_
  refine cj_lvs (lv' := [(0, .ref m), (1, .int 4), (2, .int x)]) rfl ?_
  refine cj_aload_n dX2_perform_0 rfl ?_
  refine cj_get flX2_25 dX2_perform_1 k_m rfl ?_
  refine cj_iconst (v := 1) dX2_perform_4 (by decide) ?_
  refine cj_iadd dX2_perform_5 ?_
  refine cj_pc (pc' := 6) rfl ?_
  refine cj_istore_n (lv' := [(3, .int (at9 + 1)), (0, .ref m), (1, .int 4), (2, .int x)]) dX2_perform_6 (by decide) rfl ?_
  refine cj_iload_n dX2_perform_7 rfl ?_
  refine cj_tableIn (off := 295) (tgt := 303) dX2_perform_8 (by decide +kernel) (by decide +kernel) (by decide +kernel) (by decide +kernel) ?_
  refine cj_aload_n dX2_perform_303 rfl ?_
  refine cj_pc (pc' := 304) rfl ?_
  refine cj_iload_n dX2_perform_304 rfl ?_
  refine cj_callV (M' := mX2_operate) (d' := 2) (k' := 0) (n' := 0) (index := 160) (np := 1) (As := [.int 4]) (rest := []) dX2_perform_305 lkX2_160 mwX2_operate (t_operate_4 k_m k_sk hht) (by omega) rfl rfl (Nat.le_of_ble_eq_true rfl) k_m rfl (fun v9 G2 q1 => ?_) (fun _ _ h => absurd h id)
  obtain ⟨rfl, k3, r4⟩ := q1
  have k5 : G2 sk = some (.inl (0, 40, .inl sf)) := r4 _ _ (cj_ni1 (cj_nao k_sk k_m)) k_sk
  have k6 : G2 o = some (.inr (1, [.ref a, .ref b, .ref c, .int (nI t), .int cp9, .int tn9])) := r4 _ _ (cj_ni1 (cj_noo k_o k_m (by decide))) k_o
  have k7 : G2 a = some (.inl (0, N, .inl f)) := r4 _ _ (cj_ni1 (cj_nao k_a k_m)) k_a
  have k8 : G2 pg = some (.inr (0, [.ref pa, .int (nI ln)])) := r4 _ _ (cj_ni1 (cj_noo k_pg k_m (by decide))) k_pg
  have k9 : G2 pa = some (.inl (0, 360, .inl pf)) := r4 _ _ (cj_ni1 (cj_nao k_pa k_m)) k_pa
  have r10 : cj_fr [m, sk, o, a] G G2 := cj_fr.trans (cj_fr.rf (S := [m, sk, o, a]) (G := G)) (cj_fr.mono r4 (by simp))
  refine cj_st (st' := []) rfl ?_
  refine cj_aload_n dX2_perform_308 rfl ?_
  refine cj_iload_n dX2_perform_309 rfl ?_
  refine cj_pc (pc' := 310) rfl ?_
  refine cj_put flX2_25 dX2_perform_310 k3 rfl rfl (Nat.le_of_ble_eq_true rfl) ?_
  refine cj_nm (fun G11 e12 => ?_)
  have k13 : G11 m = some (.inr (2, [.ref pg, .ref o, .ref sk, .int (nI (ht - 1)), .int (mc_op 4 (mc_top sf ht >>> ((1 : Int32) &&& 31)) (acc >>> ((1 : Int32) &&& 31))), .int env, .int (at9 + 1), .int hl, .int rs])) := by rw [e12]; exact cj_up_s
  have k14 : G11 sk = some (.inl (0, 40, .inl sf)) := by rw [e12, cj_up_n (cj_nao k5 k3)]; exact k5
  have k15 : G11 o = some (.inr (1, [.ref a, .ref b, .ref c, .int (nI t), .int cp9, .int tn9])) := by rw [e12, cj_up_n (cj_noo k6 k3 (by decide))]; exact k6
  have k16 : G11 a = some (.inl (0, N, .inl f)) := by rw [e12, cj_up_n (cj_nao k7 k3)]; exact k7
  have k17 : G11 pg = some (.inr (0, [.ref pa, .int (nI ln)])) := by rw [e12, cj_up_n (cj_noo k8 k3 (by decide))]; exact k8
  have k18 : G11 pa = some (.inl (0, 360, .inl pf)) := by rw [e12, cj_up_n (cj_nao k9 k3)]; exact k9
  have r19 : cj_fr [m, sk, o, a] G G11 := by rw [e12]; exact cj_fr.up r10 (by simp)
  refine cj_vret rfl dX2_perform_313 ?_
  exact ⟨rfl, k13, k14, k15, k16, r19⟩
set_option maxHeartbeats 4000000 in
set_option maxRecDepth 100000 in
theorem t_perform_5 {G : cj_G} {m pg pa o sk ht ln a b c N t q : Nat} {f sf pf : Nat → Int32} {x acc env at9 hl rs cp9 tn9 : Int32} (k_m : G m = some (.inr (2, [.ref pg, .ref o, .ref sk, .int (nI ht), .int acc, .int env, .int at9, .int hl, .int rs]))) (k_sk : G sk = some (.inl (0, 40, .inl sf))) (k_o : G o = some (.inr (1, [.ref a, .ref b, .ref c, .int (nI t), .int cp9, .int tn9]))) (k_a : G a = some (.inl (0, N, .inl f))) (hN : N ≤ 200) (k_pg : G pg = some (.inr (0, [.ref pa, .int (nI ln)]))) (k_pa : G pa = some (.inl (0, 360, .inl pf))) (hln : ln ≤ 120) (n_sk_a : sk ≠ a) (n_pa_a : pa ≠ a) (n_pa_sk : pa ≠ sk) (hht : ht ≤ 40) (ht9 : t ≤ N) (hq : q < 1000) : cj_T mX2_perform 6 0 0 [.ref m, .int 5, .int x] G (fun v G' => v = none ∧ G' m = some (.inr (2, [.ref pg, .ref o, .ref sk, .int (nI (ht - 1)), .int (mc_op 5 (mc_top sf ht >>> ((1 : Int32) &&& 31)) (acc >>> ((1 : Int32) &&& 31))), .int env, .int (at9 + 1), .int hl, .int rs])) ∧ G' sk = some (.inl (0, 40, .inl sf)) ∧ G' o = some (.inr (1, [.ref a, .ref b, .ref c, .int (nI t), .int cp9, .int tn9])) ∧ G' a = some (.inl (0, N, .inl f)) ∧ cj_fr [m, sk, o, a] G G') (cj_no) := by
  refine cj_T_of (by decide) (Nat.le_of_ble_eq_true rfl) ?_
  refine cj_lvs (lv' := [(0, .ref m), (1, .int 5), (2, .int x)]) rfl ?_
  refine cj_aload_n dX2_perform_0 rfl ?_
  refine cj_get flX2_25 dX2_perform_1 k_m rfl ?_
  refine cj_iconst (v := 1) dX2_perform_4 (by decide) ?_
  refine cj_iadd dX2_perform_5 ?_
  refine cj_pc (pc' := 6) rfl ?_
  refine cj_istore_n (lv' := [(3, .int (at9 + 1)), (0, .ref m), (1, .int 5), (2, .int x)]) dX2_perform_6 (by decide) rfl ?_
  refine cj_iload_n dX2_perform_7 rfl ?_
  refine cj_tableIn (off := 295) (tgt := 303) dX2_perform_8 (by decide +kernel) (by decide +kernel) (by decide +kernel) (by decide +kernel) ?_
  refine cj_aload_n dX2_perform_303 rfl ?_
  refine cj_pc (pc' := 304) rfl ?_
  refine cj_iload_n dX2_perform_304 rfl ?_
  refine cj_callV (M' := mX2_operate) (d' := 2) (k' := 0) (n' := 0) (index := 160) (np := 1) (As := [.int 5]) (rest := []) dX2_perform_305 lkX2_160 mwX2_operate (t_operate_5 k_m k_sk hht) (by omega) rfl rfl (Nat.le_of_ble_eq_true rfl) k_m rfl (fun v9 G2 q1 => ?_) (fun _ _ h => absurd h id)
  obtain ⟨rfl, k3, r4⟩ := q1
  have k5 : G2 sk = some (.inl (0, 40, .inl sf)) := r4 _ _ (cj_ni1 (cj_nao k_sk k_m)) k_sk
  have k6 : G2 o = some (.inr (1, [.ref a, .ref b, .ref c, .int (nI t), .int cp9, .int tn9])) := r4 _ _ (cj_ni1 (cj_noo k_o k_m (by decide))) k_o
  have k7 : G2 a = some (.inl (0, N, .inl f)) := r4 _ _ (cj_ni1 (cj_nao k_a k_m)) k_a
  have k8 : G2 pg = some (.inr (0, [.ref pa, .int (nI ln)])) := r4 _ _ (cj_ni1 (cj_noo k_pg k_m (by decide))) k_pg
  have k9 : G2 pa = some (.inl (0, 360, .inl pf)) := r4 _ _ (cj_ni1 (cj_nao k_pa k_m)) k_pa
  have r10 : cj_fr [m, sk, o, a] G G2 := cj_fr.trans (cj_fr.rf (S := [m, sk, o, a]) (G := G)) (cj_fr.mono r4 (by simp))
  refine cj_st (st' := []) rfl ?_
  refine cj_aload_n dX2_perform_308 rfl ?_
  refine cj_iload_n dX2_perform_309 rfl ?_
  refine cj_pc (pc' := 310) rfl ?_
  refine cj_put flX2_25 dX2_perform_310 k3 rfl rfl (Nat.le_of_ble_eq_true rfl) ?_
  refine cj_nm (fun G11 e12 => ?_)
  have k13 : G11 m = some (.inr (2, [.ref pg, .ref o, .ref sk, .int (nI (ht - 1)), .int (mc_op 5 (mc_top sf ht >>> ((1 : Int32) &&& 31)) (acc >>> ((1 : Int32) &&& 31))), .int env, .int (at9 + 1), .int hl, .int rs])) := by rw [e12]; exact cj_up_s
  have k14 : G11 sk = some (.inl (0, 40, .inl sf)) := by rw [e12, cj_up_n (cj_nao k5 k3)]; exact k5
  have k15 : G11 o = some (.inr (1, [.ref a, .ref b, .ref c, .int (nI t), .int cp9, .int tn9])) := by rw [e12, cj_up_n (cj_noo k6 k3 (by decide))]; exact k6
  have k16 : G11 a = some (.inl (0, N, .inl f)) := by rw [e12, cj_up_n (cj_nao k7 k3)]; exact k7
  have k17 : G11 pg = some (.inr (0, [.ref pa, .int (nI ln)])) := by rw [e12, cj_up_n (cj_noo k8 k3 (by decide))]; exact k8
  have k18 : G11 pa = some (.inl (0, 360, .inl pf)) := by rw [e12, cj_up_n (cj_nao k9 k3)]; exact k9
  have r19 : cj_fr [m, sk, o, a] G G11 := by rw [e12]; exact cj_fr.up r10 (by simp)
  refine cj_vret rfl dX2_perform_313 ?_
  exact ⟨rfl, k13, k14, k15, k16, r19⟩
set_option maxHeartbeats 4000000 in
set_option maxRecDepth 100000 in
theorem t_perform_6 {G : cj_G} {m pg pa o sk ht ln a b c N t q : Nat} {f sf pf : Nat → Int32} {x acc env at9 hl rs cp9 tn9 : Int32} (k_m : G m = some (.inr (2, [.ref pg, .ref o, .ref sk, .int (nI ht), .int acc, .int env, .int at9, .int hl, .int rs]))) (k_sk : G sk = some (.inl (0, 40, .inl sf))) (k_o : G o = some (.inr (1, [.ref a, .ref b, .ref c, .int (nI t), .int cp9, .int tn9]))) (k_a : G a = some (.inl (0, N, .inl f))) (hN : N ≤ 200) (k_pg : G pg = some (.inr (0, [.ref pa, .int (nI ln)]))) (k_pa : G pa = some (.inl (0, 360, .inl pf))) (hln : ln ≤ 120) (n_sk_a : sk ≠ a) (n_pa_a : pa ≠ a) (n_pa_sk : pa ≠ sk) (hht : ht ≤ 40) (ht9 : t ≤ N) (hq : q < 1000) : cj_T mX2_perform 6 0 0 [.ref m, .int 6, .int x] G (fun v G' => v = none ∧ G' m = some (.inr (2, [.ref pg, .ref o, .ref sk, .int (nI (ht - 1)), .int (mc_op 6 (mc_top sf ht >>> ((1 : Int32) &&& 31)) (acc >>> ((1 : Int32) &&& 31))), .int env, .int (at9 + 1), .int hl, .int rs])) ∧ G' sk = some (.inl (0, 40, .inl sf)) ∧ G' o = some (.inr (1, [.ref a, .ref b, .ref c, .int (nI t), .int cp9, .int tn9])) ∧ G' a = some (.inl (0, N, .inl f)) ∧ cj_fr [m, sk, o, a] G G') (cj_no) := by
  refine cj_T_of (by decide) (Nat.le_of_ble_eq_true rfl) ?_
  refine cj_lvs (lv' := [(0, .ref m), (1, .int 6), (2, .int x)]) rfl ?_
  refine cj_aload_n dX2_perform_0 rfl ?_
  refine cj_get flX2_25 dX2_perform_1 k_m rfl ?_
  refine cj_iconst (v := 1) dX2_perform_4 (by decide) ?_
  refine cj_iadd dX2_perform_5 ?_
  refine cj_pc (pc' := 6) rfl ?_
  refine cj_istore_n (lv' := [(3, .int (at9 + 1)), (0, .ref m), (1, .int 6), (2, .int x)]) dX2_perform_6 (by decide) rfl ?_
  refine cj_iload_n dX2_perform_7 rfl ?_
  refine cj_tableIn (off := 295) (tgt := 303) dX2_perform_8 (by decide +kernel) (by decide +kernel) (by decide +kernel) (by decide +kernel) ?_
  refine cj_aload_n dX2_perform_303 rfl ?_
  refine cj_pc (pc' := 304) rfl ?_
  refine cj_iload_n dX2_perform_304 rfl ?_
  refine cj_callV (M' := mX2_operate) (d' := 2) (k' := 0) (n' := 0) (index := 160) (np := 1) (As := [.int 6]) (rest := []) dX2_perform_305 lkX2_160 mwX2_operate (t_operate_6 k_m k_sk hht) (by omega) rfl rfl (Nat.le_of_ble_eq_true rfl) k_m rfl (fun v9 G2 q1 => ?_) (fun _ _ h => absurd h id)
  obtain ⟨rfl, k3, r4⟩ := q1
  have k5 : G2 sk = some (.inl (0, 40, .inl sf)) := r4 _ _ (cj_ni1 (cj_nao k_sk k_m)) k_sk
  have k6 : G2 o = some (.inr (1, [.ref a, .ref b, .ref c, .int (nI t), .int cp9, .int tn9])) := r4 _ _ (cj_ni1 (cj_noo k_o k_m (by decide))) k_o
  have k7 : G2 a = some (.inl (0, N, .inl f)) := r4 _ _ (cj_ni1 (cj_nao k_a k_m)) k_a
  have k8 : G2 pg = some (.inr (0, [.ref pa, .int (nI ln)])) := r4 _ _ (cj_ni1 (cj_noo k_pg k_m (by decide))) k_pg
  have k9 : G2 pa = some (.inl (0, 360, .inl pf)) := r4 _ _ (cj_ni1 (cj_nao k_pa k_m)) k_pa
  have r10 : cj_fr [m, sk, o, a] G G2 := cj_fr.trans (cj_fr.rf (S := [m, sk, o, a]) (G := G)) (cj_fr.mono r4 (by simp))
  refine cj_st (st' := []) rfl ?_
  refine cj_aload_n dX2_perform_308 rfl ?_
  refine cj_iload_n dX2_perform_309 rfl ?_
  refine cj_pc (pc' := 310) rfl ?_
  refine cj_put flX2_25 dX2_perform_310 k3 rfl rfl (Nat.le_of_ble_eq_true rfl) ?_
  refine cj_nm (fun G11 e12 => ?_)
  have k13 : G11 m = some (.inr (2, [.ref pg, .ref o, .ref sk, .int (nI (ht - 1)), .int (mc_op 6 (mc_top sf ht >>> ((1 : Int32) &&& 31)) (acc >>> ((1 : Int32) &&& 31))), .int env, .int (at9 + 1), .int hl, .int rs])) := by rw [e12]; exact cj_up_s
  have k14 : G11 sk = some (.inl (0, 40, .inl sf)) := by rw [e12, cj_up_n (cj_nao k5 k3)]; exact k5
  have k15 : G11 o = some (.inr (1, [.ref a, .ref b, .ref c, .int (nI t), .int cp9, .int tn9])) := by rw [e12, cj_up_n (cj_noo k6 k3 (by decide))]; exact k6
  have k16 : G11 a = some (.inl (0, N, .inl f)) := by rw [e12, cj_up_n (cj_nao k7 k3)]; exact k7
  have k17 : G11 pg = some (.inr (0, [.ref pa, .int (nI ln)])) := by rw [e12, cj_up_n (cj_noo k8 k3 (by decide))]; exact k8
  have k18 : G11 pa = some (.inl (0, 360, .inl pf)) := by rw [e12, cj_up_n (cj_nao k9 k3)]; exact k9
  have r19 : cj_fr [m, sk, o, a] G G11 := by rw [e12]; exact cj_fr.up r10 (by simp)
  refine cj_vret rfl dX2_perform_313 ?_
  exact ⟨rfl, k13, k14, k15, k16, r19⟩
set_option maxHeartbeats 4000000 in
set_option maxRecDepth 100000 in
theorem t_perform_7 {G : cj_G} {m pg pa o sk ht ln a b c N t q : Nat} {f sf pf : Nat → Int32} {x acc env at9 hl rs cp9 tn9 : Int32} (k_m : G m = some (.inr (2, [.ref pg, .ref o, .ref sk, .int (nI ht), .int acc, .int env, .int at9, .int hl, .int rs]))) (k_sk : G sk = some (.inl (0, 40, .inl sf))) (k_o : G o = some (.inr (1, [.ref a, .ref b, .ref c, .int (nI t), .int cp9, .int tn9]))) (k_a : G a = some (.inl (0, N, .inl f))) (hN : N ≤ 200) (k_pg : G pg = some (.inr (0, [.ref pa, .int (nI ln)]))) (k_pa : G pa = some (.inl (0, 360, .inl pf))) (hln : ln ≤ 120) (n_sk_a : sk ≠ a) (n_pa_a : pa ≠ a) (n_pa_sk : pa ≠ sk) (hht : ht ≤ 40) (ht9 : t ≤ N) (hq : q < 1000) : cj_T mX2_perform 6 0 0 [.ref m, .int 7, .int x] G (fun v G' => v = none ∧ G' m = some (.inr (2, [.ref pg, .ref o, .ref sk, .int (nI (ht - 1)), .int (mc_op 7 (mc_top sf ht >>> ((1 : Int32) &&& 31)) (acc >>> ((1 : Int32) &&& 31))), .int env, .int (at9 + 1), .int hl, .int rs])) ∧ G' sk = some (.inl (0, 40, .inl sf)) ∧ G' o = some (.inr (1, [.ref a, .ref b, .ref c, .int (nI t), .int cp9, .int tn9])) ∧ G' a = some (.inl (0, N, .inl f)) ∧ cj_fr [m, sk, o, a] G G') (cj_no) := by
  refine cj_T_of (by decide) (Nat.le_of_ble_eq_true rfl) ?_
  refine cj_lvs (lv' := [(0, .ref m), (1, .int 7), (2, .int x)]) rfl ?_
  refine cj_aload_n dX2_perform_0 rfl ?_
  refine cj_get flX2_25 dX2_perform_1 k_m rfl ?_
  refine cj_iconst (v := 1) dX2_perform_4 (by decide) ?_
  refine cj_iadd dX2_perform_5 ?_
  refine cj_pc (pc' := 6) rfl ?_
  refine cj_istore_n (lv' := [(3, .int (at9 + 1)), (0, .ref m), (1, .int 7), (2, .int x)]) dX2_perform_6 (by decide) rfl ?_
  refine cj_iload_n dX2_perform_7 rfl ?_
  refine cj_tableIn (off := 295) (tgt := 303) dX2_perform_8 (by decide +kernel) (by decide +kernel) (by decide +kernel) (by decide +kernel) ?_
  refine cj_aload_n dX2_perform_303 rfl ?_
  refine cj_pc (pc' := 304) rfl ?_
  refine cj_iload_n dX2_perform_304 rfl ?_
  refine cj_callV (M' := mX2_operate) (d' := 2) (k' := 0) (n' := 0) (index := 160) (np := 1) (As := [.int 7]) (rest := []) dX2_perform_305 lkX2_160 mwX2_operate (t_operate_7 k_m k_sk hht) (by omega) rfl rfl (Nat.le_of_ble_eq_true rfl) k_m rfl (fun v9 G2 q1 => ?_) (fun _ _ h => absurd h id)
  obtain ⟨rfl, k3, r4⟩ := q1
  have k5 : G2 sk = some (.inl (0, 40, .inl sf)) := r4 _ _ (cj_ni1 (cj_nao k_sk k_m)) k_sk
  have k6 : G2 o = some (.inr (1, [.ref a, .ref b, .ref c, .int (nI t), .int cp9, .int tn9])) := r4 _ _ (cj_ni1 (cj_noo k_o k_m (by decide))) k_o
  have k7 : G2 a = some (.inl (0, N, .inl f)) := r4 _ _ (cj_ni1 (cj_nao k_a k_m)) k_a
  have k8 : G2 pg = some (.inr (0, [.ref pa, .int (nI ln)])) := r4 _ _ (cj_ni1 (cj_noo k_pg k_m (by decide))) k_pg
  have k9 : G2 pa = some (.inl (0, 360, .inl pf)) := r4 _ _ (cj_ni1 (cj_nao k_pa k_m)) k_pa
  have r10 : cj_fr [m, sk, o, a] G G2 := cj_fr.trans (cj_fr.rf (S := [m, sk, o, a]) (G := G)) (cj_fr.mono r4 (by simp))
  refine cj_st (st' := []) rfl ?_
  refine cj_aload_n dX2_perform_308 rfl ?_
  refine cj_iload_n dX2_perform_309 rfl ?_
  refine cj_pc (pc' := 310) rfl ?_
  refine cj_put flX2_25 dX2_perform_310 k3 rfl rfl (Nat.le_of_ble_eq_true rfl) ?_
  refine cj_nm (fun G11 e12 => ?_)
  have k13 : G11 m = some (.inr (2, [.ref pg, .ref o, .ref sk, .int (nI (ht - 1)), .int (mc_op 7 (mc_top sf ht >>> ((1 : Int32) &&& 31)) (acc >>> ((1 : Int32) &&& 31))), .int env, .int (at9 + 1), .int hl, .int rs])) := by rw [e12]; exact cj_up_s
  have k14 : G11 sk = some (.inl (0, 40, .inl sf)) := by rw [e12, cj_up_n (cj_nao k5 k3)]; exact k5
  have k15 : G11 o = some (.inr (1, [.ref a, .ref b, .ref c, .int (nI t), .int cp9, .int tn9])) := by rw [e12, cj_up_n (cj_noo k6 k3 (by decide))]; exact k6
  have k16 : G11 a = some (.inl (0, N, .inl f)) := by rw [e12, cj_up_n (cj_nao k7 k3)]; exact k7
  have k17 : G11 pg = some (.inr (0, [.ref pa, .int (nI ln)])) := by rw [e12, cj_up_n (cj_noo k8 k3 (by decide))]; exact k8
  have k18 : G11 pa = some (.inl (0, 360, .inl pf)) := by rw [e12, cj_up_n (cj_nao k9 k3)]; exact k9
  have r19 : cj_fr [m, sk, o, a] G G11 := by rw [e12]; exact cj_fr.up r10 (by simp)
  refine cj_vret rfl dX2_perform_313 ?_
  exact ⟨rfl, k13, k14, k15, k16, r19⟩
set_option maxHeartbeats 4000000 in
set_option maxRecDepth 100000 in
theorem t_perform_8 {G : cj_G} {m pg pa o sk ht ln a b c N t q : Nat} {f sf pf : Nat → Int32} {x acc env at9 hl rs cp9 tn9 : Int32} (k_m : G m = some (.inr (2, [.ref pg, .ref o, .ref sk, .int (nI ht), .int acc, .int env, .int at9, .int hl, .int rs]))) (k_sk : G sk = some (.inl (0, 40, .inl sf))) (k_o : G o = some (.inr (1, [.ref a, .ref b, .ref c, .int (nI t), .int cp9, .int tn9]))) (k_a : G a = some (.inl (0, N, .inl f))) (hN : N ≤ 200) (k_pg : G pg = some (.inr (0, [.ref pa, .int (nI ln)]))) (k_pa : G pa = some (.inl (0, 360, .inl pf))) (hln : ln ≤ 120) (n_sk_a : sk ≠ a) (n_pa_a : pa ≠ a) (n_pa_sk : pa ≠ sk) (hht : ht ≤ 40) (ht9 : t ≤ N) (hq : q < 1000) : cj_T mX2_perform 6 0 0 [.ref m, .int 8, .int x] G (fun v G' => v = none ∧ G' m = some (.inr (2, [.ref pg, .ref o, .ref sk, .int (nI (ht - 1)), .int (mc_op 8 (mc_top sf ht >>> ((1 : Int32) &&& 31)) (acc >>> ((1 : Int32) &&& 31))), .int env, .int (at9 + 1), .int hl, .int rs])) ∧ G' sk = some (.inl (0, 40, .inl sf)) ∧ G' o = some (.inr (1, [.ref a, .ref b, .ref c, .int (nI t), .int cp9, .int tn9])) ∧ G' a = some (.inl (0, N, .inl f)) ∧ cj_fr [m, sk, o, a] G G') (cj_no) := by
  refine cj_T_of (by decide) (Nat.le_of_ble_eq_true rfl) ?_
  refine cj_lvs (lv' := [(0, .ref m), (1, .int 8), (2, .int x)]) rfl ?_
  refine cj_aload_n dX2_perform_0 rfl ?_
  refine cj_get flX2_25 dX2_perform_1 k_m rfl ?_
  refine cj_iconst (v := 1) dX2_perform_4 (by decide) ?_
  refine cj_iadd dX2_perform_5 ?_
  refine cj_pc (pc' := 6) rfl ?_
  refine cj_istore_n (lv' := [(3, .int (at9 + 1)), (0, .ref m), (1, .int 8), (2, .int x)]) dX2_perform_6 (by decide) rfl ?_
  refine cj_iload_n dX2_perform_7 rfl ?_
  refine cj_tableIn (off := 295) (tgt := 303) dX2_perform_8 (by decide +kernel) (by decide +kernel) (by decide +kernel) (by decide +kernel) ?_
  refine cj_aload_n dX2_perform_303 rfl ?_
  refine cj_pc (pc' := 304) rfl ?_
  refine cj_iload_n dX2_perform_304 rfl ?_
  refine cj_callV (M' := mX2_operate) (d' := 2) (k' := 0) (n' := 0) (index := 160) (np := 1) (As := [.int 8]) (rest := []) dX2_perform_305 lkX2_160 mwX2_operate (t_operate_8 k_m k_sk hht) (by omega) rfl rfl (Nat.le_of_ble_eq_true rfl) k_m rfl (fun v9 G2 q1 => ?_) (fun _ _ h => absurd h id)
  obtain ⟨rfl, k3, r4⟩ := q1
  have k5 : G2 sk = some (.inl (0, 40, .inl sf)) := r4 _ _ (cj_ni1 (cj_nao k_sk k_m)) k_sk
  have k6 : G2 o = some (.inr (1, [.ref a, .ref b, .ref c, .int (nI t), .int cp9, .int tn9])) := r4 _ _ (cj_ni1 (cj_noo k_o k_m (by decide))) k_o
  have k7 : G2 a = some (.inl (0, N, .inl f)) := r4 _ _ (cj_ni1 (cj_nao k_a k_m)) k_a
  have k8 : G2 pg = some (.inr (0, [.ref pa, .int (nI ln)])) := r4 _ _ (cj_ni1 (cj_noo k_pg k_m (by decide))) k_pg
  have k9 : G2 pa = some (.inl (0, 360, .inl pf)) := r4 _ _ (cj_ni1 (cj_nao k_pa k_m)) k_pa
  have r10 : cj_fr [m, sk, o, a] G G2 := cj_fr.trans (cj_fr.rf (S := [m, sk, o, a]) (G := G)) (cj_fr.mono r4 (by simp))
  refine cj_st (st' := []) rfl ?_
  refine cj_aload_n dX2_perform_308 rfl ?_
  refine cj_iload_n dX2_perform_309 rfl ?_
  refine cj_pc (pc' := 310) rfl ?_
  refine cj_put flX2_25 dX2_perform_310 k3 rfl rfl (Nat.le_of_ble_eq_true rfl) ?_
  refine cj_nm (fun G11 e12 => ?_)
  have k13 : G11 m = some (.inr (2, [.ref pg, .ref o, .ref sk, .int (nI (ht - 1)), .int (mc_op 8 (mc_top sf ht >>> ((1 : Int32) &&& 31)) (acc >>> ((1 : Int32) &&& 31))), .int env, .int (at9 + 1), .int hl, .int rs])) := by rw [e12]; exact cj_up_s
  have k14 : G11 sk = some (.inl (0, 40, .inl sf)) := by rw [e12, cj_up_n (cj_nao k5 k3)]; exact k5
  have k15 : G11 o = some (.inr (1, [.ref a, .ref b, .ref c, .int (nI t), .int cp9, .int tn9])) := by rw [e12, cj_up_n (cj_noo k6 k3 (by decide))]; exact k6
  have k16 : G11 a = some (.inl (0, N, .inl f)) := by rw [e12, cj_up_n (cj_nao k7 k3)]; exact k7
  have k17 : G11 pg = some (.inr (0, [.ref pa, .int (nI ln)])) := by rw [e12, cj_up_n (cj_noo k8 k3 (by decide))]; exact k8
  have k18 : G11 pa = some (.inl (0, 360, .inl pf)) := by rw [e12, cj_up_n (cj_nao k9 k3)]; exact k9
  have r19 : cj_fr [m, sk, o, a] G G11 := by rw [e12]; exact cj_fr.up r10 (by simp)
  refine cj_vret rfl dX2_perform_313 ?_
  exact ⟨rfl, k13, k14, k15, k16, r19⟩
set_option maxHeartbeats 4000000 in
set_option maxRecDepth 100000 in
theorem t_perform_9 {G : cj_G} {m pg pa o sk ht ln a b c N t q : Nat} {f sf pf : Nat → Int32} {x acc env at9 hl rs cp9 tn9 : Int32} (k_m : G m = some (.inr (2, [.ref pg, .ref o, .ref sk, .int (nI ht), .int acc, .int env, .int at9, .int hl, .int rs]))) (k_sk : G sk = some (.inl (0, 40, .inl sf))) (k_o : G o = some (.inr (1, [.ref a, .ref b, .ref c, .int (nI t), .int cp9, .int tn9]))) (k_a : G a = some (.inl (0, N, .inl f))) (hN : N ≤ 200) (k_pg : G pg = some (.inr (0, [.ref pa, .int (nI ln)]))) (k_pa : G pa = some (.inl (0, 360, .inl pf))) (hln : ln ≤ 120) (n_sk_a : sk ≠ a) (n_pa_a : pa ≠ a) (n_pa_sk : pa ≠ sk) (hht : ht ≤ 40) (ht9 : t ≤ N) (hq : q < 1000) (hroom : t + 3 ≤ N) : cj_T mX2_perform 6 0 0 [.ref m, .int 9, .int x] G (fun v G' => v = none ∧ G' m = some (.inr (2, [.ref pg, .ref o, .ref sk, .int (nI ht), .int (4 * nI t), .int env, .int (at9 + 1), .int hl, .int rs])) ∧ G' sk = some (.inl (0, 40, .inl sf)) ∧ G' o = some (.inr (1, [.ref a, .ref b, .ref c, .int (nI (t + 3)), .int cp9, .int tn9])) ∧ G' a = some (.inl (0, N, .inl (mc_pair f t 8 ((2 : Int32) * x + 1) env))) ∧ cj_fr [m, sk, o, a] G G') (cj_no) := by
  refine cj_T_of (by decide) (Nat.le_of_ble_eq_true rfl) ?_
  refine cj_lvs (lv' := [(0, .ref m), (1, .int 9), (2, .int x)]) rfl ?_
  refine cj_aload_n dX2_perform_0 rfl ?_
  refine cj_get flX2_25 dX2_perform_1 k_m rfl ?_
  refine cj_iconst (v := 1) dX2_perform_4 (by decide) ?_
  refine cj_iadd dX2_perform_5 ?_
  refine cj_pc (pc' := 6) rfl ?_
  refine cj_istore_n (lv' := [(3, .int (at9 + 1)), (0, .ref m), (1, .int 9), (2, .int x)]) dX2_perform_6 (by decide) rfl ?_
  refine cj_iload_n dX2_perform_7 rfl ?_
  refine cj_tableIn (off := 155) (tgt := 163) dX2_perform_8 (by decide +kernel) (by decide +kernel) (by decide +kernel) (by decide +kernel) ?_
  refine cj_aload_n dX2_perform_163 rfl ?_
  refine cj_pc (pc' := 164) rfl ?_
  refine cj_aload_n dX2_perform_164 rfl ?_
  refine cj_get flX2_39 dX2_perform_165 k_m rfl ?_
  refine cj_bipush (v := 8) dX2_perform_168 (by decide) ?_
  refine cj_iload_n dX2_perform_170 rfl ?_
  refine cj_pc (pc' := 171) rfl ?_
  refine cj_callSN (M' := mX6_wordOfInt) (d' := 0) (k' := 0) (n' := 0) (index := 122) (np := 1) (As := [.int x]) (rest := [.int 8, .ref o, .ref m]) dX2_perform_171 lkX2_122 mwX6_wordOfInt (t_wordOfInt) (by omega) rfl rfl (Nat.le_of_ble_eq_true rfl) (fun v9 G2 q1 => ?_)
  obtain ⟨rfl, e9⟩ := q1
  subst G2
  refine cj_st (st' := [.int ((2 : Int32) * x + 1), .int 8, .ref o, .ref m]) rfl ?_
  refine cj_aload_n dX2_perform_174 rfl ?_
  refine cj_get flX2_22 dX2_perform_175 k_m rfl ?_
  refine cj_callV (M' := mX1_putPair) (d' := 2) (k' := 0) (n' := 0) (index := 135) (np := 3) (As := [.int 8, .int ((2 : Int32) * x + 1), .int env]) (rest := [.ref m]) dX2_perform_178 lkX2_135 mwX1_putPair (t_putPair k_o k_a hN (by omega)) (by omega) rfl rfl (Nat.le_of_ble_eq_true rfl) k_o rfl (fun v9 G4 q3 => ?_) (fun _ _ h => absurd h id)
  obtain ⟨rfl, k5, k6, r7⟩ := q3
  have k8 : G4 m = some (.inr (2, [.ref pg, .ref o, .ref sk, .int (nI ht), .int acc, .int env, .int at9, .int hl, .int rs])) := r7 _ _ (cj_ni2 (cj_noo k_m k_o (by decide)) (cj_noa k_m k_a)) k_m
  have k9 : G4 sk = some (.inl (0, 40, .inl sf)) := r7 _ _ (cj_ni2 (cj_nao k_sk k_o) n_sk_a) k_sk
  have k10 : G4 pg = some (.inr (0, [.ref pa, .int (nI ln)])) := r7 _ _ (cj_ni2 (cj_noo k_pg k_o (by decide)) (cj_noa k_pg k_a)) k_pg
  have k11 : G4 pa = some (.inl (0, 360, .inl pf)) := r7 _ _ (cj_ni2 (cj_nao k_pa k_o) n_pa_a) k_pa
  have r12 : cj_fr [m, sk, o, a] G G4 := cj_fr.trans (cj_fr.rf (S := [m, sk, o, a]) (G := G)) (cj_fr.mono r7 (by simp))
  refine cj_st (st' := [.int (4 * nI t), .ref m]) rfl ?_
  refine cj_pc (pc' := 181) rfl ?_
  refine cj_put flX2_19 dX2_perform_181 k8 rfl rfl (Nat.le_of_ble_eq_true rfl) ?_
  refine cj_nm (fun G13 e14 => ?_)
  have k15 : G13 m = some (.inr (2, [.ref pg, .ref o, .ref sk, .int (nI ht), .int (4 * nI t), .int env, .int at9, .int hl, .int rs])) := by rw [e14]; exact cj_up_s
  have k16 : G13 sk = some (.inl (0, 40, .inl sf)) := by rw [e14, cj_up_n (cj_nao k9 k8)]; exact k9
  have k17 : G13 o = some (.inr (1, [.ref a, .ref b, .ref c, .int (nI (t + 3)), .int cp9, .int tn9])) := by rw [e14, cj_up_n (cj_noo k5 k8 (by decide))]; exact k5
  have k18 : G13 a = some (.inl (0, N, .inl (mc_pair f t 8 ((2 : Int32) * x + 1) env))) := by rw [e14, cj_up_n (cj_nao k6 k8)]; exact k6
  have k19 : G13 pg = some (.inr (0, [.ref pa, .int (nI ln)])) := by rw [e14, cj_up_n (cj_noo k10 k8 (by decide))]; exact k10
  have k20 : G13 pa = some (.inl (0, 360, .inl pf)) := by rw [e14, cj_up_n (cj_nao k11 k8)]; exact k11
  have r21 : cj_fr [m, sk, o, a] G G13 := by rw [e14]; exact cj_fr.up r12 (by simp)
  refine cj_goto (tgt := 308) dX2_perform_184 (by decide) ?_
  refine cj_aload_n dX2_perform_308 rfl ?_
  refine cj_iload_n dX2_perform_309 rfl ?_
  refine cj_pc (pc' := 310) rfl ?_
  refine cj_put flX2_25 dX2_perform_310 k15 rfl rfl (Nat.le_of_ble_eq_true rfl) ?_
  refine cj_nm (fun G22 e23 => ?_)
  have k24 : G22 m = some (.inr (2, [.ref pg, .ref o, .ref sk, .int (nI ht), .int (4 * nI t), .int env, .int (at9 + 1), .int hl, .int rs])) := by rw [e23]; exact cj_up_s
  have k25 : G22 sk = some (.inl (0, 40, .inl sf)) := by rw [e23, cj_up_n (cj_nao k16 k15)]; exact k16
  have k26 : G22 o = some (.inr (1, [.ref a, .ref b, .ref c, .int (nI (t + 3)), .int cp9, .int tn9])) := by rw [e23, cj_up_n (cj_noo k17 k15 (by decide))]; exact k17
  have k27 : G22 a = some (.inl (0, N, .inl (mc_pair f t 8 ((2 : Int32) * x + 1) env))) := by rw [e23, cj_up_n (cj_nao k18 k15)]; exact k18
  have k28 : G22 pg = some (.inr (0, [.ref pa, .int (nI ln)])) := by rw [e23, cj_up_n (cj_noo k19 k15 (by decide))]; exact k19
  have k29 : G22 pa = some (.inl (0, 360, .inl pf)) := by rw [e23, cj_up_n (cj_nao k20 k15)]; exact k20
  have r30 : cj_fr [m, sk, o, a] G G22 := by rw [e23]; exact cj_fr.up r21 (by simp)
  refine cj_vret rfl dX2_perform_313 ?_
  exact ⟨rfl, k24, k25, k26, k27, r30⟩
set_option maxHeartbeats 4000000 in
set_option maxRecDepth 100000 in
theorem t_perform_10 {G : cj_G} {m pg pa o sk ht ln a b c N t q : Nat} {f sf pf : Nat → Int32} {x acc env at9 hl rs cp9 tn9 : Int32} (k_m : G m = some (.inr (2, [.ref pg, .ref o, .ref sk, .int (nI ht), .int acc, .int env, .int at9, .int hl, .int rs]))) (k_sk : G sk = some (.inl (0, 40, .inl sf))) (k_o : G o = some (.inr (1, [.ref a, .ref b, .ref c, .int (nI t), .int cp9, .int tn9]))) (k_a : G a = some (.inl (0, N, .inl f))) (hN : N ≤ 200) (k_pg : G pg = some (.inr (0, [.ref pa, .int (nI ln)]))) (k_pa : G pa = some (.inl (0, 360, .inl pf))) (hln : ln ≤ 120) (n_sk_a : sk ≠ a) (n_pa_a : pa ≠ a) (n_pa_sk : pa ≠ sk) (hht : ht ≤ 40) (ht9 : t ≤ N) (hq : q < 1000) (hroom : t + 3 ≤ N) : cj_T mX2_perform 6 0 0 [.ref m, .int 10, .int x] G (fun v G' => v = none ∧ G' m = some (.inr (2, [.ref pg, .ref o, .ref sk, .int (nI ht), .int (4 * nI t), .int env, .int (at9 + 1), .int hl, .int rs])) ∧ G' sk = some (.inl (0, 40, .inl sf)) ∧ G' o = some (.inr (1, [.ref a, .ref b, .ref c, .int (nI (t + 3)), .int cp9, .int tn9])) ∧ G' a = some (.inl (0, N, .inl (mc_pair f t 9 ((2 : Int32) * x + 1) env))) ∧ cj_fr [m, sk, o, a] G G') (cj_no) := by
  refine cj_T_of (by decide) (Nat.le_of_ble_eq_true rfl) ?_
  refine cj_lvs (lv' := [(0, .ref m), (1, .int 10), (2, .int x)]) rfl ?_
  refine cj_aload_n dX2_perform_0 rfl ?_
  refine cj_get flX2_25 dX2_perform_1 k_m rfl ?_
  refine cj_iconst (v := 1) dX2_perform_4 (by decide) ?_
  refine cj_iadd dX2_perform_5 ?_
  refine cj_pc (pc' := 6) rfl ?_
  refine cj_istore_n (lv' := [(3, .int (at9 + 1)), (0, .ref m), (1, .int 10), (2, .int x)]) dX2_perform_6 (by decide) rfl ?_
  refine cj_iload_n dX2_perform_7 rfl ?_
  refine cj_tableIn (off := 179) (tgt := 187) dX2_perform_8 (by decide +kernel) (by decide +kernel) (by decide +kernel) (by decide +kernel) ?_
  refine cj_aload_n dX2_perform_187 rfl ?_
  refine cj_pc (pc' := 188) rfl ?_
  refine cj_aload_n dX2_perform_188 rfl ?_
  refine cj_get flX2_39 dX2_perform_189 k_m rfl ?_
  refine cj_bipush (v := 9) dX2_perform_192 (by decide) ?_
  refine cj_iload_n dX2_perform_194 rfl ?_
  refine cj_pc (pc' := 195) rfl ?_
  refine cj_callSN (M' := mX6_wordOfInt) (d' := 0) (k' := 0) (n' := 0) (index := 122) (np := 1) (As := [.int x]) (rest := [.int 9, .ref o, .ref m]) dX2_perform_195 lkX2_122 mwX6_wordOfInt (t_wordOfInt) (by omega) rfl rfl (Nat.le_of_ble_eq_true rfl) (fun v9 G2 q1 => ?_)
  obtain ⟨rfl, e9⟩ := q1
  subst G2
  refine cj_st (st' := [.int ((2 : Int32) * x + 1), .int 9, .ref o, .ref m]) rfl ?_
  refine cj_aload_n dX2_perform_198 rfl ?_
  refine cj_get flX2_22 dX2_perform_199 k_m rfl ?_
  refine cj_callV (M' := mX1_putPair) (d' := 2) (k' := 0) (n' := 0) (index := 135) (np := 3) (As := [.int 9, .int ((2 : Int32) * x + 1), .int env]) (rest := [.ref m]) dX2_perform_202 lkX2_135 mwX1_putPair (t_putPair k_o k_a hN (by omega)) (by omega) rfl rfl (Nat.le_of_ble_eq_true rfl) k_o rfl (fun v9 G4 q3 => ?_) (fun _ _ h => absurd h id)
  obtain ⟨rfl, k5, k6, r7⟩ := q3
  have k8 : G4 m = some (.inr (2, [.ref pg, .ref o, .ref sk, .int (nI ht), .int acc, .int env, .int at9, .int hl, .int rs])) := r7 _ _ (cj_ni2 (cj_noo k_m k_o (by decide)) (cj_noa k_m k_a)) k_m
  have k9 : G4 sk = some (.inl (0, 40, .inl sf)) := r7 _ _ (cj_ni2 (cj_nao k_sk k_o) n_sk_a) k_sk
  have k10 : G4 pg = some (.inr (0, [.ref pa, .int (nI ln)])) := r7 _ _ (cj_ni2 (cj_noo k_pg k_o (by decide)) (cj_noa k_pg k_a)) k_pg
  have k11 : G4 pa = some (.inl (0, 360, .inl pf)) := r7 _ _ (cj_ni2 (cj_nao k_pa k_o) n_pa_a) k_pa
  have r12 : cj_fr [m, sk, o, a] G G4 := cj_fr.trans (cj_fr.rf (S := [m, sk, o, a]) (G := G)) (cj_fr.mono r7 (by simp))
  refine cj_st (st' := [.int (4 * nI t), .ref m]) rfl ?_
  refine cj_pc (pc' := 205) rfl ?_
  refine cj_put flX2_19 dX2_perform_205 k8 rfl rfl (Nat.le_of_ble_eq_true rfl) ?_
  refine cj_nm (fun G13 e14 => ?_)
  have k15 : G13 m = some (.inr (2, [.ref pg, .ref o, .ref sk, .int (nI ht), .int (4 * nI t), .int env, .int at9, .int hl, .int rs])) := by rw [e14]; exact cj_up_s
  have k16 : G13 sk = some (.inl (0, 40, .inl sf)) := by rw [e14, cj_up_n (cj_nao k9 k8)]; exact k9
  have k17 : G13 o = some (.inr (1, [.ref a, .ref b, .ref c, .int (nI (t + 3)), .int cp9, .int tn9])) := by rw [e14, cj_up_n (cj_noo k5 k8 (by decide))]; exact k5
  have k18 : G13 a = some (.inl (0, N, .inl (mc_pair f t 9 ((2 : Int32) * x + 1) env))) := by rw [e14, cj_up_n (cj_nao k6 k8)]; exact k6
  have k19 : G13 pg = some (.inr (0, [.ref pa, .int (nI ln)])) := by rw [e14, cj_up_n (cj_noo k10 k8 (by decide))]; exact k10
  have k20 : G13 pa = some (.inl (0, 360, .inl pf)) := by rw [e14, cj_up_n (cj_nao k11 k8)]; exact k11
  have r21 : cj_fr [m, sk, o, a] G G13 := by rw [e14]; exact cj_fr.up r12 (by simp)
  refine cj_goto (tgt := 308) dX2_perform_208 (by decide) ?_
  refine cj_aload_n dX2_perform_308 rfl ?_
  refine cj_iload_n dX2_perform_309 rfl ?_
  refine cj_pc (pc' := 310) rfl ?_
  refine cj_put flX2_25 dX2_perform_310 k15 rfl rfl (Nat.le_of_ble_eq_true rfl) ?_
  refine cj_nm (fun G22 e23 => ?_)
  have k24 : G22 m = some (.inr (2, [.ref pg, .ref o, .ref sk, .int (nI ht), .int (4 * nI t), .int env, .int (at9 + 1), .int hl, .int rs])) := by rw [e23]; exact cj_up_s
  have k25 : G22 sk = some (.inl (0, 40, .inl sf)) := by rw [e23, cj_up_n (cj_nao k16 k15)]; exact k16
  have k26 : G22 o = some (.inr (1, [.ref a, .ref b, .ref c, .int (nI (t + 3)), .int cp9, .int tn9])) := by rw [e23, cj_up_n (cj_noo k17 k15 (by decide))]; exact k17
  have k27 : G22 a = some (.inl (0, N, .inl (mc_pair f t 9 ((2 : Int32) * x + 1) env))) := by rw [e23, cj_up_n (cj_nao k18 k15)]; exact k18
  have k28 : G22 pg = some (.inr (0, [.ref pa, .int (nI ln)])) := by rw [e23, cj_up_n (cj_noo k19 k15 (by decide))]; exact k19
  have k29 : G22 pa = some (.inl (0, 360, .inl pf)) := by rw [e23, cj_up_n (cj_nao k20 k15)]; exact k20
  have r30 : cj_fr [m, sk, o, a] G G22 := by rw [e23]; exact cj_fr.up r21 (by simp)
  refine cj_vret rfl dX2_perform_313 ?_
  exact ⟨rfl, k24, k25, k26, k27, r30⟩
set_option maxHeartbeats 4000000 in
set_option maxRecDepth 100000 in
theorem t_perform_11 {G : cj_G} {m pg pa o sk ht ln a b c N t q : Nat} {f sf pf : Nat → Int32} {x acc env at9 hl rs cp9 tn9 : Int32} (k_m : G m = some (.inr (2, [.ref pg, .ref o, .ref sk, .int (nI ht), .int acc, .int env, .int at9, .int hl, .int rs]))) (k_sk : G sk = some (.inl (0, 40, .inl sf))) (k_o : G o = some (.inr (1, [.ref a, .ref b, .ref c, .int (nI t), .int cp9, .int tn9]))) (k_a : G a = some (.inl (0, N, .inl f))) (hN : N ≤ 200) (k_pg : G pg = some (.inr (0, [.ref pa, .int (nI ln)]))) (k_pa : G pa = some (.inl (0, 360, .inl pf))) (hln : ln ≤ 120) (n_sk_a : sk ≠ a) (n_pa_a : pa ≠ a) (n_pa_sk : pa ≠ sk) (hht : ht ≤ 40) (ht9 : t ≤ N) (hq : q < 1000) : cj_T mX2_perform 6 0 0 [.ref m, .int 11, .int x] G (fun v G' => v = none ∧ G' m = some (.inr (2, [.ref pg, .ref o, .ref sk, .int (nI ht), .int acc, .int env, .int x, .int hl, .int rs])) ∧ G' sk = some (.inl (0, 40, .inl sf)) ∧ G' o = some (.inr (1, [.ref a, .ref b, .ref c, .int (nI t), .int cp9, .int tn9])) ∧ G' a = some (.inl (0, N, .inl f)) ∧ cj_fr [m, sk, o, a] G G') (cj_no) := by
  refine cj_T_of (by decide) (Nat.le_of_ble_eq_true rfl) ?_
  refine cj_lvs (lv' := [(0, .ref m), (1, .int 11), (2, .int x)]) rfl ?_
  refine cj_aload_n dX2_perform_0 rfl ?_
  refine cj_get flX2_25 dX2_perform_1 k_m rfl ?_
  refine cj_iconst (v := 1) dX2_perform_4 (by decide) ?_
  refine cj_iadd dX2_perform_5 ?_
  refine cj_pc (pc' := 6) rfl ?_
  refine cj_istore_n (lv' := [(3, .int (at9 + 1)), (0, .ref m), (1, .int 11), (2, .int x)]) dX2_perform_6 (by decide) rfl ?_
  refine cj_iload_n dX2_perform_7 rfl ?_
  refine cj_tableIn (off := 203) (tgt := 211) dX2_perform_8 (by decide +kernel) (by decide +kernel) (by decide +kernel) (by decide +kernel) ?_
  refine cj_iload_n dX2_perform_211 rfl ?_
  refine cj_pc (pc' := 212) rfl ?_
  refine cj_istore_n (lv' := [(3, .int x), (0, .ref m), (1, .int 11), (2, .int x)]) dX2_perform_212 (by decide) rfl ?_
  refine cj_goto (tgt := 308) dX2_perform_213 (by decide) ?_
  refine cj_aload_n dX2_perform_308 rfl ?_
  refine cj_iload_n dX2_perform_309 rfl ?_
  refine cj_pc (pc' := 310) rfl ?_
  refine cj_put flX2_25 dX2_perform_310 k_m rfl rfl (Nat.le_of_ble_eq_true rfl) ?_
  refine cj_nm (fun G1 e2 => ?_)
  have k3 : G1 m = some (.inr (2, [.ref pg, .ref o, .ref sk, .int (nI ht), .int acc, .int env, .int x, .int hl, .int rs])) := by rw [e2]; exact cj_up_s
  have k4 : G1 sk = some (.inl (0, 40, .inl sf)) := by rw [e2, cj_up_n (cj_nao k_sk k_m)]; exact k_sk
  have k5 : G1 o = some (.inr (1, [.ref a, .ref b, .ref c, .int (nI t), .int cp9, .int tn9])) := by rw [e2, cj_up_n (cj_noo k_o k_m (by decide))]; exact k_o
  have k6 : G1 a = some (.inl (0, N, .inl f)) := by rw [e2, cj_up_n (cj_nao k_a k_m)]; exact k_a
  have k7 : G1 pg = some (.inr (0, [.ref pa, .int (nI ln)])) := by rw [e2, cj_up_n (cj_noo k_pg k_m (by decide))]; exact k_pg
  have k8 : G1 pa = some (.inl (0, 360, .inl pf)) := by rw [e2, cj_up_n (cj_nao k_pa k_m)]; exact k_pa
  have r9 : cj_fr [m, sk, o, a] G G1 := by rw [e2]; exact cj_fr.up (cj_fr.rf (S := [m, sk, o, a]) (G := G)) (by simp)
  refine cj_vret rfl dX2_perform_313 ?_
  exact ⟨rfl, k3, k4, k5, k6, r9⟩
set_option maxHeartbeats 4000000 in
set_option maxRecDepth 100000 in
theorem t_perform_12 {G : cj_G} {m pg pa o sk ht ln a b c N t q : Nat} {f sf pf : Nat → Int32} {x acc env at9 hl rs cp9 tn9 : Int32} (k_m : G m = some (.inr (2, [.ref pg, .ref o, .ref sk, .int (nI ht), .int acc, .int env, .int at9, .int hl, .int rs]))) (k_sk : G sk = some (.inl (0, 40, .inl sf))) (k_o : G o = some (.inr (1, [.ref a, .ref b, .ref c, .int (nI t), .int cp9, .int tn9]))) (k_a : G a = some (.inl (0, N, .inl f))) (hN : N ≤ 200) (k_pg : G pg = some (.inr (0, [.ref pa, .int (nI ln)]))) (k_pa : G pa = some (.inl (0, 360, .inl pf))) (hln : ln ≤ 120) (n_sk_a : sk ≠ a) (n_pa_a : pa ≠ a) (n_pa_sk : pa ≠ sk) (hht : ht ≤ 40) (ht9 : t ≤ N) (hq : q < 1000) : cj_T mX2_perform 6 0 0 [.ref m, .int 12, .int x] G (fun v G' => v = none ∧ G' m = some (.inr (2, [.ref pg, .ref o, .ref sk, .int (nI ((ht - 1) - 1)), .int acc, .int (mc_top sf (ht - 1)), .int ((mc_top sf ht) >>> ((1 : Int32) &&& 31)), .int hl, .int rs])) ∧ G' sk = some (.inl (0, 40, .inl sf)) ∧ G' o = some (.inr (1, [.ref a, .ref b, .ref c, .int (nI t), .int cp9, .int tn9])) ∧ G' a = some (.inl (0, N, .inl f)) ∧ cj_fr [m, sk, o, a] G G') (cj_no) := by
  refine cj_T_of (by decide) (Nat.le_of_ble_eq_true rfl) ?_
  refine cj_lvs (lv' := [(0, .ref m), (1, .int 12), (2, .int x)]) rfl ?_
  refine cj_aload_n dX2_perform_0 rfl ?_
  refine cj_get flX2_25 dX2_perform_1 k_m rfl ?_
  refine cj_iconst (v := 1) dX2_perform_4 (by decide) ?_
  refine cj_iadd dX2_perform_5 ?_
  refine cj_pc (pc' := 6) rfl ?_
  refine cj_istore_n (lv' := [(3, .int (at9 + 1)), (0, .ref m), (1, .int 12), (2, .int x)]) dX2_perform_6 (by decide) rfl ?_
  refine cj_iload_n dX2_perform_7 rfl ?_
  refine cj_tableIn (off := 208) (tgt := 216) dX2_perform_8 (by decide +kernel) (by decide +kernel) (by decide +kernel) (by decide +kernel) ?_
  refine cj_aload_n dX2_perform_216 rfl ?_
  refine cj_pc (pc' := 217) rfl ?_
  refine cj_callV (M' := mX2_pop) (d' := 1) (k' := 0) (n' := 0) (index := 139) (np := 0) (As := []) (rest := []) dX2_perform_217 lkX2_139 mwX2_pop (t_pop k_m k_sk (by omega)) (by omega) rfl rfl (Nat.le_of_ble_eq_true rfl) k_m rfl (fun v9 G2 q1 => ?_) (fun _ _ h => absurd h id)
  obtain ⟨rfl, k3, r4⟩ := q1
  have k5 : G2 sk = some (.inl (0, 40, .inl sf)) := r4 _ _ (cj_ni1 (cj_nao k_sk k_m)) k_sk
  have k6 : G2 o = some (.inr (1, [.ref a, .ref b, .ref c, .int (nI t), .int cp9, .int tn9])) := r4 _ _ (cj_ni1 (cj_noo k_o k_m (by decide))) k_o
  have k7 : G2 a = some (.inl (0, N, .inl f)) := r4 _ _ (cj_ni1 (cj_nao k_a k_m)) k_a
  have k8 : G2 pg = some (.inr (0, [.ref pa, .int (nI ln)])) := r4 _ _ (cj_ni1 (cj_noo k_pg k_m (by decide))) k_pg
  have k9 : G2 pa = some (.inl (0, 360, .inl pf)) := r4 _ _ (cj_ni1 (cj_nao k_pa k_m)) k_pa
  have r10 : cj_fr [m, sk, o, a] G G2 := cj_fr.trans (cj_fr.rf (S := [m, sk, o, a]) (G := G)) (cj_fr.mono r4 (by simp))
  refine cj_st (st' := [.int (mc_top sf ht)]) rfl ?_
  refine cj_callSN (M' := mX6_intOf) (d' := 0) (k' := 0) (n' := 0) (index := 142) (np := 1) (As := [.int (mc_top sf ht)]) (rest := []) dX2_perform_220 lkX2_142 mwX6_intOf (t_intOf) (by omega) rfl rfl (Nat.le_of_ble_eq_true rfl) (fun v9 G12 q11 => ?_)
  obtain ⟨rfl, e9⟩ := q11
  subst G12
  refine cj_st (st' := [.int ((mc_top sf ht) >>> ((1 : Int32) &&& 31))]) rfl ?_
  refine cj_istore_n (lv' := [(3, .int ((mc_top sf ht) >>> ((1 : Int32) &&& 31))), (0, .ref m), (1, .int 12), (2, .int x)]) dX2_perform_223 (by decide) rfl ?_
  refine cj_aload_n dX2_perform_224 rfl ?_
  refine cj_pc (pc' := 225) rfl ?_
  refine cj_aload_n dX2_perform_225 rfl ?_
  refine cj_callV (M' := mX2_pop) (d' := 1) (k' := 0) (n' := 0) (index := 139) (np := 0) (As := []) (rest := [.ref m]) dX2_perform_226 lkX2_139 mwX2_pop (t_pop k3 k5 (by omega)) (by omega) rfl rfl (Nat.le_of_ble_eq_true rfl) k3 rfl (fun v9 G14 q13 => ?_) (fun _ _ h => absurd h id)
  obtain ⟨rfl, k15, r16⟩ := q13
  have k17 : G14 sk = some (.inl (0, 40, .inl sf)) := r16 _ _ (cj_ni1 (cj_nao k5 k3)) k5
  have k18 : G14 o = some (.inr (1, [.ref a, .ref b, .ref c, .int (nI t), .int cp9, .int tn9])) := r16 _ _ (cj_ni1 (cj_noo k6 k3 (by decide))) k6
  have k19 : G14 a = some (.inl (0, N, .inl f)) := r16 _ _ (cj_ni1 (cj_nao k7 k3)) k7
  have k20 : G14 pg = some (.inr (0, [.ref pa, .int (nI ln)])) := r16 _ _ (cj_ni1 (cj_noo k8 k3 (by decide))) k8
  have k21 : G14 pa = some (.inl (0, 360, .inl pf)) := r16 _ _ (cj_ni1 (cj_nao k9 k3)) k9
  have r22 : cj_fr [m, sk, o, a] G G14 := cj_fr.trans r10 (cj_fr.mono r16 (by simp))
  refine cj_st (st' := [.int (mc_top sf (ht - 1)), .ref m]) rfl ?_
  refine cj_put flX2_22 dX2_perform_229 k15 rfl rfl (Nat.le_of_ble_eq_true rfl) ?_
  refine cj_nm (fun G23 e24 => ?_)
  have k25 : G23 m = some (.inr (2, [.ref pg, .ref o, .ref sk, .int (nI ((ht - 1) - 1)), .int acc, .int (mc_top sf (ht - 1)), .int at9, .int hl, .int rs])) := by rw [e24]; exact cj_up_s
  have k26 : G23 sk = some (.inl (0, 40, .inl sf)) := by rw [e24, cj_up_n (cj_nao k17 k15)]; exact k17
  have k27 : G23 o = some (.inr (1, [.ref a, .ref b, .ref c, .int (nI t), .int cp9, .int tn9])) := by rw [e24, cj_up_n (cj_noo k18 k15 (by decide))]; exact k18
  have k28 : G23 a = some (.inl (0, N, .inl f)) := by rw [e24, cj_up_n (cj_nao k19 k15)]; exact k19
  have k29 : G23 pg = some (.inr (0, [.ref pa, .int (nI ln)])) := by rw [e24, cj_up_n (cj_noo k20 k15 (by decide))]; exact k20
  have k30 : G23 pa = some (.inl (0, 360, .inl pf)) := by rw [e24, cj_up_n (cj_nao k21 k15)]; exact k21
  have r31 : cj_fr [m, sk, o, a] G G23 := by rw [e24]; exact cj_fr.up r22 (by simp)
  refine cj_goto (tgt := 308) dX2_perform_232 (by decide) ?_
  refine cj_pc (pc' := 308) rfl ?_
  refine cj_aload_n dX2_perform_308 rfl ?_
  refine cj_iload_n dX2_perform_309 rfl ?_
  refine cj_put flX2_25 dX2_perform_310 k25 rfl rfl (Nat.le_of_ble_eq_true rfl) ?_
  refine cj_nm (fun G32 e33 => ?_)
  have k34 : G32 m = some (.inr (2, [.ref pg, .ref o, .ref sk, .int (nI ((ht - 1) - 1)), .int acc, .int (mc_top sf (ht - 1)), .int ((mc_top sf ht) >>> ((1 : Int32) &&& 31)), .int hl, .int rs])) := by rw [e33]; exact cj_up_s
  have k35 : G32 sk = some (.inl (0, 40, .inl sf)) := by rw [e33, cj_up_n (cj_nao k26 k25)]; exact k26
  have k36 : G32 o = some (.inr (1, [.ref a, .ref b, .ref c, .int (nI t), .int cp9, .int tn9])) := by rw [e33, cj_up_n (cj_noo k27 k25 (by decide))]; exact k27
  have k37 : G32 a = some (.inl (0, N, .inl f)) := by rw [e33, cj_up_n (cj_nao k28 k25)]; exact k28
  have k38 : G32 pg = some (.inr (0, [.ref pa, .int (nI ln)])) := by rw [e33, cj_up_n (cj_noo k29 k25 (by decide))]; exact k29
  have k39 : G32 pa = some (.inl (0, 360, .inl pf)) := by rw [e33, cj_up_n (cj_nao k30 k25)]; exact k30
  have r40 : cj_fr [m, sk, o, a] G G32 := by rw [e33]; exact cj_fr.up r31 (by simp)
  refine cj_vret rfl dX2_perform_313 ?_
  exact ⟨rfl, k34, k35, k36, k37, r40⟩
set_option maxHeartbeats 4000000 in
set_option maxRecDepth 100000 in
theorem t_perform_138 {G : cj_G} {m pg pa o sk ht ln a b c N t q : Nat} {f sf pf : Nat → Int32} {x acc env at9 hl rs cp9 tn9 : Int32} (k_m : G m = some (.inr (2, [.ref pg, .ref o, .ref sk, .int (nI ht), .int acc, .int env, .int at9, .int hl, .int rs]))) (k_sk : G sk = some (.inl (0, 40, .inl sf))) (k_o : G o = some (.inr (1, [.ref a, .ref b, .ref c, .int (nI t), .int cp9, .int tn9]))) (k_a : G a = some (.inl (0, N, .inl f))) (hN : N ≤ 200) (k_pg : G pg = some (.inr (0, [.ref pa, .int (nI ln)]))) (k_pa : G pa = some (.inl (0, 360, .inl pf))) (hln : ln ≤ 120) (n_sk_a : sk ≠ a) (n_pa_a : pa ≠ a) (n_pa_sk : pa ≠ sk) (hht : ht ≤ 40) (ht9 : t ≤ N) (hq : q < 1000) (hht2 : ht < 40) (hk : ¬ hp_bk f (nI t) acc = 9) (hroom : t + 3 ≤ N) : cj_T mX2_perform 6 0 0 [.ref m, .int 13, .int x] G (fun v G' => v = none ∧ G' m = some (.inr (2, [.ref pg, .ref o, .ref sk, .int (nI ((ht - 1) + 1 + 1)), .int acc, .int (4 * nI t), .int (hp_wo (mc_en8 f t acc (mc_top sf ht)) (nI (t + 3)) acc 1 >>> ((1 : Int32) &&& 31)), .int hl, .int rs])) ∧ G' sk = some (.inl (0, 40, .inl (upd (upd sf (ht - 1) env) ((ht - 1) + 1) ((2 : Int32) * (at9 + 1) + 1)))) ∧ G' o = some (.inr (1, [.ref a, .ref b, .ref c, .int (nI (t + 3)), .int cp9, .int tn9])) ∧ G' a = some (.inl (0, N, .inl (mc_en8 f t acc (mc_top sf ht)))) ∧ cj_fr [m, sk, o, a] G G') (cj_no) := by
  refine cj_T_of (by decide) (Nat.le_of_ble_eq_true rfl) ?_
  refine cj_lvs (lv' := [(0, .ref m), (1, .int 13), (2, .int x)]) rfl ?_
  refine cj_aload_n dX2_perform_0 rfl ?_
  refine cj_get flX2_25 dX2_perform_1 k_m rfl ?_
  refine cj_iconst (v := 1) dX2_perform_4 (by decide) ?_
  refine cj_iadd dX2_perform_5 ?_
  refine cj_pc (pc' := 6) rfl ?_
  refine cj_istore_n (lv' := [(3, .int (at9 + 1)), (0, .ref m), (1, .int 13), (2, .int x)]) dX2_perform_6 (by decide) rfl ?_
  refine cj_iload_n dX2_perform_7 rfl ?_
  refine cj_tableIn (off := 227) (tgt := 235) dX2_perform_8 (by decide +kernel) (by decide +kernel) (by decide +kernel) (by decide +kernel) ?_
  refine cj_aload_n dX2_perform_235 rfl ?_
  refine cj_pc (pc' := 236) rfl ?_
  refine cj_iload_n dX2_perform_236 rfl ?_
  refine cj_callV (M' := mX2_enterFunction) (d' := 4) (k' := 0) (n' := 0) (index := 145) (np := 1) (As := [.int (at9 + 1)]) (rest := []) dX2_perform_237 lkX2_145 mwX2_enterFunction (t_enter_8 k_m k_sk k_o k_a hN n_sk_a hht2 ht9 hk hroom) (by omega) rfl rfl (Nat.le_of_ble_eq_true rfl) k_m rfl (fun v9 G2 q1 => ?_) (fun _ _ h => absurd h id)
  obtain ⟨rfl, k3, k4, k5, k6, r7⟩ := q1
  have k8 : G2 pg = some (.inr (0, [.ref pa, .int (nI ln)])) := r7 _ _ (cj_ni4 (cj_noo k_pg k_m (by decide)) (cj_noa k_pg k_sk) (cj_noo k_pg k_o (by decide)) (cj_noa k_pg k_a)) k_pg
  have k9 : G2 pa = some (.inl (0, 360, .inl pf)) := r7 _ _ (cj_ni4 (cj_nao k_pa k_m) n_pa_sk (cj_nao k_pa k_o) n_pa_a) k_pa
  have r10 : cj_fr [m, sk, o, a] G G2 := cj_fr.trans (cj_fr.rf (S := [m, sk, o, a]) (G := G)) (cj_fr.mono r7 (by simp))
  refine cj_st (st' := [.int (hp_wo (mc_en8 f t acc (mc_top sf ht)) (nI (t + 3)) acc 1 >>> ((1 : Int32) &&& 31))]) rfl ?_
  refine cj_istore_n (lv' := [(3, .int (hp_wo (mc_en8 f t acc (mc_top sf ht)) (nI (t + 3)) acc 1 >>> ((1 : Int32) &&& 31))), (0, .ref m), (1, .int 13), (2, .int x)]) dX2_perform_240 (by decide) rfl ?_
  refine cj_goto (tgt := 308) dX2_perform_241 (by decide) ?_
  refine cj_pc (pc' := 308) rfl ?_
  refine cj_aload_n dX2_perform_308 rfl ?_
  refine cj_iload_n dX2_perform_309 rfl ?_
  refine cj_put flX2_25 dX2_perform_310 k3 rfl rfl (Nat.le_of_ble_eq_true rfl) ?_
  refine cj_nm (fun G11 e12 => ?_)
  have k13 : G11 m = some (.inr (2, [.ref pg, .ref o, .ref sk, .int (nI ((ht - 1) + 1 + 1)), .int acc, .int (4 * nI t), .int (hp_wo (mc_en8 f t acc (mc_top sf ht)) (nI (t + 3)) acc 1 >>> ((1 : Int32) &&& 31)), .int hl, .int rs])) := by rw [e12]; exact cj_up_s
  have k14 : G11 sk = some (.inl (0, 40, .inl (upd (upd sf (ht - 1) env) ((ht - 1) + 1) ((2 : Int32) * (at9 + 1) + 1)))) := by rw [e12, cj_up_n (cj_nao k4 k3)]; exact k4
  have k15 : G11 o = some (.inr (1, [.ref a, .ref b, .ref c, .int (nI (t + 3)), .int cp9, .int tn9])) := by rw [e12, cj_up_n (cj_noo k5 k3 (by decide))]; exact k5
  have k16 : G11 a = some (.inl (0, N, .inl (mc_en8 f t acc (mc_top sf ht)))) := by rw [e12, cj_up_n (cj_nao k6 k3)]; exact k6
  have k17 : G11 pg = some (.inr (0, [.ref pa, .int (nI ln)])) := by rw [e12, cj_up_n (cj_noo k8 k3 (by decide))]; exact k8
  have k18 : G11 pa = some (.inl (0, 360, .inl pf)) := by rw [e12, cj_up_n (cj_nao k9 k3)]; exact k9
  have r19 : cj_fr [m, sk, o, a] G G11 := by rw [e12]; exact cj_fr.up r10 (by simp)
  refine cj_vret rfl dX2_perform_313 ?_
  exact ⟨rfl, k13, k14, k15, k16, r19⟩
set_option maxHeartbeats 4000000 in
set_option maxRecDepth 100000 in
theorem t_perform_139 {G : cj_G} {m pg pa o sk ht ln a b c N t q : Nat} {f sf pf : Nat → Int32} {x acc env at9 hl rs cp9 tn9 : Int32} (k_m : G m = some (.inr (2, [.ref pg, .ref o, .ref sk, .int (nI ht), .int acc, .int env, .int at9, .int hl, .int rs]))) (k_sk : G sk = some (.inl (0, 40, .inl sf))) (k_o : G o = some (.inr (1, [.ref a, .ref b, .ref c, .int (nI t), .int cp9, .int tn9]))) (k_a : G a = some (.inl (0, N, .inl f))) (hN : N ≤ 200) (k_pg : G pg = some (.inr (0, [.ref pa, .int (nI ln)]))) (k_pa : G pa = some (.inl (0, 360, .inl pf))) (hln : ln ≤ 120) (n_sk_a : sk ≠ a) (n_pa_a : pa ≠ a) (n_pa_sk : pa ≠ sk) (hht : ht ≤ 40) (ht9 : t ≤ N) (hq : q < 1000) (hht2 : ht < 40) (hk : hp_bk f (nI t) acc = 9) (hroom : t + 6 ≤ N) : cj_T mX2_perform 6 0 0 [.ref m, .int 13, .int x] G (fun v G' => v = none ∧ G' m = some (.inr (2, [.ref pg, .ref o, .ref sk, .int (nI ((ht - 1) + 1 + 1)), .int acc, .int (4 * nI (t + 3)), .int (hp_wo (mc_en9 f t acc (mc_top sf ht)) (nI (t + 3 + 3)) acc 1 >>> ((1 : Int32) &&& 31)), .int hl, .int rs])) ∧ G' sk = some (.inl (0, 40, .inl (upd (upd sf (ht - 1) env) ((ht - 1) + 1) ((2 : Int32) * (at9 + 1) + 1)))) ∧ G' o = some (.inr (1, [.ref a, .ref b, .ref c, .int (nI (t + 3 + 3)), .int cp9, .int tn9])) ∧ G' a = some (.inl (0, N, .inl (mc_en9 f t acc (mc_top sf ht)))) ∧ cj_fr [m, sk, o, a] G G') (cj_no) := by
  refine cj_T_of (by decide) (Nat.le_of_ble_eq_true rfl) ?_
  refine cj_lvs (lv' := [(0, .ref m), (1, .int 13), (2, .int x)]) rfl ?_
  refine cj_aload_n dX2_perform_0 rfl ?_
  refine cj_get flX2_25 dX2_perform_1 k_m rfl ?_
  refine cj_iconst (v := 1) dX2_perform_4 (by decide) ?_
  refine cj_iadd dX2_perform_5 ?_
  refine cj_pc (pc' := 6) rfl ?_
  refine cj_istore_n (lv' := [(3, .int (at9 + 1)), (0, .ref m), (1, .int 13), (2, .int x)]) dX2_perform_6 (by decide) rfl ?_
  refine cj_iload_n dX2_perform_7 rfl ?_
  refine cj_tableIn (off := 227) (tgt := 235) dX2_perform_8 (by decide +kernel) (by decide +kernel) (by decide +kernel) (by decide +kernel) ?_
  refine cj_aload_n dX2_perform_235 rfl ?_
  refine cj_pc (pc' := 236) rfl ?_
  refine cj_iload_n dX2_perform_236 rfl ?_
  refine cj_callV (M' := mX2_enterFunction) (d' := 4) (k' := 0) (n' := 0) (index := 145) (np := 1) (As := [.int (at9 + 1)]) (rest := []) dX2_perform_237 lkX2_145 mwX2_enterFunction (t_enter_9 k_m k_sk k_o k_a hN n_sk_a hht2 ht9 hk hroom) (by omega) rfl rfl (Nat.le_of_ble_eq_true rfl) k_m rfl (fun v9 G2 q1 => ?_) (fun _ _ h => absurd h id)
  obtain ⟨rfl, k3, k4, k5, k6, r7⟩ := q1
  have k8 : G2 pg = some (.inr (0, [.ref pa, .int (nI ln)])) := r7 _ _ (cj_ni4 (cj_noo k_pg k_m (by decide)) (cj_noa k_pg k_sk) (cj_noo k_pg k_o (by decide)) (cj_noa k_pg k_a)) k_pg
  have k9 : G2 pa = some (.inl (0, 360, .inl pf)) := r7 _ _ (cj_ni4 (cj_nao k_pa k_m) n_pa_sk (cj_nao k_pa k_o) n_pa_a) k_pa
  have r10 : cj_fr [m, sk, o, a] G G2 := cj_fr.trans (cj_fr.rf (S := [m, sk, o, a]) (G := G)) (cj_fr.mono r7 (by simp))
  refine cj_st (st' := [.int (hp_wo (mc_en9 f t acc (mc_top sf ht)) (nI (t + 3 + 3)) acc 1 >>> ((1 : Int32) &&& 31))]) rfl ?_
  refine cj_istore_n (lv' := [(3, .int (hp_wo (mc_en9 f t acc (mc_top sf ht)) (nI (t + 3 + 3)) acc 1 >>> ((1 : Int32) &&& 31))), (0, .ref m), (1, .int 13), (2, .int x)]) dX2_perform_240 (by decide) rfl ?_
  refine cj_goto (tgt := 308) dX2_perform_241 (by decide) ?_
  refine cj_pc (pc' := 308) rfl ?_
  refine cj_aload_n dX2_perform_308 rfl ?_
  refine cj_iload_n dX2_perform_309 rfl ?_
  refine cj_put flX2_25 dX2_perform_310 k3 rfl rfl (Nat.le_of_ble_eq_true rfl) ?_
  refine cj_nm (fun G11 e12 => ?_)
  have k13 : G11 m = some (.inr (2, [.ref pg, .ref o, .ref sk, .int (nI ((ht - 1) + 1 + 1)), .int acc, .int (4 * nI (t + 3)), .int (hp_wo (mc_en9 f t acc (mc_top sf ht)) (nI (t + 3 + 3)) acc 1 >>> ((1 : Int32) &&& 31)), .int hl, .int rs])) := by rw [e12]; exact cj_up_s
  have k14 : G11 sk = some (.inl (0, 40, .inl (upd (upd sf (ht - 1) env) ((ht - 1) + 1) ((2 : Int32) * (at9 + 1) + 1)))) := by rw [e12, cj_up_n (cj_nao k4 k3)]; exact k4
  have k15 : G11 o = some (.inr (1, [.ref a, .ref b, .ref c, .int (nI (t + 3 + 3)), .int cp9, .int tn9])) := by rw [e12, cj_up_n (cj_noo k5 k3 (by decide))]; exact k5
  have k16 : G11 a = some (.inl (0, N, .inl (mc_en9 f t acc (mc_top sf ht)))) := by rw [e12, cj_up_n (cj_nao k6 k3)]; exact k6
  have k17 : G11 pg = some (.inr (0, [.ref pa, .int (nI ln)])) := by rw [e12, cj_up_n (cj_noo k8 k3 (by decide))]; exact k8
  have k18 : G11 pa = some (.inl (0, 360, .inl pf)) := by rw [e12, cj_up_n (cj_nao k9 k3)]; exact k9
  have r19 : cj_fr [m, sk, o, a] G G11 := by rw [e12]; exact cj_fr.up r10 (by simp)
  refine cj_vret rfl dX2_perform_313 ?_
  exact ⟨rfl, k13, k14, k15, k16, r19⟩
set_option maxHeartbeats 4000000 in
set_option maxRecDepth 100000 in
theorem t_perform_14 {G : cj_G} {m pg pa o sk ht ln a b c N t q : Nat} {f sf pf : Nat → Int32} {x acc env at9 hl rs cp9 tn9 : Int32} (k_m : G m = some (.inr (2, [.ref pg, .ref o, .ref sk, .int (nI ht), .int acc, .int env, .int at9, .int hl, .int rs]))) (k_sk : G sk = some (.inl (0, 40, .inl sf))) (k_o : G o = some (.inr (1, [.ref a, .ref b, .ref c, .int (nI t), .int cp9, .int tn9]))) (k_a : G a = some (.inl (0, N, .inl f))) (hN : N ≤ 200) (k_pg : G pg = some (.inr (0, [.ref pa, .int (nI ln)]))) (k_pa : G pa = some (.inl (0, 360, .inl pf))) (hln : ln ≤ 120) (n_sk_a : sk ≠ a) (n_pa_a : pa ≠ a) (n_pa_sk : pa ≠ sk) (hht : ht ≤ 40) (ht9 : t ≤ N) (hq : q < 1000) (hroom : t + 3 ≤ N) : cj_T mX2_perform 6 0 0 [.ref m, .int 14, .int x] G (fun v G' => v = none ∧ G' m = some (.inr (2, [.ref pg, .ref o, .ref sk, .int (nI ht), .int acc, .int (4 * nI t), .int (at9 + 1), .int hl, .int rs])) ∧ G' sk = some (.inl (0, 40, .inl sf)) ∧ G' o = some (.inr (1, [.ref a, .ref b, .ref c, .int (nI (t + 3)), .int cp9, .int tn9])) ∧ G' a = some (.inl (0, N, .inl (mc_pair f t 10 acc env))) ∧ cj_fr [m, sk, o, a] G G') (cj_no) := by
  refine cj_T_of (by decide) (Nat.le_of_ble_eq_true rfl) ?_
  refine cj_lvs (lv' := [(0, .ref m), (1, .int 14), (2, .int x)]) rfl ?_
  refine cj_aload_n dX2_perform_0 rfl ?_
  refine cj_get flX2_25 dX2_perform_1 k_m rfl ?_
  refine cj_iconst (v := 1) dX2_perform_4 (by decide) ?_
  refine cj_iadd dX2_perform_5 ?_
  refine cj_pc (pc' := 6) rfl ?_
  refine cj_istore_n (lv' := [(3, .int (at9 + 1)), (0, .ref m), (1, .int 14), (2, .int x)]) dX2_perform_6 (by decide) rfl ?_
  refine cj_iload_n dX2_perform_7 rfl ?_
  refine cj_tableIn (off := 236) (tgt := 244) dX2_perform_8 (by decide +kernel) (by decide +kernel) (by decide +kernel) (by decide +kernel) ?_
  refine cj_aload_n dX2_perform_244 rfl ?_
  refine cj_pc (pc' := 245) rfl ?_
  refine cj_aload_n dX2_perform_245 rfl ?_
  refine cj_get flX2_19 dX2_perform_246 k_m rfl ?_
  refine cj_callV (M' := mX2_bind) (d' := 3) (k' := 0) (n' := 0) (index := 148) (np := 1) (As := [.int acc]) (rest := []) dX2_perform_249 lkX2_148 mwX2_bind (t_bind k_m k_o k_a hN (by omega)) (by omega) rfl rfl (Nat.le_of_ble_eq_true rfl) k_m rfl (fun v9 G2 q1 => ?_) (fun _ _ h => absurd h id)
  obtain ⟨rfl, k3, k4, k5, r6⟩ := q1
  have k7 : G2 sk = some (.inl (0, 40, .inl sf)) := r6 _ _ (cj_ni3 (cj_nao k_sk k_m) (cj_nao k_sk k_o) n_sk_a) k_sk
  have k8 : G2 pg = some (.inr (0, [.ref pa, .int (nI ln)])) := r6 _ _ (cj_ni3 (cj_noo k_pg k_m (by decide)) (cj_noo k_pg k_o (by decide)) (cj_noa k_pg k_a)) k_pg
  have k9 : G2 pa = some (.inl (0, 360, .inl pf)) := r6 _ _ (cj_ni3 (cj_nao k_pa k_m) (cj_nao k_pa k_o) n_pa_a) k_pa
  have r10 : cj_fr [m, sk, o, a] G G2 := cj_fr.trans (cj_fr.rf (S := [m, sk, o, a]) (G := G)) (cj_fr.mono r6 (by simp))
  refine cj_st (st' := []) rfl ?_
  refine cj_goto (tgt := 308) dX2_perform_252 (by decide) ?_
  refine cj_pc (pc' := 308) rfl ?_
  refine cj_aload_n dX2_perform_308 rfl ?_
  refine cj_iload_n dX2_perform_309 rfl ?_
  refine cj_put flX2_25 dX2_perform_310 k3 rfl rfl (Nat.le_of_ble_eq_true rfl) ?_
  refine cj_nm (fun G11 e12 => ?_)
  have k13 : G11 m = some (.inr (2, [.ref pg, .ref o, .ref sk, .int (nI ht), .int acc, .int (4 * nI t), .int (at9 + 1), .int hl, .int rs])) := by rw [e12]; exact cj_up_s
  have k14 : G11 sk = some (.inl (0, 40, .inl sf)) := by rw [e12, cj_up_n (cj_nao k7 k3)]; exact k7
  have k15 : G11 o = some (.inr (1, [.ref a, .ref b, .ref c, .int (nI (t + 3)), .int cp9, .int tn9])) := by rw [e12, cj_up_n (cj_noo k4 k3 (by decide))]; exact k4
  have k16 : G11 a = some (.inl (0, N, .inl (mc_pair f t 10 acc env))) := by rw [e12, cj_up_n (cj_nao k5 k3)]; exact k5
  have k17 : G11 pg = some (.inr (0, [.ref pa, .int (nI ln)])) := by rw [e12, cj_up_n (cj_noo k8 k3 (by decide))]; exact k8
  have k18 : G11 pa = some (.inl (0, 360, .inl pf)) := by rw [e12, cj_up_n (cj_nao k9 k3)]; exact k9
  have r19 : cj_fr [m, sk, o, a] G G11 := by rw [e12]; exact cj_fr.up r10 (by simp)
  refine cj_vret rfl dX2_perform_313 ?_
  exact ⟨rfl, k13, k14, k15, k16, r19⟩
set_option maxHeartbeats 4000000 in
set_option maxRecDepth 100000 in
theorem t_perform_15 {G : cj_G} {m pg pa o sk ht ln a b c N t q : Nat} {f sf pf : Nat → Int32} {x acc env at9 hl rs cp9 tn9 : Int32} (k_m : G m = some (.inr (2, [.ref pg, .ref o, .ref sk, .int (nI ht), .int acc, .int env, .int at9, .int hl, .int rs]))) (k_sk : G sk = some (.inl (0, 40, .inl sf))) (k_o : G o = some (.inr (1, [.ref a, .ref b, .ref c, .int (nI t), .int cp9, .int tn9]))) (k_a : G a = some (.inl (0, N, .inl f))) (hN : N ≤ 200) (k_pg : G pg = some (.inr (0, [.ref pa, .int (nI ln)]))) (k_pa : G pa = some (.inl (0, 360, .inl pf))) (hln : ln ≤ 120) (n_sk_a : sk ≠ a) (n_pa_a : pa ≠ a) (n_pa_sk : pa ≠ sk) (hht : ht ≤ 40) (ht9 : t ≤ N) (hq : q < 1000) : cj_T mX2_perform 6 0 0 [.ref m, .int 15, .int (nI q)] G (fun v G' => v = none ∧ G' m = some (.inr (2, [.ref pg, .ref o, .ref sk, .int (nI ht), .int acc, .int (mc_fo f t q env), .int (at9 + 1), .int hl, .int rs])) ∧ G' sk = some (.inl (0, 40, .inl sf)) ∧ G' o = some (.inr (1, [.ref a, .ref b, .ref c, .int (nI t), .int cp9, .int tn9])) ∧ G' a = some (.inl (0, N, .inl f)) ∧ cj_fr [m, sk, o, a] G G') (cj_no) := by
  refine cj_T_of (by decide) (Nat.le_of_ble_eq_true rfl) ?_
  refine cj_lvs (lv' := [(0, .ref m), (1, .int 15), (2, .int (nI q))]) rfl ?_
  refine cj_aload_n dX2_perform_0 rfl ?_
  refine cj_get flX2_25 dX2_perform_1 k_m rfl ?_
  refine cj_iconst (v := 1) dX2_perform_4 (by decide) ?_
  refine cj_iadd dX2_perform_5 ?_
  refine cj_pc (pc' := 6) rfl ?_
  refine cj_istore_n (lv' := [(3, .int (at9 + 1)), (0, .ref m), (1, .int 15), (2, .int (nI q))]) dX2_perform_6 (by decide) rfl ?_
  refine cj_iload_n dX2_perform_7 rfl ?_
  refine cj_tableIn (off := 247) (tgt := 255) dX2_perform_8 (by decide +kernel) (by decide +kernel) (by decide +kernel) (by decide +kernel) ?_
  refine cj_aload_n dX2_perform_255 rfl ?_
  refine cj_pc (pc' := 256) rfl ?_
  refine cj_aload_n dX2_perform_256 rfl ?_
  refine cj_iload_n dX2_perform_257 rfl ?_
  refine cj_callV (M' := mX2_furtherOn) (d' := 3) (k' := 0) (n' := 0) (index := 125) (np := 1) (As := [.int (nI q)]) (rest := [.ref m]) dX2_perform_258 lkX2_125 mwX2_furtherOn (t_furtherOn k_m k_o k_a hN ht9 (by omega)) (by omega) rfl rfl (Nat.le_of_ble_eq_true rfl) k_m rfl (fun v9 G2 q1 => ?_) (fun _ _ h => absurd h id)
  obtain ⟨rfl, e9⟩ := q1
  subst G2
  refine cj_st (st' := [.int (mc_fo f t q env), .ref m]) rfl ?_
  refine cj_put flX2_22 dX2_perform_261 k_m rfl rfl (Nat.le_of_ble_eq_true rfl) ?_
  refine cj_nm (fun G3 e4 => ?_)
  have k5 : G3 m = some (.inr (2, [.ref pg, .ref o, .ref sk, .int (nI ht), .int acc, .int (mc_fo f t q env), .int at9, .int hl, .int rs])) := by rw [e4]; exact cj_up_s
  have k6 : G3 sk = some (.inl (0, 40, .inl sf)) := by rw [e4, cj_up_n (cj_nao k_sk k_m)]; exact k_sk
  have k7 : G3 o = some (.inr (1, [.ref a, .ref b, .ref c, .int (nI t), .int cp9, .int tn9])) := by rw [e4, cj_up_n (cj_noo k_o k_m (by decide))]; exact k_o
  have k8 : G3 a = some (.inl (0, N, .inl f)) := by rw [e4, cj_up_n (cj_nao k_a k_m)]; exact k_a
  have k9 : G3 pg = some (.inr (0, [.ref pa, .int (nI ln)])) := by rw [e4, cj_up_n (cj_noo k_pg k_m (by decide))]; exact k_pg
  have k10 : G3 pa = some (.inl (0, 360, .inl pf)) := by rw [e4, cj_up_n (cj_nao k_pa k_m)]; exact k_pa
  have r11 : cj_fr [m, sk, o, a] G G3 := by rw [e4]; exact cj_fr.up (cj_fr.rf (S := [m, sk, o, a]) (G := G)) (by simp)
  refine cj_pc (pc' := 264) rfl ?_
  refine cj_goto (tgt := 308) dX2_perform_264 (by decide) ?_
  refine cj_aload_n dX2_perform_308 rfl ?_
  refine cj_iload_n dX2_perform_309 rfl ?_
  refine cj_put flX2_25 dX2_perform_310 k5 rfl rfl (Nat.le_of_ble_eq_true rfl) ?_
  refine cj_nm (fun G12 e13 => ?_)
  have k14 : G12 m = some (.inr (2, [.ref pg, .ref o, .ref sk, .int (nI ht), .int acc, .int (mc_fo f t q env), .int (at9 + 1), .int hl, .int rs])) := by rw [e13]; exact cj_up_s
  have k15 : G12 sk = some (.inl (0, 40, .inl sf)) := by rw [e13, cj_up_n (cj_nao k6 k5)]; exact k6
  have k16 : G12 o = some (.inr (1, [.ref a, .ref b, .ref c, .int (nI t), .int cp9, .int tn9])) := by rw [e13, cj_up_n (cj_noo k7 k5 (by decide))]; exact k7
  have k17 : G12 a = some (.inl (0, N, .inl f)) := by rw [e13, cj_up_n (cj_nao k8 k5)]; exact k8
  have k18 : G12 pg = some (.inr (0, [.ref pa, .int (nI ln)])) := by rw [e13, cj_up_n (cj_noo k9 k5 (by decide))]; exact k9
  have k19 : G12 pa = some (.inl (0, 360, .inl pf)) := by rw [e13, cj_up_n (cj_nao k10 k5)]; exact k10
  have r20 : cj_fr [m, sk, o, a] G G12 := by rw [e13]; exact cj_fr.up r11 (by simp)
  refine cj_pc (pc' := 313) rfl ?_
  refine cj_vret rfl dX2_perform_313 ?_
  exact ⟨rfl, k14, k15, k16, k17, r20⟩
set_option maxHeartbeats 4000000 in
set_option maxRecDepth 100000 in
theorem t_perform_16 {G : cj_G} {m pg pa o sk ht ln a b c N t q : Nat} {f sf pf : Nat → Int32} {x acc env at9 hl rs cp9 tn9 : Int32} (k_m : G m = some (.inr (2, [.ref pg, .ref o, .ref sk, .int (nI ht), .int acc, .int env, .int at9, .int hl, .int rs]))) (k_sk : G sk = some (.inl (0, 40, .inl sf))) (k_o : G o = some (.inr (1, [.ref a, .ref b, .ref c, .int (nI t), .int cp9, .int tn9]))) (k_a : G a = some (.inl (0, N, .inl f))) (hN : N ≤ 200) (k_pg : G pg = some (.inr (0, [.ref pa, .int (nI ln)]))) (k_pa : G pa = some (.inl (0, 360, .inl pf))) (hln : ln ≤ 120) (n_sk_a : sk ≠ a) (n_pa_a : pa ≠ a) (n_pa_sk : pa ≠ sk) (hht : ht ≤ 40) (ht9 : t ≤ N) (hq : q < 1000) : cj_T mX2_perform 6 0 0 [.ref m, .int 16, .int x] G (fun v G' => v = none ∧ G' m = some (.inr (2, [.ref pg, .ref o, .ref sk, .int (nI ht), .int ((4 : Int32) * x + 2), .int env, .int (at9 + 1), .int hl, .int rs])) ∧ G' sk = some (.inl (0, 40, .inl sf)) ∧ G' o = some (.inr (1, [.ref a, .ref b, .ref c, .int (nI t), .int cp9, .int tn9])) ∧ G' a = some (.inl (0, N, .inl f)) ∧ cj_fr [m, sk, o, a] G G') (cj_no) := by
  refine cj_T_of (by decide) (Nat.le_of_ble_eq_true rfl) ?_
  refine cj_lvs (lv' := [(0, .ref m), (1, .int 16), (2, .int x)]) rfl ?_
  refine cj_aload_n dX2_perform_0 rfl ?_
  refine cj_get flX2_25 dX2_perform_1 k_m rfl ?_
  refine cj_iconst (v := 1) dX2_perform_4 (by decide) ?_
  refine cj_iadd dX2_perform_5 ?_
  refine cj_pc (pc' := 6) rfl ?_
  refine cj_istore_n (lv' := [(3, .int (at9 + 1)), (0, .ref m), (1, .int 16), (2, .int x)]) dX2_perform_6 (by decide) rfl ?_
  refine cj_iload_n dX2_perform_7 rfl ?_
  refine cj_tableIn (off := 259) (tgt := 267) dX2_perform_8 (by decide +kernel) (by decide +kernel) (by decide +kernel) (by decide +kernel) ?_
  refine cj_aload_n dX2_perform_267 rfl ?_
  refine cj_pc (pc' := 268) rfl ?_
  refine cj_iload_n dX2_perform_268 rfl ?_
  refine cj_callSN (M' := mX6_wordOfTag) (d' := 0) (k' := 0) (n' := 0) (index := 151) (np := 1) (As := [.int x]) (rest := [.ref m]) dX2_perform_269 lkX2_151 mwX6_wordOfTag (t_wordOfTag) (by omega) rfl rfl (Nat.le_of_ble_eq_true rfl) (fun v9 G2 q1 => ?_)
  obtain ⟨rfl, e9⟩ := q1
  subst G2
  refine cj_st (st' := [.int ((4 : Int32) * x + 2), .ref m]) rfl ?_
  refine cj_put flX2_19 dX2_perform_272 k_m rfl rfl (Nat.le_of_ble_eq_true rfl) ?_
  refine cj_nm (fun G3 e4 => ?_)
  have k5 : G3 m = some (.inr (2, [.ref pg, .ref o, .ref sk, .int (nI ht), .int ((4 : Int32) * x + 2), .int env, .int at9, .int hl, .int rs])) := by rw [e4]; exact cj_up_s
  have k6 : G3 sk = some (.inl (0, 40, .inl sf)) := by rw [e4, cj_up_n (cj_nao k_sk k_m)]; exact k_sk
  have k7 : G3 o = some (.inr (1, [.ref a, .ref b, .ref c, .int (nI t), .int cp9, .int tn9])) := by rw [e4, cj_up_n (cj_noo k_o k_m (by decide))]; exact k_o
  have k8 : G3 a = some (.inl (0, N, .inl f)) := by rw [e4, cj_up_n (cj_nao k_a k_m)]; exact k_a
  have k9 : G3 pg = some (.inr (0, [.ref pa, .int (nI ln)])) := by rw [e4, cj_up_n (cj_noo k_pg k_m (by decide))]; exact k_pg
  have k10 : G3 pa = some (.inl (0, 360, .inl pf)) := by rw [e4, cj_up_n (cj_nao k_pa k_m)]; exact k_pa
  have r11 : cj_fr [m, sk, o, a] G G3 := by rw [e4]; exact cj_fr.up (cj_fr.rf (S := [m, sk, o, a]) (G := G)) (by simp)
  refine cj_goto (tgt := 308) dX2_perform_275 (by decide) ?_
  refine cj_pc (pc' := 308) rfl ?_
  refine cj_aload_n dX2_perform_308 rfl ?_
  refine cj_iload_n dX2_perform_309 rfl ?_
  refine cj_put flX2_25 dX2_perform_310 k5 rfl rfl (Nat.le_of_ble_eq_true rfl) ?_
  refine cj_nm (fun G12 e13 => ?_)
  have k14 : G12 m = some (.inr (2, [.ref pg, .ref o, .ref sk, .int (nI ht), .int ((4 : Int32) * x + 2), .int env, .int (at9 + 1), .int hl, .int rs])) := by rw [e13]; exact cj_up_s
  have k15 : G12 sk = some (.inl (0, 40, .inl sf)) := by rw [e13, cj_up_n (cj_nao k6 k5)]; exact k6
  have k16 : G12 o = some (.inr (1, [.ref a, .ref b, .ref c, .int (nI t), .int cp9, .int tn9])) := by rw [e13, cj_up_n (cj_noo k7 k5 (by decide))]; exact k7
  have k17 : G12 a = some (.inl (0, N, .inl f)) := by rw [e13, cj_up_n (cj_nao k8 k5)]; exact k8
  have k18 : G12 pg = some (.inr (0, [.ref pa, .int (nI ln)])) := by rw [e13, cj_up_n (cj_noo k9 k5 (by decide))]; exact k9
  have k19 : G12 pa = some (.inl (0, 360, .inl pf)) := by rw [e13, cj_up_n (cj_nao k10 k5)]; exact k10
  have r20 : cj_fr [m, sk, o, a] G G12 := by rw [e13]; exact cj_fr.up r11 (by simp)
  refine cj_vret rfl dX2_perform_313 ?_
  exact ⟨rfl, k14, k15, k16, k17, r20⟩
set_option maxHeartbeats 4000000 in
set_option maxRecDepth 100000 in
theorem t_perform_17 {G : cj_G} {m pg pa o sk ht ln a b c N t q : Nat} {f sf pf : Nat → Int32} {x acc env at9 hl rs cp9 tn9 : Int32} (k_m : G m = some (.inr (2, [.ref pg, .ref o, .ref sk, .int (nI ht), .int acc, .int env, .int at9, .int hl, .int rs]))) (k_sk : G sk = some (.inl (0, 40, .inl sf))) (k_o : G o = some (.inr (1, [.ref a, .ref b, .ref c, .int (nI t), .int cp9, .int tn9]))) (k_a : G a = some (.inl (0, N, .inl f))) (hN : N ≤ 200) (k_pg : G pg = some (.inr (0, [.ref pa, .int (nI ln)]))) (k_pa : G pa = some (.inl (0, 360, .inl pf))) (hln : ln ≤ 120) (n_sk_a : sk ≠ a) (n_pa_a : pa ≠ a) (n_pa_sk : pa ≠ sk) (hht : ht ≤ 40) (ht9 : t ≤ N) (hq : q < 1000) (hqq : q ≤ ht) (htag : x &&& 3 = nI (q + 1)) (hroom : t + q + 2 ≤ N) : cj_T mX2_perform 6 0 0 [.ref m, .int 17, .int x] G (fun v G' => v = none ∧ G' m = some (.inr (2, [.ref pg, .ref o, .ref sk, .int (nI (ht - q)), .int (4 * nI t), .int env, .int (at9 + 1), .int hl, .int rs])) ∧ G' sk = some (.inl (0, 40, .inl sf)) ∧ G' o = some (.inr (1, [.ref a, .ref b, .ref c, .int (nI (t + 1 + q + 1)), .int cp9, .int tn9])) ∧ G' a = some (.inl (0, N, .inl (mc_mk f t sf ht q x acc))) ∧ cj_fr [m, sk, o, a] G G') (cj_no) := by
  refine cj_T_of (by decide) (Nat.le_of_ble_eq_true rfl) ?_
  refine cj_lvs (lv' := [(0, .ref m), (1, .int 17), (2, .int x)]) rfl ?_
  refine cj_aload_n dX2_perform_0 rfl ?_
  refine cj_get flX2_25 dX2_perform_1 k_m rfl ?_
  refine cj_iconst (v := 1) dX2_perform_4 (by decide) ?_
  refine cj_iadd dX2_perform_5 ?_
  refine cj_pc (pc' := 6) rfl ?_
  refine cj_istore_n (lv' := [(3, .int (at9 + 1)), (0, .ref m), (1, .int 17), (2, .int x)]) dX2_perform_6 (by decide) rfl ?_
  refine cj_iload_n dX2_perform_7 rfl ?_
  refine cj_tableIn (off := 270) (tgt := 278) dX2_perform_8 (by decide +kernel) (by decide +kernel) (by decide +kernel) (by decide +kernel) ?_
  refine cj_aload_n dX2_perform_278 rfl ?_
  refine cj_pc (pc' := 279) rfl ?_
  refine cj_iload_n dX2_perform_279 rfl ?_
  refine cj_callV (M' := mX2_make) (d' := 2) (k' := 0) (n' := 0) (index := 154) (np := 1) (As := [.int x]) (rest := []) dX2_perform_280 lkX2_154 mwX2_make (t_make k_m k_sk k_o k_a hN n_sk_a hht hqq htag hroom) (by omega) rfl rfl (Nat.le_of_ble_eq_true rfl) k_m rfl (fun v9 G2 q1 => ?_) (fun _ _ h => absurd h id)
  obtain ⟨rfl, k3, k4, k5, r6⟩ := q1
  have k7 : G2 sk = some (.inl (0, 40, .inl sf)) := r6 _ _ (cj_ni3 (cj_nao k_sk k_m) (cj_nao k_sk k_o) n_sk_a) k_sk
  have k8 : G2 pg = some (.inr (0, [.ref pa, .int (nI ln)])) := r6 _ _ (cj_ni3 (cj_noo k_pg k_m (by decide)) (cj_noo k_pg k_o (by decide)) (cj_noa k_pg k_a)) k_pg
  have k9 : G2 pa = some (.inl (0, 360, .inl pf)) := r6 _ _ (cj_ni3 (cj_nao k_pa k_m) (cj_nao k_pa k_o) n_pa_a) k_pa
  have r10 : cj_fr [m, sk, o, a] G G2 := cj_fr.trans (cj_fr.rf (S := [m, sk, o, a]) (G := G)) (cj_fr.mono r6 (by simp))
  refine cj_st (st' := []) rfl ?_
  refine cj_goto (tgt := 308) dX2_perform_283 (by decide) ?_
  refine cj_aload_n dX2_perform_308 rfl ?_
  refine cj_pc (pc' := 309) rfl ?_
  refine cj_iload_n dX2_perform_309 rfl ?_
  refine cj_put flX2_25 dX2_perform_310 k3 rfl rfl (Nat.le_of_ble_eq_true rfl) ?_
  refine cj_nm (fun G11 e12 => ?_)
  have k13 : G11 m = some (.inr (2, [.ref pg, .ref o, .ref sk, .int (nI (ht - q)), .int (4 * nI t), .int env, .int (at9 + 1), .int hl, .int rs])) := by rw [e12]; exact cj_up_s
  have k14 : G11 sk = some (.inl (0, 40, .inl sf)) := by rw [e12, cj_up_n (cj_nao k7 k3)]; exact k7
  have k15 : G11 o = some (.inr (1, [.ref a, .ref b, .ref c, .int (nI (t + 1 + q + 1)), .int cp9, .int tn9])) := by rw [e12, cj_up_n (cj_noo k4 k3 (by decide))]; exact k4
  have k16 : G11 a = some (.inl (0, N, .inl (mc_mk f t sf ht q x acc))) := by rw [e12, cj_up_n (cj_nao k5 k3)]; exact k5
  have k17 : G11 pg = some (.inr (0, [.ref pa, .int (nI ln)])) := by rw [e12, cj_up_n (cj_noo k8 k3 (by decide))]; exact k8
  have k18 : G11 pa = some (.inl (0, 360, .inl pf)) := by rw [e12, cj_up_n (cj_nao k9 k3)]; exact k9
  have r19 : cj_fr [m, sk, o, a] G G11 := by rw [e12]; exact cj_fr.up r10 (by simp)
  refine cj_vret rfl dX2_perform_313 ?_
  exact ⟨rfl, k13, k14, k15, k16, r19⟩
set_option maxHeartbeats 4000000 in
set_option maxRecDepth 100000 in
theorem t_perform_18 {G : cj_G} {m pg pa o sk ht ln a b c N t q : Nat} {f sf pf : Nat → Int32} {x acc env at9 hl rs cp9 tn9 : Int32} (k_m : G m = some (.inr (2, [.ref pg, .ref o, .ref sk, .int (nI ht), .int acc, .int env, .int at9, .int hl, .int rs]))) (k_sk : G sk = some (.inl (0, 40, .inl sf))) (k_o : G o = some (.inr (1, [.ref a, .ref b, .ref c, .int (nI t), .int cp9, .int tn9]))) (k_a : G a = some (.inl (0, N, .inl f))) (hN : N ≤ 200) (k_pg : G pg = some (.inr (0, [.ref pa, .int (nI ln)]))) (k_pa : G pa = some (.inl (0, 360, .inl pf))) (hln : ln ≤ 120) (n_sk_a : sk ≠ a) (n_pa_a : pa ≠ a) (n_pa_sk : pa ≠ sk) (hht : ht ≤ 40) (ht9 : t ≤ N) (hq : q < 1000) : cj_T mX2_perform 6 0 0 [.ref m, .int 18, .int (nI q)] G (fun v G' => v = none ∧ G' m = some (.inr (2, [.ref pg, .ref o, .ref sk, .int (nI ht), .int acc, .int env, .int (mc_pc pf ln at9 (hp_co f (nI t) acc) q 1), .int hl, .int rs])) ∧ G' sk = some (.inl (0, 40, .inl sf)) ∧ G' o = some (.inr (1, [.ref a, .ref b, .ref c, .int (nI t), .int cp9, .int tn9])) ∧ G' a = some (.inl (0, N, .inl f)) ∧ cj_fr [m, sk, o, a] G G') (cj_no) := by
  refine cj_T_of (by decide) (Nat.le_of_ble_eq_true rfl) ?_
  refine cj_lvs (lv' := [(0, .ref m), (1, .int 18), (2, .int (nI q))]) rfl ?_
  refine cj_aload_n dX2_perform_0 rfl ?_
  refine cj_get flX2_25 dX2_perform_1 k_m rfl ?_
  refine cj_iconst (v := 1) dX2_perform_4 (by decide) ?_
  refine cj_iadd dX2_perform_5 ?_
  refine cj_pc (pc' := 6) rfl ?_
  refine cj_istore_n (lv' := [(3, .int (at9 + 1)), (0, .ref m), (1, .int 18), (2, .int (nI q))]) dX2_perform_6 (by decide) rfl ?_
  refine cj_iload_n dX2_perform_7 rfl ?_
  refine cj_tableIn (off := 278) (tgt := 286) dX2_perform_8 (by decide +kernel) (by decide +kernel) (by decide +kernel) (by decide +kernel) ?_
  refine cj_aload_n dX2_perform_286 rfl ?_
  refine cj_pc (pc' := 287) rfl ?_
  refine cj_iload_n dX2_perform_287 rfl ?_
  refine cj_callV (M' := mX2_placeOfCase) (d' := 3) (k' := 0) (n' := 0) (index := 89) (np := 1) (As := [.int (nI q)]) (rest := []) dX2_perform_288 lkX2_89 mwX2_placeOfCase (t_placeOfCase k_m k_o k_a hN ht9 k_pg k_pa hln (by omega)) (by omega) rfl rfl (Nat.le_of_ble_eq_true rfl) k_m rfl (fun v9 G2 q1 => ?_) (fun _ _ h => absurd h id)
  obtain ⟨rfl, e9⟩ := q1
  subst G2
  refine cj_st (st' := [.int (mc_pc pf ln at9 (hp_co f (nI t) acc) q 1)]) rfl ?_
  refine cj_istore_n (lv' := [(3, .int (mc_pc pf ln at9 (hp_co f (nI t) acc) q 1)), (0, .ref m), (1, .int 18), (2, .int (nI q))]) dX2_perform_291 (by decide) rfl ?_
  refine cj_goto (tgt := 308) dX2_perform_292 (by decide) ?_
  refine cj_pc (pc' := 308) rfl ?_
  refine cj_aload_n dX2_perform_308 rfl ?_
  refine cj_iload_n dX2_perform_309 rfl ?_
  refine cj_put flX2_25 dX2_perform_310 k_m rfl rfl (Nat.le_of_ble_eq_true rfl) ?_
  refine cj_nm (fun G3 e4 => ?_)
  have k5 : G3 m = some (.inr (2, [.ref pg, .ref o, .ref sk, .int (nI ht), .int acc, .int env, .int (mc_pc pf ln at9 (hp_co f (nI t) acc) q 1), .int hl, .int rs])) := by rw [e4]; exact cj_up_s
  have k6 : G3 sk = some (.inl (0, 40, .inl sf)) := by rw [e4, cj_up_n (cj_nao k_sk k_m)]; exact k_sk
  have k7 : G3 o = some (.inr (1, [.ref a, .ref b, .ref c, .int (nI t), .int cp9, .int tn9])) := by rw [e4, cj_up_n (cj_noo k_o k_m (by decide))]; exact k_o
  have k8 : G3 a = some (.inl (0, N, .inl f)) := by rw [e4, cj_up_n (cj_nao k_a k_m)]; exact k_a
  have k9 : G3 pg = some (.inr (0, [.ref pa, .int (nI ln)])) := by rw [e4, cj_up_n (cj_noo k_pg k_m (by decide))]; exact k_pg
  have k10 : G3 pa = some (.inl (0, 360, .inl pf)) := by rw [e4, cj_up_n (cj_nao k_pa k_m)]; exact k_pa
  have r11 : cj_fr [m, sk, o, a] G G3 := by rw [e4]; exact cj_fr.up (cj_fr.rf (S := [m, sk, o, a]) (G := G)) (by simp)
  refine cj_vret rfl dX2_perform_313 ?_
  exact ⟨rfl, k5, k6, k7, k8, r11⟩
set_option maxHeartbeats 4000000 in
set_option maxRecDepth 100000 in
theorem t_perform_20 {G : cj_G} {m pg pa o sk ht ln a b c N t q : Nat} {f sf pf : Nat → Int32} {x acc env at9 hl rs cp9 tn9 : Int32} (k_m : G m = some (.inr (2, [.ref pg, .ref o, .ref sk, .int (nI ht), .int acc, .int env, .int at9, .int hl, .int rs]))) (k_sk : G sk = some (.inl (0, 40, .inl sf))) (k_o : G o = some (.inr (1, [.ref a, .ref b, .ref c, .int (nI t), .int cp9, .int tn9]))) (k_a : G a = some (.inl (0, N, .inl f))) (hN : N ≤ 200) (k_pg : G pg = some (.inr (0, [.ref pa, .int (nI ln)]))) (k_pa : G pa = some (.inl (0, 360, .inl pf))) (hln : ln ≤ 120) (n_sk_a : sk ≠ a) (n_pa_a : pa ≠ a) (n_pa_sk : pa ≠ sk) (hht : ht ≤ 40) (ht9 : t ≤ N) (hq : q < 1000) (hroom : t + 3 * q ≤ N) : cj_T mX2_perform 6 0 0 [.ref m, .int 20, .int (nI q)] G (fun v G' => v = none ∧ G' m = some (.inr (2, [.ref pg, .ref o, .ref sk, .int (nI ht), .int acc, .int (mc_open acc q 1 f t env).2.2, .int (at9 + 1), .int hl, .int rs])) ∧ G' sk = some (.inl (0, 40, .inl sf)) ∧ G' o = some (.inr (1, [.ref a, .ref b, .ref c, .int (nI (mc_open acc q 1 f t env).2.1), .int cp9, .int tn9])) ∧ G' a = some (.inl (0, N, .inl (mc_open acc q 1 f t env).1)) ∧ cj_fr [m, sk, o, a] G G') (cj_no) := by
  refine cj_T_of (by decide) (Nat.le_of_ble_eq_true rfl) ?_
  refine cj_lvs (lv' := [(0, .ref m), (1, .int 20), (2, .int (nI q))]) rfl ?_
  refine cj_aload_n dX2_perform_0 rfl ?_
  refine cj_get flX2_25 dX2_perform_1 k_m rfl ?_
  refine cj_iconst (v := 1) dX2_perform_4 (by decide) ?_
  refine cj_iadd dX2_perform_5 ?_
  refine cj_pc (pc' := 6) rfl ?_
  refine cj_istore_n (lv' := [(3, .int (at9 + 1)), (0, .ref m), (1, .int 20), (2, .int (nI q))]) dX2_perform_6 (by decide) rfl ?_
  refine cj_iload_n dX2_perform_7 rfl ?_
  refine cj_tableIn (off := 287) (tgt := 295) dX2_perform_8 (by decide +kernel) (by decide +kernel) (by decide +kernel) (by decide +kernel) ?_
  refine cj_aload_n dX2_perform_295 rfl ?_
  refine cj_pc (pc' := 296) rfl ?_
  refine cj_iload_n dX2_perform_296 rfl ?_
  refine cj_callV (M' := mX2_open) (d' := 4) (k' := 0) (n' := 0) (index := 157) (np := 1) (As := [.int (nI q)]) (rest := []) dX2_perform_297 lkX2_157 mwX2_open (t_open k_m k_o k_a hN hq hroom) (by omega) rfl rfl (Nat.le_of_ble_eq_true rfl) k_m rfl (fun v9 G2 q1 => ?_) (fun _ _ h => absurd h id)
  obtain ⟨rfl, k3, k4, k5, r6⟩ := q1
  have k7 : G2 sk = some (.inl (0, 40, .inl sf)) := r6 _ _ (cj_ni3 (cj_nao k_sk k_m) (cj_nao k_sk k_o) n_sk_a) k_sk
  have k8 : G2 pg = some (.inr (0, [.ref pa, .int (nI ln)])) := r6 _ _ (cj_ni3 (cj_noo k_pg k_m (by decide)) (cj_noo k_pg k_o (by decide)) (cj_noa k_pg k_a)) k_pg
  have k9 : G2 pa = some (.inl (0, 360, .inl pf)) := r6 _ _ (cj_ni3 (cj_nao k_pa k_m) (cj_nao k_pa k_o) n_pa_a) k_pa
  have r10 : cj_fr [m, sk, o, a] G G2 := cj_fr.trans (cj_fr.rf (S := [m, sk, o, a]) (G := G)) (cj_fr.mono r6 (by simp))
  refine cj_st (st' := []) rfl ?_
  refine cj_goto (tgt := 308) dX2_perform_300 (by decide) ?_
  refine cj_aload_n dX2_perform_308 rfl ?_
  refine cj_pc (pc' := 309) rfl ?_
  refine cj_iload_n dX2_perform_309 rfl ?_
  refine cj_put flX2_25 dX2_perform_310 k3 rfl rfl (Nat.le_of_ble_eq_true rfl) ?_
  refine cj_nm (fun G11 e12 => ?_)
  have k13 : G11 m = some (.inr (2, [.ref pg, .ref o, .ref sk, .int (nI ht), .int acc, .int (mc_open acc q 1 f t env).2.2, .int (at9 + 1), .int hl, .int rs])) := by rw [e12]; exact cj_up_s
  have k14 : G11 sk = some (.inl (0, 40, .inl sf)) := by rw [e12, cj_up_n (cj_nao k7 k3)]; exact k7
  have k15 : G11 o = some (.inr (1, [.ref a, .ref b, .ref c, .int (nI (mc_open acc q 1 f t env).2.1), .int cp9, .int tn9])) := by rw [e12, cj_up_n (cj_noo k4 k3 (by decide))]; exact k4
  have k16 : G11 a = some (.inl (0, N, .inl (mc_open acc q 1 f t env).1)) := by rw [e12, cj_up_n (cj_nao k5 k3)]; exact k5
  have k17 : G11 pg = some (.inr (0, [.ref pa, .int (nI ln)])) := by rw [e12, cj_up_n (cj_noo k8 k3 (by decide))]; exact k8
  have k18 : G11 pa = some (.inl (0, 360, .inl pf)) := by rw [e12, cj_up_n (cj_nao k9 k3)]; exact k9
  have r19 : cj_fr [m, sk, o, a] G G11 := by rw [e12]; exact cj_fr.up r10 (by simp)
  refine cj_vret rfl dX2_perform_313 ?_
  exact ⟨rfl, k13, k14, k15, k16, r19⟩
