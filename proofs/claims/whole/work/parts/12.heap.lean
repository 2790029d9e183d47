/-! ClosureHeap$Heap: reads that rest on reads, and what writes -/
theorem cj_ax {M : cj_M} {d k0 n0 k n pc : Nat} {Qr : Option Value → cj_G → Prop} {Qx : String → cj_G → Prop} {lv : List (Nat × Value)} {st : List Value} {G : cj_G} {a t N : Nat} {f g : Nat → Int32} (hG : G a = some (.inl (t, N, .inl f))) (h : ∀ j, j < N → f j = g j) (kk : cj_J M d k0 n0 Qr Qx k n pc lv st (cj_up G a (.inl (t, N, .inl g)))) : cj_J M d k0 n0 Qr Qx k n pc lv st G := by
  intro p l e s m args below meth c D tys A H locs c0 s0 ls C W0 S hc hn hl
  obtain ⟨ws, hP, hD, hI⟩ := W0
  obtain ⟨q, hq⟩ := hI.1 a _ hG
  have he : vp_cell (cj_cd tys t) (N, .inl f) = vp_cell (cj_cd tys t) (N, .inl g) := by
    simp only [vp_cell, arrV]
    congr 1
    apply Array.ext
    · simp
    · intro i h1 h2
      simp at h1
      simp [h i h1]
  have hset := hI.set (x := .inl (t, N, .inl g)) hD hq
  refine kk p l e s m args below meth c D tys A H locs c0 s0 ls C ⟨ws.set q (a, cj_tr tys (.inl (t, N, .inl g))), ?_, hD.set hq, hset⟩ S hc hn hl
  refine hP.set hD hq ?_ (fun _ _ => rfl)
  have h1 : H[a]? = some (vp_cell (cj_cd tys t) (N, .inl f)) := hP q _ hq
  show H[a]? = some (vp_cell (cj_cd tys t) (N, .inl g))
  rw [h1, he]
theorem ix_small (x : Int32) : (x >>> ((4 : Int32) &&& 31)).toInt < 134217728 := by
  have e : (x >>> ((4 : Int32) &&& 31)).toInt = x.toInt >>> 4 := pk_shr x _ 4 (by decide)
  rw [e, Int.shiftRight_eq_div_pow]
  have h := Int32.toInt_lt x
  omega
def hp_wo (f : Nat → Int32) (t p k : Int32) : Int32 := if hp_isp t p = true ∧ (¬ k < 1) ∧ (k ≤ hp_bw f t p) ∧ ¬ t ≤ p >>> (2 &&& 31) + k then f (p >>> (2 &&& 31) + k).toNatClampNeg else -4
theorem hp_in2 {f : Nat → Int32} {t p k : Int32} {N : Nat} (h1 : hp_isp t p = true) (h2 : ¬ k < 1) (h3 : k ≤ hp_bw f t p) (h4 : ¬ t ≤ p >>> (2 &&& 31) + k) (ht : t.toInt ≤ N) (hN : N ≤ 200) : vp_in (p >>> (2 &&& 31) + k) N := by
  have g1 := vp_in_iff.mp (hp_in h1 ht)
  have g2 : (1 : Int) ≤ k.toInt := by
    have := Int32.not_lt.mp h2
    simpa using Int32.le_iff_toInt_le.mp this
  have g3 : k.toInt < 134217728 := by
    have h5 := Int32.le_iff_toInt_le.mp h3
    unfold hp_bw at h5
    rw [if_pos h1] at h5
    have h6 := ix_small (f (p >>> ((2 : Int32) &&& 31)).toNatClampNeg)
    omega
  have g4 : (p >>> (2 &&& 31) + k).toInt = (p >>> ((2 : Int32) &&& 31)).toInt + k.toInt := by
    rw [Int32.toInt_add]
    apply Int.bmod_eq_of_le <;> omega
  have g5 : (p >>> (2 &&& 31) + k).toInt < t.toInt := by
    have := Int32.not_le.mp h4
    exact Int32.lt_iff_toInt_lt.mp this
  rw [vp_in_iff]
  omega
def hp_fn (f : Nat → Int32) (t w : Int32) : Prop := hp_bk f t w = 8 ∨ hp_bk f t w = 9
theorem hp_fn_dec (f : Nat → Int32) (t w : Int32) : Nonempty (Decidable (hp_fn f t w)) := ⟨by unfold hp_fn; exact inferInstance⟩
def hp_fnb (f : Nat → Int32) (t w : Int32) : Bool := decide (hp_bk f t w = 8) || decide (hp_bk f t w = 9)
def hp_co (f : Nat → Int32) (t w : Int32) : Int32 := if w &&& 3 = 2 then w >>> (2 &&& 31) else if hp_bk f t w < 8 then hp_bk f t w else -1
def hp_so (f : Nat → Int32) (t w : Int32) : Int32 := if w &&& 1 = 1 then 1 else if ¬ hp_co f t w = -1 then 2 else if hp_fnb f t w = true then 3 else 0
def hp_me (f : Nat → Int32) (t w : Int32) : Int32 := if hp_so f t w = 1 then w >>> (1 &&& 31) else if hp_so f t w = 2 then hp_co f t w else if hp_so f t w = 3 then hp_wo f t w 1 >>> (1 &&& 31) else 0
theorem hp_so4 (f : Nat → Int32) (t w : Int32) : hp_so f t w = 0 ∨ hp_so f t w = 1 ∨ hp_so f t w = 2 ∨ hp_so f t w = 3 := by
  unfold hp_so
  by_cases h1 : w &&& 1 = 1
  · simp [h1]
  · by_cases h2 : hp_co f t w = -1
    · by_cases h3 : hp_fnb f t w = true
      · simp [h1, h2, h3]
      · simp [h1, h2, h3]
    · simp [h1, h2]
set_option maxHeartbeats 4000000 in
set_option maxRecDepth 100000 in
theorem t_wordOf {G : cj_G} {o a b c N : Nat} {f : Nat → Int32} {t cp tn w x : Int32} (k_o : G o = some (.inr (1, [.ref a, .ref b, .ref c, .int t, .int cp, .int tn]))) (k_a : G a = some (.inl (0, N, .inl f))) (ht : t.toInt ≤ N) (hN : N ≤ 200) : cj_T mX1_wordOf 2 0 0 [.ref o, .int w, .int x] G (cj_rd G (hp_wo f t w x)) (cj_no) := by
  refine cj_T_of (by decide) (Nat.le_of_ble_eq_true rfl) ?_
  refine cj_lvs (lv' := [(0, .ref o), (1, .int w), (2, .int x)]) rfl ?_
  refine cj_aload_n dX1_wordOf_0 rfl ?_
  refine cj_iload_n dX1_wordOf_1 rfl ?_
  refine cj_callV (As := [.int w]) (rest := []) dX1_wordOf_2 lkX1_39 mwX1_isPointer (t_isPointer k_o) (by omega) rfl rfl (Nat.le_of_ble_eq_true rfl) k_o rfl (fun v9 G9 q1 => ?_) (fun _ _ h => absurd h id)
  obtain ⟨rfl, rfl⟩ := q1
  refine cj_st (st' := [.int (ch_b (hp_isp t w = true))]) rfl ?_
  refine cj_if_eq (tgt := 22) dX1_wordOf_5 (by decide) (fun h2 => ?_) (fun h2 => ?_)
  · refine cj_bipush (v := (-4)) dX1_wordOf_22 (by decide) ?_
    refine cj_iret rfl dX1_wordOf_24 ?_
    refine ⟨congrArg (fun z => some (Value.int z)) ?_, rfl⟩
    first | (simp_all [ch_b0, hp_wo]; done) | (simp_all [ch_b0, hp_wo]; intros; exfalso; simp only [Int32.lt_iff_toInt_lt, Int32.le_iff_toInt_le] at *; omega)
  · refine cj_iload_n dX1_wordOf_8 rfl ?_
    refine cj_iconst (v := 1) dX1_wordOf_9 (by decide) ?_
    refine cj_icmp_lt (tgt := 22) dX1_wordOf_10 (by decide) (fun h3 => ?_) (fun h3 => ?_)
    · refine cj_bipush (v := (-4)) dX1_wordOf_22 (by decide) ?_
      refine cj_iret rfl dX1_wordOf_24 ?_
      refine ⟨congrArg (fun z => some (Value.int z)) ?_, rfl⟩
      first | (simp_all [ch_b0, hp_wo]; done) | (simp_all [ch_b0, hp_wo]; intros; exfalso; simp only [Int32.lt_iff_toInt_lt, Int32.le_iff_toInt_le] at *; omega)
    · refine cj_iload_n dX1_wordOf_13 rfl ?_
      refine cj_aload_n dX1_wordOf_14 rfl ?_
      refine cj_iload_n dX1_wordOf_15 rfl ?_
      refine cj_callV (As := [.int w]) (rest := [.int x]) dX1_wordOf_16 lkX1_43 mwX1_blockWords (t_blockWords k_o k_a ht) (by omega) rfl rfl (Nat.le_of_ble_eq_true rfl) k_o rfl (fun v9 G9 q4 => ?_) (fun _ _ h => absurd h id)
      obtain ⟨rfl, rfl⟩ := q4
      refine cj_st (st' := [.int (hp_bw f t w), .int x]) rfl ?_
      refine cj_icmp_le (tgt := 25) dX1_wordOf_19 (by decide) (fun h5 => ?_) (fun h5 => ?_)
      · refine cj_iload_n dX1_wordOf_25 rfl ?_
        refine cj_iconst (v := 2) dX1_wordOf_26 (by decide) ?_
        refine cj_ishr dX1_wordOf_27 ?_
        refine cj_iload_n dX1_wordOf_28 rfl ?_
        refine cj_iadd dX1_wordOf_29 ?_
        refine cj_istore_n (lv' := [(3, .int ((w >>> (2 &&& 31)) + x)), (0, .ref o), (1, .int w), (2, .int x)]) dX1_wordOf_30 (by decide) rfl ?_
        refine cj_iload_n dX1_wordOf_31 rfl ?_
        refine cj_aload_n dX1_wordOf_32 rfl ?_
        refine cj_get flX1_9 dX1_wordOf_33 k_o rfl ?_
        refine cj_icmp_ge (tgt := 48) dX1_wordOf_36 (by decide) (fun h6 => ?_) (fun h6 => ?_)
        · refine cj_bipush (v := (-4)) dX1_wordOf_48 (by decide) ?_
          refine cj_iret rfl dX1_wordOf_50 ?_
          refine ⟨congrArg (fun z => some (Value.int z)) ?_, rfl⟩
          first | (simp_all [ch_b0, hp_wo]; done) | (simp_all [ch_b0, hp_wo]; intros; exfalso; simp only [Int32.lt_iff_toInt_lt, Int32.le_iff_toInt_le] at *; omega)
        · refine cj_aload_n dX1_wordOf_39 rfl ?_
          refine cj_get flX1_21 dX1_wordOf_40 k_o rfl ?_
          refine cj_iload_n dX1_wordOf_43 rfl ?_
          have i7 : vp_in ((w >>> (2 &&& 31)) + x) N := by
            simp only [ch_b0, Classical.not_not] at *
            exact hp_in2 (by assumption) (by assumption) (by assumption) (by assumption) ht hN
          refine cj_iald dX1_wordOf_44 k_a i7 ?_
          refine cj_goto (tgt := 50) dX1_wordOf_45 (by decide) ?_
          refine cj_iret rfl dX1_wordOf_50 ?_
          refine ⟨congrArg (fun z => some (Value.int z)) ?_, rfl⟩
          first | (simp_all [ch_b0, hp_wo]; done) | (simp_all [ch_b0, hp_wo]; intros; exfalso; simp only [Int32.lt_iff_toInt_lt, Int32.le_iff_toInt_le] at *; omega)
      · refine cj_bipush (v := (-4)) dX1_wordOf_22 (by decide) ?_
        refine cj_iret rfl dX1_wordOf_24 ?_
        refine ⟨congrArg (fun z => some (Value.int z)) ?_, rfl⟩
        first | (simp_all [ch_b0, hp_wo]; done) | (simp_all [ch_b0, hp_wo]; intros; exfalso; simp only [Int32.lt_iff_toInt_lt, Int32.le_iff_toInt_le] at *; omega)
set_option maxHeartbeats 4000000 in
set_option maxRecDepth 100000 in
theorem t_isFunction {G : cj_G} {o a b c N : Nat} {f : Nat → Int32} {t cp tn w : Int32} (k_o : G o = some (.inr (1, [.ref a, .ref b, .ref c, .int t, .int cp, .int tn]))) (k_a : G a = some (.inl (0, N, .inl f))) (ht : t.toInt ≤ N) : cj_T mX1_isFunction 2 0 0 [.ref o, .int w] G (cj_rd G (ch_b (hp_fnb f t w = true))) (cj_no) := by
  refine cj_T_of (by decide) (Nat.le_of_ble_eq_true rfl) ?_
  refine cj_lvs (lv' := [(0, .ref o), (1, .int w)]) rfl ?_
  refine cj_aload_n dX1_isFunction_0 rfl ?_
  refine cj_iload_n dX1_isFunction_1 rfl ?_
  refine cj_callV (As := [.int w]) (rest := []) dX1_isFunction_2 lkX1_47 mwX1_blockKind (t_blockKind k_o k_a ht) (by omega) rfl rfl (Nat.le_of_ble_eq_true rfl) k_o rfl (fun v9 G9 q1 => ?_) (fun _ _ h => absurd h id)
  obtain ⟨rfl, rfl⟩ := q1
  refine cj_st (st' := [.int (hp_bk f t w)]) rfl ?_
  refine cj_istore_n (lv' := [(2, .int (hp_bk f t w)), (0, .ref o), (1, .int w)]) dX1_isFunction_5 (by decide) rfl ?_
  refine cj_iload_n dX1_isFunction_6 rfl ?_
  refine cj_bipush (v := 8) dX1_isFunction_7 (by decide) ?_
  refine cj_icmp_eq (tgt := 18) dX1_isFunction_9 (by decide) (fun h2 => ?_) (fun h2 => ?_)
  · refine cj_iconst (v := 1) dX1_isFunction_18 (by decide) ?_
    refine cj_goto (tgt := 23) dX1_isFunction_19 (by decide) ?_
    refine cj_zret rfl rfl dX1_isFunction_23 ?_
    refine ⟨congrArg (fun z => some (Value.int z)) ?_, rfl⟩
    first | (simp_all [ch_b0, hp_fnb, ch_b]; done) | (simp_all [ch_b0, hp_fnb, ch_b]; intros; exfalso; simp only [Int32.lt_iff_toInt_lt, Int32.le_iff_toInt_le] at *; omega)
  · refine cj_iload_n dX1_isFunction_12 rfl ?_
    refine cj_bipush (v := 9) dX1_isFunction_13 (by decide) ?_
    refine cj_icmp_ne (tgt := 22) dX1_isFunction_15 (by decide) (fun h3 => ?_) (fun h3 => ?_)
    · refine cj_iconst (v := 0) dX1_isFunction_22 (by decide) ?_
      refine cj_zret rfl rfl dX1_isFunction_23 ?_
      refine ⟨congrArg (fun z => some (Value.int z)) ?_, rfl⟩
      first | (simp_all [ch_b0, hp_fnb, ch_b]; done) | (simp_all [ch_b0, hp_fnb, ch_b]; intros; exfalso; simp only [Int32.lt_iff_toInt_lt, Int32.le_iff_toInt_le] at *; omega)
    · refine cj_iconst (v := 1) dX1_isFunction_18 (by decide) ?_
      refine cj_goto (tgt := 23) dX1_isFunction_19 (by decide) ?_
      refine cj_zret rfl rfl dX1_isFunction_23 ?_
      refine ⟨congrArg (fun z => some (Value.int z)) ?_, rfl⟩
      first | (simp_all [ch_b0, hp_fnb, ch_b]; done) | (simp_all [ch_b0, hp_fnb, ch_b]; intros; exfalso; simp only [Int32.lt_iff_toInt_lt, Int32.le_iff_toInt_le] at *; omega)
set_option maxHeartbeats 4000000 in
set_option maxRecDepth 100000 in
theorem t_constructorOf {G : cj_G} {o a b c N : Nat} {f : Nat → Int32} {t cp tn w : Int32} (k_o : G o = some (.inr (1, [.ref a, .ref b, .ref c, .int t, .int cp, .int tn]))) (k_a : G a = some (.inl (0, N, .inl f))) (ht : t.toInt ≤ N) : cj_T mX1_constructorOf 2 0 0 [.ref o, .int w] G (cj_rd G (hp_co f t w)) (cj_no) := by
  refine cj_T_of (by decide) (Nat.le_of_ble_eq_true rfl) ?_
  refine cj_lvs (lv' := [(0, .ref o), (1, .int w)]) rfl ?_
  refine cj_iload_n dX1_constructorOf_0 rfl ?_
  refine cj_callSN (As := [.int w]) (rest := []) dX1_constructorOf_1 lkX1_50 mwX6_isTag (t_isTag) (by omega) rfl rfl (Nat.le_of_ble_eq_true rfl) (fun v9 G9 q1 => ?_)
  obtain ⟨rfl, rfl⟩ := q1
  refine cj_st (st' := [.int (ch_b (w &&& 3 = 2))]) rfl ?_
  refine cj_if_eq (tgt := 12) dX1_constructorOf_4 (by decide) (fun h2 => ?_) (fun h2 => ?_)
  · refine cj_aload_n dX1_constructorOf_12 rfl ?_
    refine cj_iload_n dX1_constructorOf_13 rfl ?_
    refine cj_callV (As := [.int w]) (rest := []) dX1_constructorOf_14 lkX1_47 mwX1_blockKind (t_blockKind k_o k_a ht) (by omega) rfl rfl (Nat.le_of_ble_eq_true rfl) k_o rfl (fun v9 G9 q3 => ?_) (fun _ _ h => absurd h id)
    obtain ⟨rfl, rfl⟩ := q3
    refine cj_st (st' := [.int (hp_bk f t w)]) rfl ?_
    refine cj_istore_n (lv' := [(2, .int (hp_bk f t w)), (0, .ref o), (1, .int w)]) dX1_constructorOf_17 (by decide) rfl ?_
    refine cj_iload_n dX1_constructorOf_18 rfl ?_
    refine cj_bipush (v := 8) dX1_constructorOf_19 (by decide) ?_
    refine cj_icmp_ge (tgt := 28) dX1_constructorOf_21 (by decide) (fun h4 => ?_) (fun h4 => ?_)
    · refine cj_iconst (v := (-1)) dX1_constructorOf_28 (by decide) ?_
      refine cj_iret rfl dX1_constructorOf_29 ?_
      refine ⟨congrArg (fun z => some (Value.int z)) ?_, rfl⟩
      first | (simp_all [ch_b0, hp_co]; done) | (simp_all [ch_b0, hp_co]; intros; exfalso; simp only [Int32.lt_iff_toInt_lt, Int32.le_iff_toInt_le] at *; omega)
    · refine cj_iload_n dX1_constructorOf_24 rfl ?_
      refine cj_goto (tgt := 29) dX1_constructorOf_25 (by decide) ?_
      refine cj_iret rfl dX1_constructorOf_29 ?_
      refine ⟨congrArg (fun z => some (Value.int z)) ?_, rfl⟩
      first | (simp_all [ch_b0, hp_co]; done) | (simp_all [ch_b0, hp_co]; intros; exfalso; simp only [Int32.lt_iff_toInt_lt, Int32.le_iff_toInt_le] at *; omega)
  · refine cj_iload_n dX1_constructorOf_7 rfl ?_
    refine cj_callSN (As := [.int w]) (rest := []) dX1_constructorOf_8 lkX1_53 mwX6_tagOf (t_tagOf) (by omega) rfl rfl (Nat.le_of_ble_eq_true rfl) (fun v9 G9 q5 => ?_)
    obtain ⟨rfl, rfl⟩ := q5
    refine cj_st (st' := [.int (w >>> (2 &&& 31))]) rfl ?_
    refine cj_iret rfl dX1_constructorOf_11 ?_
    refine ⟨congrArg (fun z => some (Value.int z)) ?_, rfl⟩
    first | (simp_all [ch_b0, hp_co]; done) | (simp_all [ch_b0, hp_co]; intros; exfalso; simp only [Int32.lt_iff_toInt_lt, Int32.le_iff_toInt_le] at *; omega)
set_option maxHeartbeats 4000000 in
set_option maxRecDepth 100000 in
theorem t_sort {G : cj_G} {o a b c N : Nat} {f : Nat → Int32} {t cp tn w : Int32} (k_o : G o = some (.inr (1, [.ref a, .ref b, .ref c, .int t, .int cp, .int tn]))) (k_a : G a = some (.inl (0, N, .inl f))) (ht : t.toInt ≤ N) : cj_T mX1_sort 3 0 0 [.ref o, .int w] G (cj_rd G (hp_so f t w)) (cj_no) := by
  refine cj_T_of (by decide) (Nat.le_of_ble_eq_true rfl) ?_
  refine cj_lvs (lv' := [(0, .ref o), (1, .int w)]) rfl ?_
  refine cj_iload_n dX1_sort_0 rfl ?_
  refine cj_callSN (As := [.int w]) (rest := []) dX1_sort_1 lkX1_56 mwX6_isInt (t_isInt) (by omega) rfl rfl (Nat.le_of_ble_eq_true rfl) (fun v9 G9 q1 => ?_)
  obtain ⟨rfl, rfl⟩ := q1
  refine cj_st (st' := [.int (ch_b (w &&& 1 = 1))]) rfl ?_
  refine cj_if_eq (tgt := 9) dX1_sort_4 (by decide) (fun h2 => ?_) (fun h2 => ?_)
  · refine cj_aload_n dX1_sort_9 rfl ?_
    refine cj_iload_n dX1_sort_10 rfl ?_
    refine cj_callV (As := [.int w]) (rest := []) dX1_sort_11 lkX1_59 mwX1_constructorOf (t_constructorOf k_o k_a ht) (by omega) rfl rfl (Nat.le_of_ble_eq_true rfl) k_o rfl (fun v9 G9 q3 => ?_) (fun _ _ h => absurd h id)
    obtain ⟨rfl, rfl⟩ := q3
    refine cj_st (st' := [.int (hp_co f t w)]) rfl ?_
    refine cj_iconst (v := (-1)) dX1_sort_14 (by decide) ?_
    refine cj_icmp_eq (tgt := 20) dX1_sort_15 (by decide) (fun h4 => ?_) (fun h4 => ?_)
    · refine cj_aload_n dX1_sort_20 rfl ?_
      refine cj_iload_n dX1_sort_21 rfl ?_
      refine cj_callV (As := [.int w]) (rest := []) dX1_sort_22 lkX1_62 mwX1_isFunction (t_isFunction k_o k_a ht) (by omega) rfl rfl (Nat.le_of_ble_eq_true rfl) k_o rfl (fun v9 G9 q5 => ?_) (fun _ _ h => absurd h id)
      obtain ⟨rfl, rfl⟩ := q5
      refine cj_st (st' := [.int (ch_b (hp_fnb f t w = true))]) rfl ?_
      refine cj_if_eq (tgt := 32) dX1_sort_25 (by decide) (fun h6 => ?_) (fun h6 => ?_)
      · refine cj_iconst (v := 0) dX1_sort_32 (by decide) ?_
        refine cj_iret rfl dX1_sort_33 ?_
        refine ⟨congrArg (fun z => some (Value.int z)) ?_, rfl⟩
        first | (simp_all [ch_b0, hp_so]; done) | (simp_all [ch_b0, hp_so]; intros; exfalso; simp only [Int32.lt_iff_toInt_lt, Int32.le_iff_toInt_le] at *; omega)
      · refine cj_iconst (v := 3) dX1_sort_28 (by decide) ?_
        refine cj_goto (tgt := 33) dX1_sort_29 (by decide) ?_
        refine cj_iret rfl dX1_sort_33 ?_
        refine ⟨congrArg (fun z => some (Value.int z)) ?_, rfl⟩
        first | (simp_all [ch_b0, hp_so]; done) | (simp_all [ch_b0, hp_so]; intros; exfalso; simp only [Int32.lt_iff_toInt_lt, Int32.le_iff_toInt_le] at *; omega)
    · refine cj_iconst (v := 2) dX1_sort_18 (by decide) ?_
      refine cj_iret rfl dX1_sort_19 ?_
      refine ⟨congrArg (fun z => some (Value.int z)) ?_, rfl⟩
      first | (simp_all [ch_b0, hp_so]; done) | (simp_all [ch_b0, hp_so]; intros; exfalso; simp only [Int32.lt_iff_toInt_lt, Int32.le_iff_toInt_le] at *; omega)
  · refine cj_iconst (v := 1) dX1_sort_7 (by decide) ?_
    refine cj_iret rfl dX1_sort_8 ?_
    refine ⟨congrArg (fun z => some (Value.int z)) ?_, rfl⟩
    first | (simp_all [ch_b0, hp_so]; done) | (simp_all [ch_b0, hp_so]; intros; exfalso; simp only [Int32.lt_iff_toInt_lt, Int32.le_iff_toInt_le] at *; omega)
set_option maxHeartbeats 4000000 in
set_option maxRecDepth 100000 in
theorem t_meaning {G : cj_G} {o a b c N : Nat} {f : Nat → Int32} {t cp tn w : Int32} (k_o : G o = some (.inr (1, [.ref a, .ref b, .ref c, .int t, .int cp, .int tn]))) (k_a : G a = some (.inl (0, N, .inl f))) (ht : t.toInt ≤ N) (hN : N ≤ 200) : cj_T mX1_meaning 4 0 0 [.ref o, .int w] G (cj_rd G (hp_me f t w)) (cj_no) := by
  refine cj_T_of (by decide) (Nat.le_of_ble_eq_true rfl) ?_
  refine cj_lvs (lv' := [(0, .ref o), (1, .int w)]) rfl ?_
  refine cj_aload_n dX1_meaning_0 rfl ?_
  refine cj_iload_n dX1_meaning_1 rfl ?_
  refine cj_callV (As := [.int w]) (rest := []) dX1_meaning_2 lkX1_65 mwX1_sort (t_sort k_o k_a ht) (by omega) rfl rfl (Nat.le_of_ble_eq_true rfl) k_o rfl (fun v9 G9 q1 => ?_) (fun _ _ h => absurd h id)
  obtain ⟨rfl, rfl⟩ := q1
  refine cj_st (st' := [.int (hp_so f t w)]) rfl ?_
  rcases hp_so4 f t w with s2 | s2 | s2 | s2
  · refine cj_st (st' := [.int 0]) (by rw [s2]) ?_
    refine cj_tableOut (tgt := 53) dX1_meaning_5 (by decide) (by decide) ?_
    refine cj_iconst (v := 0) dX1_meaning_53 (by decide) ?_
    refine cj_iret rfl dX1_meaning_54 ?_
    refine ⟨congrArg (fun z => some (Value.int z)) ?_, rfl⟩
    first | (simp_all [ch_b0, hp_me]; done) | (simp_all [ch_b0, hp_me]; intros; exfalso; simp only [Int32.lt_iff_toInt_lt, Int32.le_iff_toInt_le] at *; omega)
  · refine cj_st (st' := [.int 1]) (by rw [s2]) ?_
    refine cj_tableIn (off := 27) (tgt := 32) dX1_meaning_5 (by decide) (by decide) (by decide) (by decide) ?_
    refine cj_iload_n dX1_meaning_32 rfl ?_
    refine cj_callSN (As := [.int w]) (rest := []) dX1_meaning_33 lkX1_68 mwX6_intOf (t_intOf) (by omega) rfl rfl (Nat.le_of_ble_eq_true rfl) (fun v9 G9 q3 => ?_)
    obtain ⟨rfl, rfl⟩ := q3
    refine cj_st (st' := [.int (w >>> (1 &&& 31))]) rfl ?_
    refine cj_iret rfl dX1_meaning_36 ?_
    refine ⟨congrArg (fun z => some (Value.int z)) ?_, rfl⟩
    first | (simp_all [ch_b0, hp_me]; done) | (simp_all [ch_b0, hp_me]; intros; exfalso; simp only [Int32.lt_iff_toInt_lt, Int32.le_iff_toInt_le] at *; omega)
  · refine cj_st (st' := [.int 2]) (by rw [s2]) ?_
    refine cj_tableIn (off := 32) (tgt := 37) dX1_meaning_5 (by decide) (by decide) (by decide) (by decide) ?_
    refine cj_aload_n dX1_meaning_37 rfl ?_
    refine cj_iload_n dX1_meaning_38 rfl ?_
    refine cj_callV (As := [.int w]) (rest := []) dX1_meaning_39 lkX1_59 mwX1_constructorOf (t_constructorOf k_o k_a ht) (by omega) rfl rfl (Nat.le_of_ble_eq_true rfl) k_o rfl (fun v9 G9 q4 => ?_) (fun _ _ h => absurd h id)
    obtain ⟨rfl, rfl⟩ := q4
    refine cj_st (st' := [.int (hp_co f t w)]) rfl ?_
    refine cj_iret rfl dX1_meaning_42 ?_
    refine ⟨congrArg (fun z => some (Value.int z)) ?_, rfl⟩
    first | (simp_all [ch_b0, hp_me]; done) | (simp_all [ch_b0, hp_me]; intros; exfalso; simp only [Int32.lt_iff_toInt_lt, Int32.le_iff_toInt_le] at *; omega)
  · refine cj_st (st' := [.int 3]) (by rw [s2]) ?_
    refine cj_tableIn (off := 38) (tgt := 43) dX1_meaning_5 (by decide) (by decide) (by decide) (by decide) ?_
    refine cj_aload_n dX1_meaning_43 rfl ?_
    refine cj_iload_n dX1_meaning_44 rfl ?_
    refine cj_iconst (v := 1) dX1_meaning_45 (by decide) ?_
    refine cj_callV (As := [.int w, .int 1]) (rest := []) dX1_meaning_46 lkX1_71 mwX1_wordOf (t_wordOf k_o k_a ht hN) (by omega) rfl rfl (Nat.le_of_ble_eq_true rfl) k_o rfl (fun v9 G9 q5 => ?_) (fun _ _ h => absurd h id)
    obtain ⟨rfl, rfl⟩ := q5
    refine cj_st (st' := [.int (hp_wo f t w 1)]) rfl ?_
    refine cj_callSN (As := [.int (hp_wo f t w 1)]) (rest := []) dX1_meaning_49 lkX1_68 mwX6_intOf (t_intOf) (by omega) rfl rfl (Nat.le_of_ble_eq_true rfl) (fun v9 G9 q6 => ?_)
    obtain ⟨rfl, rfl⟩ := q6
    refine cj_st (st' := [.int ((hp_wo f t w 1) >>> (1 &&& 31))]) rfl ?_
    refine cj_iret rfl dX1_meaning_52 ?_
    refine ⟨congrArg (fun z => some (Value.int z)) ?_, rfl⟩
    first | (simp_all [ch_b0, hp_me]; done) | (simp_all [ch_b0, hp_me]; intros; exfalso; simp only [Int32.lt_iff_toInt_lt, Int32.le_iff_toInt_le] at *; omega)
set_option maxHeartbeats 4000000 in
set_option maxRecDepth 100000 in
theorem t_hasRoomFor {G : cj_G} {o a b c N : Nat} {f : Nat → Int32} {t : Nat} {w cp9 tn9 : Int32} (k_o : G o = some (.inr (1, [.ref a, .ref b, .ref c, .int (nI t), .int cp9, .int tn9]))) (k_a : G a = some (.inl (0, N, .inl f))) (hN : N ≤ 200) (ht : t ≤ N) : cj_T mX1_hasRoomFor 0 0 0 [.ref o, .int w] G (cj_rd G (ch_b (w ≤ nI N - nI t))) (cj_no) := by
  refine cj_T_of (by decide) (Nat.le_of_ble_eq_true rfl) ?_
  refine cj_lvs (lv' := [(0, .ref o), (1, .int w)]) rfl ?_
  refine cj_iload_n dX1_hasRoomFor_0 rfl ?_
  refine cj_aload_n dX1_hasRoomFor_1 rfl ?_
  refine cj_get flX1_21 dX1_hasRoomFor_2 k_o rfl ?_
  refine cj_alen (v := nI N) dX1_hasRoomFor_5 k_a rfl rfl ?_
  refine cj_aload_n dX1_hasRoomFor_6 rfl ?_
  refine cj_get flX1_9 dX1_hasRoomFor_7 k_o rfl ?_
  refine cj_isub dX1_hasRoomFor_10 ?_
  refine cj_icmp_gt (tgt := 18) dX1_hasRoomFor_11 (by decide) (fun h1 => ?_) (fun h1 => ?_)
  · refine cj_iconst (v := 0) dX1_hasRoomFor_18 (by decide) ?_
    refine cj_zret rfl rfl dX1_hasRoomFor_19 ?_
    refine ⟨congrArg (fun z => some (Value.int z)) ?_, rfl⟩
    first | (simp_all [ch_b0, ch_b]; done) | (simp_all [ch_b0, ch_b]; intros; exfalso; simp only [Int32.lt_iff_toInt_lt, Int32.le_iff_toInt_le] at *; omega)
  · refine cj_iconst (v := 1) dX1_hasRoomFor_14 (by decide) ?_
    refine cj_goto (tgt := 19) dX1_hasRoomFor_15 (by decide) ?_
    refine cj_zret rfl rfl dX1_hasRoomFor_19 ?_
    refine ⟨congrArg (fun z => some (Value.int z)) ?_, rfl⟩
    first | (simp_all [ch_b0, ch_b]; done) | (simp_all [ch_b0, ch_b]; intros; exfalso; simp only [Int32.lt_iff_toInt_lt, Int32.le_iff_toInt_le] at *; omega)
/-- the heap object has its fields, its first array its words; of G only these two have changed -/
def hp_po (G : cj_G) (o a b c N : Nat) (f : Nat → Int32) (t cp tn : Int32) (G' : cj_G) : Prop := G' o = some (.inr (1, [.ref a, .ref b, .ref c, .int t, .int cp, .int tn])) ∧ G' a = some (.inl (0, N, .inl f)) ∧ cj_fr [o, a] G G' 
set_option maxHeartbeats 4000000 in
set_option maxRecDepth 100000 in
theorem t_put {G : cj_G} {o a b c N : Nat} {f : Nat → Int32} {t : Nat} {w cp9 tn9 : Int32} (k_o : G o = some (.inr (1, [.ref a, .ref b, .ref c, .int (nI t), .int cp9, .int tn9]))) (k_a : G a = some (.inl (0, N, .inl f))) (hN : N ≤ 200) (ht : t < N) : cj_T mX1_put 0 0 0 [.ref o, .int w] G (fun v G' => v = none ∧ hp_po G o a b c N (upd f t w) (nI (t + 1)) cp9 tn9 G') (cj_no) := by
  refine cj_T_of (by decide) (Nat.le_of_ble_eq_true rfl) ?_
  refine cj_lvs (lv' := [(0, .ref o), (1, .int w)]) rfl ?_
  refine cj_aload_n dX1_put_0 rfl ?_
  refine cj_get flX1_9 dX1_put_1 k_o rfl ?_
  refine cj_aload_n dX1_put_4 rfl ?_
  refine cj_get flX1_21 dX1_put_5 k_o rfl ?_
  refine cj_alen (v := nI N) dX1_put_8 k_a rfl rfl ?_
  refine cj_icmp_ge (tgt := 32) dX1_put_9 (by decide) (fun h1 => absurd h1 (nI_ge (by omega) (by omega))) (fun h1 => ?_)
  refine cj_aload_n dX1_put_12 rfl ?_
  refine cj_get flX1_21 dX1_put_13 k_o rfl ?_
  refine cj_aload_n dX1_put_16 rfl ?_
  refine cj_get flX1_9 dX1_put_17 k_o rfl ?_
  refine cj_iload_n dX1_put_20 rfl ?_
  have i2 : vp_in (nI t) N := by
    exact vp_in_nI (by omega) (by omega)
  refine cj_iast dX1_put_21 k_a i2 ?_
  refine cj_eqG (G' := cj_up G a (.inl (0, N, .inl (upd f t w)))) (by rw [nI_clamp (by omega)]) ?_
  refine cj_nm (fun G3 e4 => ?_)
  have k5 : G3 o = some (.inr (1, [.ref a, .ref b, .ref c, .int (nI t), .int cp9, .int tn9])) := by rw [e4, cj_up_n (cj_ne k_o k_a (by intro h; cases h))]; exact k_o
  have k6 : G3 a = some (.inl (0, N, .inl (upd f t w))) := by rw [e4]; exact cj_up_s
  have r7 : cj_fr [o, a] G G3 := by rw [e4]; exact cj_fr.up (cj_fr.rf (S := [o, a]) (G := G)) (by simp)
  refine cj_aload_n dX1_put_22 rfl ?_
  refine cj_dup dX1_put_23 rfl ?_
  refine cj_get flX1_9 dX1_put_24 k5 rfl ?_
  refine cj_iconst (v := 1) dX1_put_27 (by decide) ?_
  refine cj_iadd dX1_put_28 ?_
  refine cj_st (st' := [.int (nI (t + 1)), .ref o]) (by rw [nI_1]) ?_
  refine cj_put flX1_9 dX1_put_29 k5 rfl rfl (Nat.le_of_ble_eq_true rfl) ?_
  refine cj_nm (fun G8 e9 => ?_)
  have k10 : G8 o = some (.inr (1, [.ref a, .ref b, .ref c, .int (nI (t + 1)), .int cp9, .int tn9])) := by rw [e9]; exact cj_up_s
  have k11 : G8 a = some (.inl (0, N, .inl (upd f t w))) := by rw [e9, cj_up_n (cj_ne k6 k5 (by intro h; cases h))]; exact k6
  have r12 : cj_fr [o, a] G G8 := by rw [e9]; exact cj_fr.up r7 (by simp)
  refine cj_vret rfl dX1_put_32 ?_
  exact ⟨rfl, k10, k11, r12⟩
