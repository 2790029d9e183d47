/-! ClosureHeap$Machine: the instructions' doers -/
theorem cj_noo {G : cj_G} {a b i j : Nat} {x y : List Value} (ha : G a = some (.inr (i, x))) (hb : G b = some (.inr (j, y))) (h : i ≠ j) : a ≠ b := fun e => by subst e; rw [ha] at hb; exact h (Prod.mk.inj (Sum.inr.inj (Option.some.inj hb))).1
theorem cj_noa {G : cj_G} {a b : Nat} {x : Nat × List Value} {y : Nat × vp_A} (ha : G a = some (.inr x)) (hb : G b = some (.inl y)) : a ≠ b := fun e => by subst e; rw [ha] at hb; cases hb
theorem cj_nao {G : cj_G} {a b : Nat} {x : Nat × List Value} {y : Nat × vp_A} (ha : G a = some (.inl y)) (hb : G b = some (.inr x)) : a ≠ b := fun e => by subst e; rw [ha] at hb; cases hb
theorem cj_naa {G : cj_G} {a b i j : Nat} {x y : vp_A} (ha : G a = some (.inl (i, x))) (hb : G b = some (.inl (j, y))) (h : i ≠ j) : a ≠ b := fun e => by subst e; rw [ha] at hb; exact h (Prod.mk.inj (Sum.inl.inj (Option.some.inj hb))).1
def mc_op (k : Nat) (x y : Int32) : Int32 := if k = 4 then 2 * (x + y) + 1 else if k = 5 then 2 * (x - y) + 1 else if k = 6 then 2 * (x * y) + 1 else if k = 7 then (if x < y then 18 else 2) else if x = y then 18 else 2
set_option maxHeartbeats 4000000 in
set_option maxRecDepth 100000 in
theorem t_wordOfTruth {G : cj_G} {x : Int32} : cj_T mX2_wordOfTruth 1 0 0 [.int x] G (cj_rd G (if x = 0 then 2 else 18)) (cj_no) := by
  refine cj_T_of (by decide) (Nat.le_of_ble_eq_true rfl) ?_
  refine cj_lvs (lv' := [(0, .int x)]) rfl ?_
  refine cj_iload_n dX2_wordOfTruth_0 rfl ?_
  refine cj_if_eq (tgt := 8) dX2_wordOfTruth_1 (by decide) (fun h1 => ?_) (fun h1 => ?_)
  · refine cj_iconst (v := 0) dX2_wordOfTruth_8 (by decide) ?_
    refine cj_callSN (M' := mX6_wordOfTag) (index := 151) (np := 1) (As := [.int 0]) (rest := []) dX2_wordOfTruth_9 lkX2_151 mwX6_wordOfTag (t_wordOfTag) (by omega) rfl rfl (Nat.le_of_ble_eq_true rfl) (fun v9 G3 q2 => ?_)
    obtain ⟨rfl, e9⟩ := q2
    subst G3
    refine cj_st (st' := [.int (4 * 0 + 2)]) rfl ?_
    refine cj_pc (pc' := 12) rfl ?_
    refine cj_iret rfl dX2_wordOfTruth_12 ?_
    refine ⟨congrArg (fun z => some (Value.int z)) ?_, rfl⟩
    first | (simp_all [ch_b0, ch_b]; done) | (simp_all [ch_b0, ch_b]; intros; exfalso; simp only [Int32.lt_iff_toInt_lt, Int32.le_iff_toInt_le] at *; omega)
  · refine cj_iconst (v := 4) dX2_wordOfTruth_4 (by decide) ?_
    refine cj_goto (tgt := 9) dX2_wordOfTruth_5 (by decide) ?_
    refine cj_callSN (M' := mX6_wordOfTag) (index := 151) (np := 1) (As := [.int 4]) (rest := []) dX2_wordOfTruth_9 lkX2_151 mwX6_wordOfTag (t_wordOfTag) (by omega) rfl rfl (Nat.le_of_ble_eq_true rfl) (fun v9 G5 q4 => ?_)
    obtain ⟨rfl, e9⟩ := q4
    subst G5
    refine cj_st (st' := [.int (4 * 4 + 2)]) rfl ?_
    refine cj_pc (pc' := 12) rfl ?_
    refine cj_iret rfl dX2_wordOfTruth_12 ?_
    refine ⟨congrArg (fun z => some (Value.int z)) ?_, rfl⟩
    first | (simp_all [ch_b0, ch_b]; done) | (simp_all [ch_b0, ch_b]; intros; exfalso; simp only [Int32.lt_iff_toInt_lt, Int32.le_iff_toInt_le] at *; omega)
set_option maxHeartbeats 4000000 in
set_option maxRecDepth 100000 in
theorem t_operate_4 {G : cj_G} {m pg o sk ht : Nat} {sf : Nat → Int32} {acc env at9 hl rs : Int32} (k_m : G m = some (.inr (2, [.ref pg, .ref o, .ref sk, .int (nI ht), .int acc, .int env, .int at9, .int hl, .int rs]))) (k_sk : G sk = some (.inl (0, 40, .inl sf))) (hht : ht ≤ 40) : cj_T mX2_operate 2 0 0 [.ref m, .int 4] G (fun v G' => v = none ∧ G' m = some (.inr (2, [.ref pg, .ref o, .ref sk, .int (nI (ht - 1)), .int (mc_op 4 (mc_top sf ht >>> ((1 : Int32) &&& 31)) (acc >>> ((1 : Int32) &&& 31))), .int env, .int at9, .int hl, .int rs])) ∧ cj_fr [m] G G') (cj_no) := by
  refine cj_T_of (by decide) (Nat.le_of_ble_eq_true rfl) ?_
  refine cj_lvs (lv' := [(0, .ref m), (1, .int 4)]) rfl ?_
  refine cj_aload_n dX2_operate_0 rfl ?_
  refine cj_callV (M' := mX2_pop) (d' := 1) (k' := 0) (n' := 0) (index := 139) (np := 0) (As := []) (rest := []) dX2_operate_1 lkX2_139 mwX2_pop (t_pop k_m k_sk (by omega)) (by omega) rfl rfl (Nat.le_of_ble_eq_true rfl) k_m rfl (fun v9 G2 q1 => ?_) (fun _ _ h => absurd h id)
  obtain ⟨rfl, k3, r4⟩ := q1
  have k5 : G2 sk = some (.inl (0, 40, .inl sf)) := r4 _ _ (cj_ni1 (cj_nao k_sk k_m)) k_sk
  have r6 : cj_fr [m] G G2 := cj_fr.trans (cj_fr.rf (S := [m]) (G := G)) (cj_fr.mono r4 (by simp))
  refine cj_st (st' := [.int (mc_top sf ht)]) rfl ?_
  refine cj_callSN (M' := mX6_intOf) (index := 142) (np := 1) (As := [.int (mc_top sf ht)]) (rest := []) dX2_operate_4 lkX2_142 mwX6_intOf (t_intOf) (by omega) rfl rfl (Nat.le_of_ble_eq_true rfl) (fun v9 G8 q7 => ?_)
  obtain ⟨rfl, e9⟩ := q7
  subst G8
  refine cj_st (st' := [.int ((mc_top sf ht) >>> ((1 : Int32) &&& 31))]) rfl ?_
  refine cj_istore_n (lv' := [(2, .int ((mc_top sf ht) >>> ((1 : Int32) &&& 31))), (0, .ref m), (1, .int 4)]) dX2_operate_7 (by decide) rfl ?_
  refine cj_pc (pc' := 8) rfl ?_
  refine cj_aload_n dX2_operate_8 rfl ?_
  refine cj_get flX2_19 dX2_operate_9 k3 rfl ?_
  refine cj_callSN (M' := mX6_intOf) (index := 142) (np := 1) (As := [.int acc]) (rest := []) dX2_operate_12 lkX2_142 mwX6_intOf (t_intOf) (by omega) rfl rfl (Nat.le_of_ble_eq_true rfl) (fun v9 G10 q9 => ?_)
  obtain ⟨rfl, e9⟩ := q9
  subst G10
  refine cj_st (st' := [.int (acc >>> ((1 : Int32) &&& 31))]) rfl ?_
  refine cj_istore_n (lv' := [(3, .int (acc >>> ((1 : Int32) &&& 31))), (2, .int ((mc_top sf ht) >>> ((1 : Int32) &&& 31))), (0, .ref m), (1, .int 4)]) dX2_operate_15 (by decide) rfl ?_
  refine cj_pc (pc' := 16) rfl ?_
  refine cj_iload_n dX2_operate_16 rfl ?_
  refine cj_tableIn (off := 31) (tgt := 48) dX2_operate_17 (by decide) (by decide) (by decide) (by decide) ?_
  refine cj_aload_n dX2_operate_48 rfl ?_
  refine cj_iload_n dX2_operate_49 rfl ?_
  refine cj_pc (pc' := 50) rfl ?_
  refine cj_iload_n dX2_operate_50 rfl ?_
  refine cj_iadd dX2_operate_51 ?_
  refine cj_callSN (M' := mX6_wordOfInt) (index := 122) (np := 1) (As := [.int (((mc_top sf ht) >>> ((1 : Int32) &&& 31)) + (acc >>> ((1 : Int32) &&& 31)))]) (rest := [.ref m]) dX2_operate_52 lkX2_122 mwX6_wordOfInt (t_wordOfInt) (by omega) rfl rfl (Nat.le_of_ble_eq_true rfl) (fun v9 G12 q11 => ?_)
  obtain ⟨rfl, e9⟩ := q11
  subst G12
  refine cj_st (st' := [.int ((2 : Int32) * (((mc_top sf ht) >>> ((1 : Int32) &&& 31)) + (acc >>> ((1 : Int32) &&& 31))) + 1), .ref m]) rfl ?_
  refine cj_put flX2_19 dX2_operate_55 k3 rfl rfl (Nat.le_of_ble_eq_true rfl) ?_
  refine cj_nm (fun G13 e14 => ?_)
  have k15 : G13 m = some (.inr (2, [.ref pg, .ref o, .ref sk, .int (nI (ht - 1)), .int ((2 : Int32) * (((mc_top sf ht) >>> ((1 : Int32) &&& 31)) + (acc >>> ((1 : Int32) &&& 31))) + 1), .int env, .int at9, .int hl, .int rs])) := by rw [e14]; exact cj_up_s
  have k16 : G13 sk = some (.inl (0, 40, .inl sf)) := by rw [e14, cj_up_n (cj_nao k5 k3)]; exact k5
  have r17 : cj_fr [m] G G13 := by rw [e14]; exact cj_fr.up r6 (by simp)
  refine cj_pc (pc' := 58) rfl ?_
  refine cj_goto (tgt := 124) dX2_operate_58 (by decide) ?_
  refine cj_vret rfl dX2_operate_124 ?_
  have e9 : (2 : Int32) * (((mc_top sf ht) >>> ((1 : Int32) &&& 31)) + (acc >>> ((1 : Int32) &&& 31))) + 1 = mc_op 4 (mc_top sf ht >>> ((1 : Int32) &&& 31)) (acc >>> ((1 : Int32) &&& 31)) := by simp [mc_op]
  rw [e9] at k15
  exact ⟨rfl, k15, r17⟩
set_option maxHeartbeats 4000000 in
set_option maxRecDepth 100000 in
theorem t_operate_5 {G : cj_G} {m pg o sk ht : Nat} {sf : Nat → Int32} {acc env at9 hl rs : Int32} (k_m : G m = some (.inr (2, [.ref pg, .ref o, .ref sk, .int (nI ht), .int acc, .int env, .int at9, .int hl, .int rs]))) (k_sk : G sk = some (.inl (0, 40, .inl sf))) (hht : ht ≤ 40) : cj_T mX2_operate 2 0 0 [.ref m, .int 5] G (fun v G' => v = none ∧ G' m = some (.inr (2, [.ref pg, .ref o, .ref sk, .int (nI (ht - 1)), .int (mc_op 5 (mc_top sf ht >>> ((1 : Int32) &&& 31)) (acc >>> ((1 : Int32) &&& 31))), .int env, .int at9, .int hl, .int rs])) ∧ cj_fr [m] G G') (cj_no) := by
  refine cj_T_of (by decide) (Nat.le_of_ble_eq_true rfl) ?_
  refine cj_lvs (lv' := [(0, .ref m), (1, .int 5)]) rfl ?_
  refine cj_aload_n dX2_operate_0 rfl ?_
  refine cj_callV (M' := mX2_pop) (d' := 1) (k' := 0) (n' := 0) (index := 139) (np := 0) (As := []) (rest := []) dX2_operate_1 lkX2_139 mwX2_pop (t_pop k_m k_sk (by omega)) (by omega) rfl rfl (Nat.le_of_ble_eq_true rfl) k_m rfl (fun v9 G2 q1 => ?_) (fun _ _ h => absurd h id)
  obtain ⟨rfl, k3, r4⟩ := q1
  have k5 : G2 sk = some (.inl (0, 40, .inl sf)) := r4 _ _ (cj_ni1 (cj_nao k_sk k_m)) k_sk
  have r6 : cj_fr [m] G G2 := cj_fr.trans (cj_fr.rf (S := [m]) (G := G)) (cj_fr.mono r4 (by simp))
  refine cj_st (st' := [.int (mc_top sf ht)]) rfl ?_
  refine cj_callSN (M' := mX6_intOf) (index := 142) (np := 1) (As := [.int (mc_top sf ht)]) (rest := []) dX2_operate_4 lkX2_142 mwX6_intOf (t_intOf) (by omega) rfl rfl (Nat.le_of_ble_eq_true rfl) (fun v9 G8 q7 => ?_)
  obtain ⟨rfl, e9⟩ := q7
  subst G8
  refine cj_st (st' := [.int ((mc_top sf ht) >>> ((1 : Int32) &&& 31))]) rfl ?_
  refine cj_istore_n (lv' := [(2, .int ((mc_top sf ht) >>> ((1 : Int32) &&& 31))), (0, .ref m), (1, .int 5)]) dX2_operate_7 (by decide) rfl ?_
  refine cj_pc (pc' := 8) rfl ?_
  refine cj_aload_n dX2_operate_8 rfl ?_
  refine cj_get flX2_19 dX2_operate_9 k3 rfl ?_
  refine cj_callSN (M' := mX6_intOf) (index := 142) (np := 1) (As := [.int acc]) (rest := []) dX2_operate_12 lkX2_142 mwX6_intOf (t_intOf) (by omega) rfl rfl (Nat.le_of_ble_eq_true rfl) (fun v9 G10 q9 => ?_)
  obtain ⟨rfl, e9⟩ := q9
  subst G10
  refine cj_st (st' := [.int (acc >>> ((1 : Int32) &&& 31))]) rfl ?_
  refine cj_istore_n (lv' := [(3, .int (acc >>> ((1 : Int32) &&& 31))), (2, .int ((mc_top sf ht) >>> ((1 : Int32) &&& 31))), (0, .ref m), (1, .int 5)]) dX2_operate_15 (by decide) rfl ?_
  refine cj_pc (pc' := 16) rfl ?_
  refine cj_iload_n dX2_operate_16 rfl ?_
  refine cj_tableIn (off := 44) (tgt := 61) dX2_operate_17 (by decide) (by decide) (by decide) (by decide) ?_
  refine cj_aload_n dX2_operate_61 rfl ?_
  refine cj_iload_n dX2_operate_62 rfl ?_
  refine cj_pc (pc' := 63) rfl ?_
  refine cj_iload_n dX2_operate_63 rfl ?_
  refine cj_isub dX2_operate_64 ?_
  refine cj_callSN (M' := mX6_wordOfInt) (index := 122) (np := 1) (As := [.int (((mc_top sf ht) >>> ((1 : Int32) &&& 31)) - (acc >>> ((1 : Int32) &&& 31)))]) (rest := [.ref m]) dX2_operate_65 lkX2_122 mwX6_wordOfInt (t_wordOfInt) (by omega) rfl rfl (Nat.le_of_ble_eq_true rfl) (fun v9 G12 q11 => ?_)
  obtain ⟨rfl, e9⟩ := q11
  subst G12
  refine cj_st (st' := [.int ((2 : Int32) * (((mc_top sf ht) >>> ((1 : Int32) &&& 31)) - (acc >>> ((1 : Int32) &&& 31))) + 1), .ref m]) rfl ?_
  refine cj_put flX2_19 dX2_operate_68 k3 rfl rfl (Nat.le_of_ble_eq_true rfl) ?_
  refine cj_nm (fun G13 e14 => ?_)
  have k15 : G13 m = some (.inr (2, [.ref pg, .ref o, .ref sk, .int (nI (ht - 1)), .int ((2 : Int32) * (((mc_top sf ht) >>> ((1 : Int32) &&& 31)) - (acc >>> ((1 : Int32) &&& 31))) + 1), .int env, .int at9, .int hl, .int rs])) := by rw [e14]; exact cj_up_s
  have k16 : G13 sk = some (.inl (0, 40, .inl sf)) := by rw [e14, cj_up_n (cj_nao k5 k3)]; exact k5
  have r17 : cj_fr [m] G G13 := by rw [e14]; exact cj_fr.up r6 (by simp)
  refine cj_pc (pc' := 71) rfl ?_
  refine cj_goto (tgt := 124) dX2_operate_71 (by decide) ?_
  refine cj_vret rfl dX2_operate_124 ?_
  have e9 : (2 : Int32) * (((mc_top sf ht) >>> ((1 : Int32) &&& 31)) - (acc >>> ((1 : Int32) &&& 31))) + 1 = mc_op 5 (mc_top sf ht >>> ((1 : Int32) &&& 31)) (acc >>> ((1 : Int32) &&& 31)) := by simp [mc_op]
  rw [e9] at k15
  exact ⟨rfl, k15, r17⟩
set_option maxHeartbeats 4000000 in
set_option maxRecDepth 100000 in
theorem t_operate_6 {G : cj_G} {m pg o sk ht : Nat} {sf : Nat → Int32} {acc env at9 hl rs : Int32} (k_m : G m = some (.inr (2, [.ref pg, .ref o, .ref sk, .int (nI ht), .int acc, .int env, .int at9, .int hl, .int rs]))) (k_sk : G sk = some (.inl (0, 40, .inl sf))) (hht : ht ≤ 40) : cj_T mX2_operate 2 0 0 [.ref m, .int 6] G (fun v G' => v = none ∧ G' m = some (.inr (2, [.ref pg, .ref o, .ref sk, .int (nI (ht - 1)), .int (mc_op 6 (mc_top sf ht >>> ((1 : Int32) &&& 31)) (acc >>> ((1 : Int32) &&& 31))), .int env, .int at9, .int hl, .int rs])) ∧ cj_fr [m] G G') (cj_no) := by
  refine cj_T_of (by decide) (Nat.le_of_ble_eq_true rfl) ?_
  refine cj_lvs (lv' := [(0, .ref m), (1, .int 6)]) rfl ?_
  refine cj_aload_n dX2_operate_0 rfl ?_
  refine cj_callV (M' := mX2_pop) (d' := 1) (k' := 0) (n' := 0) (index := 139) (np := 0) (As := []) (rest := []) dX2_operate_1 lkX2_139 mwX2_pop (t_pop k_m k_sk (by omega)) (by omega) rfl rfl (Nat.le_of_ble_eq_true rfl) k_m rfl (fun v9 G2 q1 => ?_) (fun _ _ h => absurd h id)
  obtain ⟨rfl, k3, r4⟩ := q1
  have k5 : G2 sk = some (.inl (0, 40, .inl sf)) := r4 _ _ (cj_ni1 (cj_nao k_sk k_m)) k_sk
  have r6 : cj_fr [m] G G2 := cj_fr.trans (cj_fr.rf (S := [m]) (G := G)) (cj_fr.mono r4 (by simp))
  refine cj_st (st' := [.int (mc_top sf ht)]) rfl ?_
  refine cj_callSN (M' := mX6_intOf) (index := 142) (np := 1) (As := [.int (mc_top sf ht)]) (rest := []) dX2_operate_4 lkX2_142 mwX6_intOf (t_intOf) (by omega) rfl rfl (Nat.le_of_ble_eq_true rfl) (fun v9 G8 q7 => ?_)
  obtain ⟨rfl, e9⟩ := q7
  subst G8
  refine cj_st (st' := [.int ((mc_top sf ht) >>> ((1 : Int32) &&& 31))]) rfl ?_
  refine cj_istore_n (lv' := [(2, .int ((mc_top sf ht) >>> ((1 : Int32) &&& 31))), (0, .ref m), (1, .int 6)]) dX2_operate_7 (by decide) rfl ?_
  refine cj_pc (pc' := 8) rfl ?_
  refine cj_aload_n dX2_operate_8 rfl ?_
  refine cj_get flX2_19 dX2_operate_9 k3 rfl ?_
  refine cj_callSN (M' := mX6_intOf) (index := 142) (np := 1) (As := [.int acc]) (rest := []) dX2_operate_12 lkX2_142 mwX6_intOf (t_intOf) (by omega) rfl rfl (Nat.le_of_ble_eq_true rfl) (fun v9 G10 q9 => ?_)
  obtain ⟨rfl, e9⟩ := q9
  subst G10
  refine cj_st (st' := [.int (acc >>> ((1 : Int32) &&& 31))]) rfl ?_
  refine cj_istore_n (lv' := [(3, .int (acc >>> ((1 : Int32) &&& 31))), (2, .int ((mc_top sf ht) >>> ((1 : Int32) &&& 31))), (0, .ref m), (1, .int 6)]) dX2_operate_15 (by decide) rfl ?_
  refine cj_pc (pc' := 16) rfl ?_
  refine cj_iload_n dX2_operate_16 rfl ?_
  refine cj_tableIn (off := 57) (tgt := 74) dX2_operate_17 (by decide) (by decide) (by decide) (by decide) ?_
  refine cj_aload_n dX2_operate_74 rfl ?_
  refine cj_iload_n dX2_operate_75 rfl ?_
  refine cj_pc (pc' := 76) rfl ?_
  refine cj_iload_n dX2_operate_76 rfl ?_
  refine cj_imul dX2_operate_77 ?_
  refine cj_callSN (M' := mX6_wordOfInt) (index := 122) (np := 1) (As := [.int (((mc_top sf ht) >>> ((1 : Int32) &&& 31)) * (acc >>> ((1 : Int32) &&& 31)))]) (rest := [.ref m]) dX2_operate_78 lkX2_122 mwX6_wordOfInt (t_wordOfInt) (by omega) rfl rfl (Nat.le_of_ble_eq_true rfl) (fun v9 G12 q11 => ?_)
  obtain ⟨rfl, e9⟩ := q11
  subst G12
  refine cj_st (st' := [.int ((2 : Int32) * (((mc_top sf ht) >>> ((1 : Int32) &&& 31)) * (acc >>> ((1 : Int32) &&& 31))) + 1), .ref m]) rfl ?_
  refine cj_put flX2_19 dX2_operate_81 k3 rfl rfl (Nat.le_of_ble_eq_true rfl) ?_
  refine cj_nm (fun G13 e14 => ?_)
  have k15 : G13 m = some (.inr (2, [.ref pg, .ref o, .ref sk, .int (nI (ht - 1)), .int ((2 : Int32) * (((mc_top sf ht) >>> ((1 : Int32) &&& 31)) * (acc >>> ((1 : Int32) &&& 31))) + 1), .int env, .int at9, .int hl, .int rs])) := by rw [e14]; exact cj_up_s
  have k16 : G13 sk = some (.inl (0, 40, .inl sf)) := by rw [e14, cj_up_n (cj_nao k5 k3)]; exact k5
  have r17 : cj_fr [m] G G13 := by rw [e14]; exact cj_fr.up r6 (by simp)
  refine cj_pc (pc' := 84) rfl ?_
  refine cj_goto (tgt := 124) dX2_operate_84 (by decide) ?_
  refine cj_vret rfl dX2_operate_124 ?_
  have e9 : (2 : Int32) * (((mc_top sf ht) >>> ((1 : Int32) &&& 31)) * (acc >>> ((1 : Int32) &&& 31))) + 1 = mc_op 6 (mc_top sf ht >>> ((1 : Int32) &&& 31)) (acc >>> ((1 : Int32) &&& 31)) := by simp [mc_op]
  rw [e9] at k15
  exact ⟨rfl, k15, r17⟩
set_option maxHeartbeats 4000000 in
set_option maxRecDepth 100000 in
theorem t_operate_7 {G : cj_G} {m pg o sk ht : Nat} {sf : Nat → Int32} {acc env at9 hl rs : Int32} (k_m : G m = some (.inr (2, [.ref pg, .ref o, .ref sk, .int (nI ht), .int acc, .int env, .int at9, .int hl, .int rs]))) (k_sk : G sk = some (.inl (0, 40, .inl sf))) (hht : ht ≤ 40) : cj_T mX2_operate 2 0 0 [.ref m, .int 7] G (fun v G' => v = none ∧ G' m = some (.inr (2, [.ref pg, .ref o, .ref sk, .int (nI (ht - 1)), .int (mc_op 7 (mc_top sf ht >>> ((1 : Int32) &&& 31)) (acc >>> ((1 : Int32) &&& 31))), .int env, .int at9, .int hl, .int rs])) ∧ cj_fr [m] G G') (cj_no) := by
  refine cj_T_of (by decide) (Nat.le_of_ble_eq_true rfl) ?_
  refine cj_lvs (lv' := [(0, .ref m), (1, .int 7)]) rfl ?_
  refine cj_aload_n dX2_operate_0 rfl ?_
  refine cj_callV (M' := mX2_pop) (d' := 1) (k' := 0) (n' := 0) (index := 139) (np := 0) (As := []) (rest := []) dX2_operate_1 lkX2_139 mwX2_pop (t_pop k_m k_sk (by omega)) (by omega) rfl rfl (Nat.le_of_ble_eq_true rfl) k_m rfl (fun v9 G2 q1 => ?_) (fun _ _ h => absurd h id)
  obtain ⟨rfl, k3, r4⟩ := q1
  have k5 : G2 sk = some (.inl (0, 40, .inl sf)) := r4 _ _ (cj_ni1 (cj_nao k_sk k_m)) k_sk
  have r6 : cj_fr [m] G G2 := cj_fr.trans (cj_fr.rf (S := [m]) (G := G)) (cj_fr.mono r4 (by simp))
  refine cj_st (st' := [.int (mc_top sf ht)]) rfl ?_
  refine cj_callSN (M' := mX6_intOf) (index := 142) (np := 1) (As := [.int (mc_top sf ht)]) (rest := []) dX2_operate_4 lkX2_142 mwX6_intOf (t_intOf) (by omega) rfl rfl (Nat.le_of_ble_eq_true rfl) (fun v9 G8 q7 => ?_)
  obtain ⟨rfl, e9⟩ := q7
  subst G8
  refine cj_st (st' := [.int ((mc_top sf ht) >>> ((1 : Int32) &&& 31))]) rfl ?_
  refine cj_istore_n (lv' := [(2, .int ((mc_top sf ht) >>> ((1 : Int32) &&& 31))), (0, .ref m), (1, .int 7)]) dX2_operate_7 (by decide) rfl ?_
  refine cj_pc (pc' := 8) rfl ?_
  refine cj_aload_n dX2_operate_8 rfl ?_
  refine cj_get flX2_19 dX2_operate_9 k3 rfl ?_
  refine cj_callSN (M' := mX6_intOf) (index := 142) (np := 1) (As := [.int acc]) (rest := []) dX2_operate_12 lkX2_142 mwX6_intOf (t_intOf) (by omega) rfl rfl (Nat.le_of_ble_eq_true rfl) (fun v9 G10 q9 => ?_)
  obtain ⟨rfl, e9⟩ := q9
  subst G10
  refine cj_st (st' := [.int (acc >>> ((1 : Int32) &&& 31))]) rfl ?_
  refine cj_istore_n (lv' := [(3, .int (acc >>> ((1 : Int32) &&& 31))), (2, .int ((mc_top sf ht) >>> ((1 : Int32) &&& 31))), (0, .ref m), (1, .int 7)]) dX2_operate_15 (by decide) rfl ?_
  refine cj_pc (pc' := 16) rfl ?_
  refine cj_iload_n dX2_operate_16 rfl ?_
  refine cj_tableIn (off := 70) (tgt := 87) dX2_operate_17 (by decide) (by decide) (by decide) (by decide) ?_
  refine cj_aload_n dX2_operate_87 rfl ?_
  refine cj_iload_n dX2_operate_88 rfl ?_
  refine cj_pc (pc' := 89) rfl ?_
  refine cj_iload_n dX2_operate_89 rfl ?_
  refine cj_icmp_ge (tgt := 97) dX2_operate_90 (by decide) (fun h11 => ?_) (fun h11 => ?_)
  · refine cj_iconst (v := 0) dX2_operate_97 (by decide) ?_
    refine cj_callS (M' := mX2_wordOfTruth) (d' := 1) (k' := 0) (n' := 0) (index := 163) (np := 1) (As := [.int 0]) (rest := [.ref m]) dX2_operate_98 lkX2_163 mwX2_wordOfTruth (t_wordOfTruth) (by omega) rfl rfl (Nat.le_of_ble_eq_true rfl) (fun v9 G13 q12 => ?_) (fun _ _ h => absurd h id)
    obtain ⟨rfl, e9⟩ := q12
    subst G13
    refine cj_st (st' := [.int (if (0 : Int32) = 0 then (2 : Int32) else 18), .ref m]) rfl ?_
    refine cj_pc (pc' := 101) rfl ?_
    refine cj_put flX2_19 dX2_operate_101 k3 rfl rfl (Nat.le_of_ble_eq_true rfl) ?_
    refine cj_nm (fun G14 e15 => ?_)
    have k16 : G14 m = some (.inr (2, [.ref pg, .ref o, .ref sk, .int (nI (ht - 1)), .int (if (0 : Int32) = 0 then (2 : Int32) else 18), .int env, .int at9, .int hl, .int rs])) := by rw [e15]; exact cj_up_s
    have k17 : G14 sk = some (.inl (0, 40, .inl sf)) := by rw [e15, cj_up_n (cj_nao k5 k3)]; exact k5
    have r18 : cj_fr [m] G G14 := by rw [e15]; exact cj_fr.up r6 (by simp)
    refine cj_goto (tgt := 124) dX2_operate_104 (by decide) ?_
    refine cj_vret rfl dX2_operate_124 ?_
    have e9 : (if (0 : Int32) = 0 then (2 : Int32) else 18) = mc_op 7 (mc_top sf ht >>> ((1 : Int32) &&& 31)) (acc >>> ((1 : Int32) &&& 31)) := by simp [mc_op, h11]
    rw [e9] at k16
    exact ⟨rfl, k16, r18⟩
  · refine cj_iconst (v := 1) dX2_operate_93 (by decide) ?_
    refine cj_pc (pc' := 94) rfl ?_
    refine cj_goto (tgt := 98) dX2_operate_94 (by decide) ?_
    refine cj_callS (M' := mX2_wordOfTruth) (d' := 1) (k' := 0) (n' := 0) (index := 163) (np := 1) (As := [.int 1]) (rest := [.ref m]) dX2_operate_98 lkX2_163 mwX2_wordOfTruth (t_wordOfTruth) (by omega) rfl rfl (Nat.le_of_ble_eq_true rfl) (fun v9 G20 q19 => ?_) (fun _ _ h => absurd h id)
    obtain ⟨rfl, e9⟩ := q19
    subst G20
    refine cj_st (st' := [.int (if (1 : Int32) = 0 then (2 : Int32) else 18), .ref m]) rfl ?_
    refine cj_put flX2_19 dX2_operate_101 k3 rfl rfl (Nat.le_of_ble_eq_true rfl) ?_
    refine cj_nm (fun G21 e22 => ?_)
    have k23 : G21 m = some (.inr (2, [.ref pg, .ref o, .ref sk, .int (nI (ht - 1)), .int (if (1 : Int32) = 0 then (2 : Int32) else 18), .int env, .int at9, .int hl, .int rs])) := by rw [e22]; exact cj_up_s
    have k24 : G21 sk = some (.inl (0, 40, .inl sf)) := by rw [e22, cj_up_n (cj_nao k5 k3)]; exact k5
    have r25 : cj_fr [m] G G21 := by rw [e22]; exact cj_fr.up r6 (by simp)
    refine cj_goto (tgt := 124) dX2_operate_104 (by decide) ?_
    refine cj_pc (pc' := 124) rfl ?_
    refine cj_vret rfl dX2_operate_124 ?_
    have e9 : (if (1 : Int32) = 0 then (2 : Int32) else 18) = mc_op 7 (mc_top sf ht >>> ((1 : Int32) &&& 31)) (acc >>> ((1 : Int32) &&& 31)) := by simp [mc_op, h11]
    rw [e9] at k23
    exact ⟨rfl, k23, r25⟩
set_option maxHeartbeats 4000000 in
set_option maxRecDepth 100000 in
theorem t_operate_8 {G : cj_G} {m pg o sk ht : Nat} {sf : Nat → Int32} {acc env at9 hl rs : Int32} (k_m : G m = some (.inr (2, [.ref pg, .ref o, .ref sk, .int (nI ht), .int acc, .int env, .int at9, .int hl, .int rs]))) (k_sk : G sk = some (.inl (0, 40, .inl sf))) (hht : ht ≤ 40) : cj_T mX2_operate 2 0 0 [.ref m, .int 8] G (fun v G' => v = none ∧ G' m = some (.inr (2, [.ref pg, .ref o, .ref sk, .int (nI (ht - 1)), .int (mc_op 8 (mc_top sf ht >>> ((1 : Int32) &&& 31)) (acc >>> ((1 : Int32) &&& 31))), .int env, .int at9, .int hl, .int rs])) ∧ cj_fr [m] G G') (cj_no) := by
  refine cj_T_of (by decide) (Nat.le_of_ble_eq_true rfl) ?_
  refine cj_lvs (lv' := [(0, .ref m), (1, .int 8)]) rfl ?_
  refine cj_aload_n dX2_operate_0 rfl ?_
  refine cj_callV (M' := mX2_pop) (d' := 1) (k' := 0) (n' := 0) (index := 139) (np := 0) (As := []) (rest := []) dX2_operate_1 lkX2_139 mwX2_pop (t_pop k_m k_sk (by omega)) (by omega) rfl rfl (Nat.le_of_ble_eq_true rfl) k_m rfl (fun v9 G2 q1 => ?_) (fun _ _ h => absurd h id)
  obtain ⟨rfl, k3, r4⟩ := q1
  have k5 : G2 sk = some (.inl (0, 40, .inl sf)) := r4 _ _ (cj_ni1 (cj_nao k_sk k_m)) k_sk
  have r6 : cj_fr [m] G G2 := cj_fr.trans (cj_fr.rf (S := [m]) (G := G)) (cj_fr.mono r4 (by simp))
  refine cj_st (st' := [.int (mc_top sf ht)]) rfl ?_
  refine cj_callSN (M' := mX6_intOf) (index := 142) (np := 1) (As := [.int (mc_top sf ht)]) (rest := []) dX2_operate_4 lkX2_142 mwX6_intOf (t_intOf) (by omega) rfl rfl (Nat.le_of_ble_eq_true rfl) (fun v9 G8 q7 => ?_)
  obtain ⟨rfl, e9⟩ := q7
  subst G8
  refine cj_st (st' := [.int ((mc_top sf ht) >>> ((1 : Int32) &&& 31))]) rfl ?_
  refine cj_istore_n (lv' := [(2, .int ((mc_top sf ht) >>> ((1 : Int32) &&& 31))), (0, .ref m), (1, .int 8)]) dX2_operate_7 (by decide) rfl ?_
  refine cj_pc (pc' := 8) rfl ?_
  refine cj_aload_n dX2_operate_8 rfl ?_
  refine cj_get flX2_19 dX2_operate_9 k3 rfl ?_
  refine cj_callSN (M' := mX6_intOf) (index := 142) (np := 1) (As := [.int acc]) (rest := []) dX2_operate_12 lkX2_142 mwX6_intOf (t_intOf) (by omega) rfl rfl (Nat.le_of_ble_eq_true rfl) (fun v9 G10 q9 => ?_)
  obtain ⟨rfl, e9⟩ := q9
  subst G10
  refine cj_st (st' := [.int (acc >>> ((1 : Int32) &&& 31))]) rfl ?_
  refine cj_istore_n (lv' := [(3, .int (acc >>> ((1 : Int32) &&& 31))), (2, .int ((mc_top sf ht) >>> ((1 : Int32) &&& 31))), (0, .ref m), (1, .int 8)]) dX2_operate_15 (by decide) rfl ?_
  refine cj_pc (pc' := 16) rfl ?_
  refine cj_iload_n dX2_operate_16 rfl ?_
  refine cj_tableOut (tgt := 107) dX2_operate_17 (by decide) (by decide) ?_
  refine cj_aload_n dX2_operate_107 rfl ?_
  refine cj_iload_n dX2_operate_108 rfl ?_
  refine cj_pc (pc' := 109) rfl ?_
  refine cj_iload_n dX2_operate_109 rfl ?_
  refine cj_icmp_ne (tgt := 117) dX2_operate_110 (by decide) (fun h11 => ?_) (fun h11 => ?_)
  · refine cj_iconst (v := 0) dX2_operate_117 (by decide) ?_
    refine cj_callS (M' := mX2_wordOfTruth) (d' := 1) (k' := 0) (n' := 0) (index := 163) (np := 1) (As := [.int 0]) (rest := [.ref m]) dX2_operate_118 lkX2_163 mwX2_wordOfTruth (t_wordOfTruth) (by omega) rfl rfl (Nat.le_of_ble_eq_true rfl) (fun v9 G13 q12 => ?_) (fun _ _ h => absurd h id)
    obtain ⟨rfl, e9⟩ := q12
    subst G13
    refine cj_st (st' := [.int (if (0 : Int32) = 0 then (2 : Int32) else 18), .ref m]) rfl ?_
    refine cj_pc (pc' := 121) rfl ?_
    refine cj_put flX2_19 dX2_operate_121 k3 rfl rfl (Nat.le_of_ble_eq_true rfl) ?_
    refine cj_nm (fun G14 e15 => ?_)
    have k16 : G14 m = some (.inr (2, [.ref pg, .ref o, .ref sk, .int (nI (ht - 1)), .int (if (0 : Int32) = 0 then (2 : Int32) else 18), .int env, .int at9, .int hl, .int rs])) := by rw [e15]; exact cj_up_s
    have k17 : G14 sk = some (.inl (0, 40, .inl sf)) := by rw [e15, cj_up_n (cj_nao k5 k3)]; exact k5
    have r18 : cj_fr [m] G G14 := by rw [e15]; exact cj_fr.up r6 (by simp)
    refine cj_vret rfl dX2_operate_124 ?_
    have e9 : (if (0 : Int32) = 0 then (2 : Int32) else 18) = mc_op 8 (mc_top sf ht >>> ((1 : Int32) &&& 31)) (acc >>> ((1 : Int32) &&& 31)) := by simp [mc_op, h11]
    rw [e9] at k16
    exact ⟨rfl, k16, r18⟩
  · refine cj_iconst (v := 1) dX2_operate_113 (by decide) ?_
    refine cj_goto (tgt := 118) dX2_operate_114 (by decide) ?_
    refine cj_pc (pc' := 118) rfl ?_
    refine cj_callS (M' := mX2_wordOfTruth) (d' := 1) (k' := 0) (n' := 0) (index := 163) (np := 1) (As := [.int 1]) (rest := [.ref m]) dX2_operate_118 lkX2_163 mwX2_wordOfTruth (t_wordOfTruth) (by omega) rfl rfl (Nat.le_of_ble_eq_true rfl) (fun v9 G20 q19 => ?_) (fun _ _ h => absurd h id)
    obtain ⟨rfl, e9⟩ := q19
    subst G20
    refine cj_st (st' := [.int (if (1 : Int32) = 0 then (2 : Int32) else 18), .ref m]) rfl ?_
    refine cj_put flX2_19 dX2_operate_121 k3 rfl rfl (Nat.le_of_ble_eq_true rfl) ?_
    refine cj_nm (fun G21 e22 => ?_)
    have k23 : G21 m = some (.inr (2, [.ref pg, .ref o, .ref sk, .int (nI (ht - 1)), .int (if (1 : Int32) = 0 then (2 : Int32) else 18), .int env, .int at9, .int hl, .int rs])) := by rw [e22]; exact cj_up_s
    have k24 : G21 sk = some (.inl (0, 40, .inl sf)) := by rw [e22, cj_up_n (cj_nao k5 k3)]; exact k5
    have r25 : cj_fr [m] G G21 := by rw [e22]; exact cj_fr.up r6 (by simp)
    refine cj_vret rfl dX2_operate_124 ?_
    have e9 : (if (1 : Int32) = 0 then (2 : Int32) else 18) = mc_op 8 (mc_top sf ht >>> ((1 : Int32) &&& 31)) (acc >>> ((1 : Int32) &&& 31)) := by simp [mc_op, h11]
    rw [e9] at k23
    exact ⟨rfl, k23, r25⟩
def mc_en8 (f : Nat → Int32) (t : Nat) (acc arg : Int32) : Nat → Int32 := mc_pair f t 10 arg (hp_wo f (nI t) acc 2)
def mc_en9 (f : Nat → Int32) (t : Nat) (acc arg : Int32) : Nat → Int32 := mc_pair (mc_pair f t 10 acc (hp_wo f (nI t) acc 2)) (t + 3) 10 arg (4 * nI t)
set_option maxHeartbeats 4000000 in
set_option maxRecDepth 100000 in
theorem t_enter_8 {G : cj_G} {m pg o sk ht a b c N t : Nat} {f sf : Nat → Int32} {x acc env at9 hl rs cp9 tn9 : Int32} (k_m : G m = some (.inr (2, [.ref pg, .ref o, .ref sk, .int (nI ht), .int acc, .int env, .int at9, .int hl, .int rs]))) (k_sk : G sk = some (.inl (0, 40, .inl sf))) (k_o : G o = some (.inr (1, [.ref a, .ref b, .ref c, .int (nI t), .int cp9, .int tn9]))) (k_a : G a = some (.inl (0, N, .inl f))) (hN : N ≤ 200) (n_sk_a : sk ≠ a) (hht : ht < 40) (ht9 : t ≤ N) (hk : ¬ hp_bk f (nI t) acc = 9) (ht3 : t + 3 ≤ N) : cj_T mX2_enterFunction 4 0 0 [.ref m, .int x] G (fun v G' => v = some (.int (hp_wo (mc_en8 f t acc (mc_top sf ht)) (nI (t + 3)) acc 1 >>> ((1 : Int32) &&& 31))) ∧ G' m = some (.inr (2, [.ref pg, .ref o, .ref sk, .int (nI ((ht - 1) + 1 + 1)), .int acc, .int (4 * nI t), .int at9, .int hl, .int rs])) ∧ G' sk = some (.inl (0, 40, .inl (upd (upd sf (ht - 1) env) ((ht - 1) + 1) ((2 : Int32) * x + 1)))) ∧ G' o = some (.inr (1, [.ref a, .ref b, .ref c, .int (nI (t + 3)), .int cp9, .int tn9])) ∧ G' a = some (.inl (0, N, .inl (mc_en8 f t acc (mc_top sf ht)))) ∧ cj_fr [m, sk, o, a] G G') (cj_no) := by
  refine cj_T_of (by decide) (Nat.le_of_ble_eq_true rfl) ?_
  refine cj_lvs (lv' := [(0, .ref m), (1, .int x)]) rfl ?_
  refine cj_aload_n dX2_enterFunction_0 rfl ?_
  refine cj_callV (M' := mX2_pop) (d' := 1) (k' := 0) (n' := 0) (index := 139) (np := 0) (As := []) (rest := []) dX2_enterFunction_1 lkX2_139 mwX2_pop (t_pop k_m k_sk (by omega)) (by omega) rfl rfl (Nat.le_of_ble_eq_true rfl) k_m rfl (fun v9 G2 q1 => ?_) (fun _ _ h => absurd h id)
  obtain ⟨rfl, k3, r4⟩ := q1
  have k5 : G2 sk = some (.inl (0, 40, .inl sf)) := r4 _ _ (cj_ni1 (cj_nao k_sk k_m)) k_sk
  have k6 : G2 o = some (.inr (1, [.ref a, .ref b, .ref c, .int (nI t), .int cp9, .int tn9])) := r4 _ _ (cj_ni1 (cj_noo k_o k_m (by decide))) k_o
  have k7 : G2 a = some (.inl (0, N, .inl f)) := r4 _ _ (cj_ni1 (cj_nao k_a k_m)) k_a
  have r8 : cj_fr [m, sk, o, a] G G2 := cj_fr.trans (cj_fr.rf (S := [m, sk, o, a]) (G := G)) (cj_fr.mono r4 (by simp))
  refine cj_st (st' := [.int (mc_top sf ht)]) rfl ?_
  refine cj_istore_n (lv' := [(2, .int (mc_top sf ht)), (0, .ref m), (1, .int x)]) dX2_enterFunction_4 (by decide) rfl ?_
  refine cj_aload_n dX2_enterFunction_5 rfl ?_
  refine cj_pc (pc' := 6) rfl ?_
  refine cj_aload_n dX2_enterFunction_6 rfl ?_
  refine cj_get flX2_22 dX2_enterFunction_7 k3 rfl ?_
  refine cj_callV (M' := mX2_push) (d' := 0) (k' := 0) (n' := 0) (index := 131) (np := 1) (As := [.int env]) (rest := []) dX2_enterFunction_10 lkX2_131 mwX2_push (t_push k3 k5 (by omega)) (by omega) rfl rfl (Nat.le_of_ble_eq_true rfl) k3 rfl (fun v9 G10 q9 => ?_) (fun _ _ h => absurd h id)
  obtain ⟨rfl, k11, k12, r13⟩ := q9
  have k14 : G10 o = some (.inr (1, [.ref a, .ref b, .ref c, .int (nI t), .int cp9, .int tn9])) := r13 _ _ (cj_ni2 (cj_noo k6 k3 (by decide)) (cj_noa k6 k5)) k6
  have k15 : G10 a = some (.inl (0, N, .inl f)) := r13 _ _ (cj_ni2 (cj_nao k7 k3) (Ne.symm n_sk_a)) k7
  have r16 : cj_fr [m, sk, o, a] G G10 := cj_fr.trans r8 (cj_fr.mono r13 (by simp))
  refine cj_st (st' := []) rfl ?_
  refine cj_aload_n dX2_enterFunction_13 rfl ?_
  refine cj_pc (pc' := 14) rfl ?_
  refine cj_iload_n dX2_enterFunction_14 rfl ?_
  refine cj_callSN (M' := mX6_wordOfInt) (index := 122) (np := 1) (As := [.int x]) (rest := [.ref m]) dX2_enterFunction_15 lkX2_122 mwX6_wordOfInt (t_wordOfInt) (by omega) rfl rfl (Nat.le_of_ble_eq_true rfl) (fun v9 G18 q17 => ?_)
  obtain ⟨rfl, e9⟩ := q17
  subst G18
  refine cj_st (st' := [.int ((2 : Int32) * x + 1), .ref m]) rfl ?_
  refine cj_callV (M' := mX2_push) (d' := 0) (k' := 0) (n' := 0) (index := 131) (np := 1) (As := [.int ((2 : Int32) * x + 1)]) (rest := []) dX2_enterFunction_18 lkX2_131 mwX2_push (t_push k11 k12 (by omega)) (by omega) rfl rfl (Nat.le_of_ble_eq_true rfl) k11 rfl (fun v9 G20 q19 => ?_) (fun _ _ h => absurd h id)
  obtain ⟨rfl, k21, k22, r23⟩ := q19
  have k24 : G20 o = some (.inr (1, [.ref a, .ref b, .ref c, .int (nI t), .int cp9, .int tn9])) := r23 _ _ (cj_ni2 (cj_noo k14 k11 (by decide)) (cj_noa k14 k12)) k14
  have k25 : G20 a = some (.inl (0, N, .inl f)) := r23 _ _ (cj_ni2 (cj_nao k15 k11) (Ne.symm n_sk_a)) k15
  have r26 : cj_fr [m, sk, o, a] G G20 := cj_fr.trans r16 (cj_fr.mono r23 (by simp))
  refine cj_st (st' := []) rfl ?_
  refine cj_aload_n dX2_enterFunction_21 rfl ?_
  refine cj_pc (pc' := 22) rfl ?_
  refine cj_aload_n dX2_enterFunction_22 rfl ?_
  refine cj_get flX2_39 dX2_enterFunction_23 k21 rfl ?_
  refine cj_aload_n dX2_enterFunction_26 rfl ?_
  refine cj_get flX2_19 dX2_enterFunction_27 k21 rfl ?_
  refine cj_pc (pc' := 30) rfl ?_
  refine cj_iconst (v := 2) dX2_enterFunction_30 (by decide) ?_
  refine cj_callV (M' := mX1_wordOf) (d' := 2) (k' := 0) (n' := 0) (index := 128) (np := 2) (As := [.int acc, .int 2]) (rest := [.ref m]) dX2_enterFunction_31 lkX2_128 mwX1_wordOf (t_wordOf k24 k25 (by rw [nI_toInt (by omega)]; omega) hN) (by omega) rfl rfl (Nat.le_of_ble_eq_true rfl) k24 rfl (fun v9 G28 q27 => ?_) (fun _ _ h => absurd h id)
  obtain ⟨rfl, e9⟩ := q27
  subst G28
  refine cj_st (st' := [.int (hp_wo f (nI t) acc 2), .ref m]) rfl ?_
  refine cj_put flX2_22 dX2_enterFunction_34 k21 rfl rfl (Nat.le_of_ble_eq_true rfl) ?_
  refine cj_nm (fun G29 e30 => ?_)
  have k31 : G29 m = some (.inr (2, [.ref pg, .ref o, .ref sk, .int (nI (((ht - 1) + 1) + 1)), .int acc, .int (hp_wo f (nI t) acc 2), .int at9, .int hl, .int rs])) := by rw [e30]; exact cj_up_s
  have k32 : G29 sk = some (.inl (0, 40, .inl (upd (upd sf (ht - 1) env) ((ht - 1) + 1) ((2 : Int32) * x + 1)))) := by rw [e30, cj_up_n (cj_nao k22 k21)]; exact k22
  have k33 : G29 o = some (.inr (1, [.ref a, .ref b, .ref c, .int (nI t), .int cp9, .int tn9])) := by rw [e30, cj_up_n (cj_noo k24 k21 (by decide))]; exact k24
  have k34 : G29 a = some (.inl (0, N, .inl f)) := by rw [e30, cj_up_n (cj_nao k25 k21)]; exact k25
  have r35 : cj_fr [m, sk, o, a] G G29 := by rw [e30]; exact cj_fr.up r26 (by simp)
  refine cj_aload_n dX2_enterFunction_37 rfl ?_
  refine cj_pc (pc' := 38) rfl ?_
  refine cj_get flX2_39 dX2_enterFunction_38 k31 rfl ?_
  refine cj_aload_n dX2_enterFunction_41 rfl ?_
  refine cj_get flX2_19 dX2_enterFunction_42 k31 rfl ?_
  refine cj_callV (M' := mX1_blockKind) (index := 101) (np := 1) (As := [.int acc]) (rest := []) dX2_enterFunction_45 lkX2_101 mwX1_blockKind (t_blockKind k33 k34 (by rw [nI_toInt (by omega)]; omega)) (by omega) rfl rfl (Nat.le_of_ble_eq_true rfl) k33 rfl (fun v9 G37 q36 => ?_) (fun _ _ h => absurd h id)
  obtain ⟨rfl, e9⟩ := q36
  subst G37
  refine cj_st (st' := [.int (hp_bk f (nI t) acc)]) rfl ?_
  refine cj_pc (pc' := 48) rfl ?_
  refine cj_bipush (v := 9) dX2_enterFunction_48 (by decide) ?_
  refine cj_icmp_ne (tgt := 61) dX2_enterFunction_50 (by decide) (fun h38 => ?_) (fun h38 => absurd h38 (hk))
  refine cj_aload_n dX2_enterFunction_61 rfl ?_
  refine cj_iload_n dX2_enterFunction_62 rfl ?_
  refine cj_pc (pc' := 63) rfl ?_
  refine cj_callV (M' := mX2_bind) (d' := 3) (k' := 0) (n' := 0) (index := 148) (np := 1) (As := [.int (mc_top sf ht)]) (rest := []) dX2_enterFunction_63 lkX2_148 mwX2_bind (t_bind k31 k33 k34 hN (by omega)) (by omega) rfl rfl (Nat.le_of_ble_eq_true rfl) k31 rfl (fun v9 G40 q39 => ?_) (fun _ _ h => absurd h id)
  obtain ⟨rfl, k41, k42, k43, r44⟩ := q39
  have k45 : G40 sk = some (.inl (0, 40, .inl (upd (upd sf (ht - 1) env) ((ht - 1) + 1) ((2 : Int32) * x + 1)))) := r44 _ _ (cj_ni3 (cj_nao k32 k31) (cj_nao k32 k33) n_sk_a) k32
  have r46 : cj_fr [m, sk, o, a] G G40 := cj_fr.trans r35 (cj_fr.mono r44 (by simp))
  refine cj_st (st' := []) rfl ?_
  refine cj_aload_n dX2_enterFunction_66 rfl ?_
  refine cj_get flX2_39 dX2_enterFunction_67 k41 rfl ?_
  refine cj_aload_n dX2_enterFunction_70 rfl ?_
  refine cj_pc (pc' := 71) rfl ?_
  refine cj_get flX2_19 dX2_enterFunction_71 k41 rfl ?_
  refine cj_iconst (v := 1) dX2_enterFunction_74 (by decide) ?_
  refine cj_callV (M' := mX1_wordOf) (d' := 2) (k' := 0) (n' := 0) (index := 128) (np := 2) (As := [.int acc, .int 1]) (rest := []) dX2_enterFunction_75 lkX2_128 mwX1_wordOf (t_wordOf k42 k43 (by rw [nI_toInt (by omega)]; omega) hN) (by omega) rfl rfl (Nat.le_of_ble_eq_true rfl) k42 rfl (fun v9 G48 q47 => ?_) (fun _ _ h => absurd h id)
  obtain ⟨rfl, e9⟩ := q47
  subst G48
  refine cj_st (st' := [.int (hp_wo (mc_pair f t 10 (mc_top sf ht) (hp_wo f (nI t) acc 2)) (nI (t + 3)) acc 1)]) rfl ?_
  refine cj_callSN (M' := mX6_intOf) (index := 142) (np := 1) (As := [.int (hp_wo (mc_pair f t 10 (mc_top sf ht) (hp_wo f (nI t) acc 2)) (nI (t + 3)) acc 1)]) (rest := []) dX2_enterFunction_78 lkX2_142 mwX6_intOf (t_intOf) (by omega) rfl rfl (Nat.le_of_ble_eq_true rfl) (fun v9 G50 q49 => ?_)
  obtain ⟨rfl, e9⟩ := q49
  subst G50
  refine cj_st (st' := [.int ((hp_wo (mc_pair f t 10 (mc_top sf ht) (hp_wo f (nI t) acc 2)) (nI (t + 3)) acc 1) >>> ((1 : Int32) &&& 31))]) rfl ?_
  refine cj_pc (pc' := 81) rfl ?_
  refine cj_iret rfl dX2_enterFunction_81 ?_
  exact ⟨rfl, k41, k45, k42, k43, r46⟩
set_option maxHeartbeats 4000000 in
set_option maxRecDepth 100000 in
theorem t_enter_9 {G : cj_G} {m pg o sk ht a b c N t : Nat} {f sf : Nat → Int32} {x acc env at9 hl rs cp9 tn9 : Int32} (k_m : G m = some (.inr (2, [.ref pg, .ref o, .ref sk, .int (nI ht), .int acc, .int env, .int at9, .int hl, .int rs]))) (k_sk : G sk = some (.inl (0, 40, .inl sf))) (k_o : G o = some (.inr (1, [.ref a, .ref b, .ref c, .int (nI t), .int cp9, .int tn9]))) (k_a : G a = some (.inl (0, N, .inl f))) (hN : N ≤ 200) (n_sk_a : sk ≠ a) (hht : ht < 40) (ht9 : t ≤ N) (hk : hp_bk f (nI t) acc = 9) (ht6 : t + 6 ≤ N) : cj_T mX2_enterFunction 4 0 0 [.ref m, .int x] G (fun v G' => v = some (.int (hp_wo (mc_en9 f t acc (mc_top sf ht)) (nI (t + 3 + 3)) acc 1 >>> ((1 : Int32) &&& 31))) ∧ G' m = some (.inr (2, [.ref pg, .ref o, .ref sk, .int (nI ((ht - 1) + 1 + 1)), .int acc, .int (4 * nI (t + 3)), .int at9, .int hl, .int rs])) ∧ G' sk = some (.inl (0, 40, .inl (upd (upd sf (ht - 1) env) ((ht - 1) + 1) ((2 : Int32) * x + 1)))) ∧ G' o = some (.inr (1, [.ref a, .ref b, .ref c, .int (nI (t + 3 + 3)), .int cp9, .int tn9])) ∧ G' a = some (.inl (0, N, .inl (mc_en9 f t acc (mc_top sf ht)))) ∧ cj_fr [m, sk, o, a] G G') (cj_no) := by
  refine cj_T_of (by decide) (Nat.le_of_ble_eq_true rfl) ?_
  refine cj_lvs (lv' := [(0, .ref m), (1, .int x)]) rfl ?_
  refine cj_aload_n dX2_enterFunction_0 rfl ?_
  refine cj_callV (M' := mX2_pop) (d' := 1) (k' := 0) (n' := 0) (index := 139) (np := 0) (As := []) (rest := []) dX2_enterFunction_1 lkX2_139 mwX2_pop (t_pop k_m k_sk (by omega)) (by omega) rfl rfl (Nat.le_of_ble_eq_true rfl) k_m rfl (fun v9 G2 q1 => ?_) (fun _ _ h => absurd h id)
  obtain ⟨rfl, k3, r4⟩ := q1
  have k5 : G2 sk = some (.inl (0, 40, .inl sf)) := r4 _ _ (cj_ni1 (cj_nao k_sk k_m)) k_sk
  have k6 : G2 o = some (.inr (1, [.ref a, .ref b, .ref c, .int (nI t), .int cp9, .int tn9])) := r4 _ _ (cj_ni1 (cj_noo k_o k_m (by decide))) k_o
  have k7 : G2 a = some (.inl (0, N, .inl f)) := r4 _ _ (cj_ni1 (cj_nao k_a k_m)) k_a
  have r8 : cj_fr [m, sk, o, a] G G2 := cj_fr.trans (cj_fr.rf (S := [m, sk, o, a]) (G := G)) (cj_fr.mono r4 (by simp))
  refine cj_st (st' := [.int (mc_top sf ht)]) rfl ?_
  refine cj_istore_n (lv' := [(2, .int (mc_top sf ht)), (0, .ref m), (1, .int x)]) dX2_enterFunction_4 (by decide) rfl ?_
  refine cj_aload_n dX2_enterFunction_5 rfl ?_
  refine cj_pc (pc' := 6) rfl ?_
  refine cj_aload_n dX2_enterFunction_6 rfl ?_
  refine cj_get flX2_22 dX2_enterFunction_7 k3 rfl ?_
  refine cj_callV (M' := mX2_push) (d' := 0) (k' := 0) (n' := 0) (index := 131) (np := 1) (As := [.int env]) (rest := []) dX2_enterFunction_10 lkX2_131 mwX2_push (t_push k3 k5 (by omega)) (by omega) rfl rfl (Nat.le_of_ble_eq_true rfl) k3 rfl (fun v9 G10 q9 => ?_) (fun _ _ h => absurd h id)
  obtain ⟨rfl, k11, k12, r13⟩ := q9
  have k14 : G10 o = some (.inr (1, [.ref a, .ref b, .ref c, .int (nI t), .int cp9, .int tn9])) := r13 _ _ (cj_ni2 (cj_noo k6 k3 (by decide)) (cj_noa k6 k5)) k6
  have k15 : G10 a = some (.inl (0, N, .inl f)) := r13 _ _ (cj_ni2 (cj_nao k7 k3) (Ne.symm n_sk_a)) k7
  have r16 : cj_fr [m, sk, o, a] G G10 := cj_fr.trans r8 (cj_fr.mono r13 (by simp))
  refine cj_st (st' := []) rfl ?_
  refine cj_aload_n dX2_enterFunction_13 rfl ?_
  refine cj_pc (pc' := 14) rfl ?_
  refine cj_iload_n dX2_enterFunction_14 rfl ?_
  refine cj_callSN (M' := mX6_wordOfInt) (index := 122) (np := 1) (As := [.int x]) (rest := [.ref m]) dX2_enterFunction_15 lkX2_122 mwX6_wordOfInt (t_wordOfInt) (by omega) rfl rfl (Nat.le_of_ble_eq_true rfl) (fun v9 G18 q17 => ?_)
  obtain ⟨rfl, e9⟩ := q17
  subst G18
  refine cj_st (st' := [.int ((2 : Int32) * x + 1), .ref m]) rfl ?_
  refine cj_callV (M' := mX2_push) (d' := 0) (k' := 0) (n' := 0) (index := 131) (np := 1) (As := [.int ((2 : Int32) * x + 1)]) (rest := []) dX2_enterFunction_18 lkX2_131 mwX2_push (t_push k11 k12 (by omega)) (by omega) rfl rfl (Nat.le_of_ble_eq_true rfl) k11 rfl (fun v9 G20 q19 => ?_) (fun _ _ h => absurd h id)
  obtain ⟨rfl, k21, k22, r23⟩ := q19
  have k24 : G20 o = some (.inr (1, [.ref a, .ref b, .ref c, .int (nI t), .int cp9, .int tn9])) := r23 _ _ (cj_ni2 (cj_noo k14 k11 (by decide)) (cj_noa k14 k12)) k14
  have k25 : G20 a = some (.inl (0, N, .inl f)) := r23 _ _ (cj_ni2 (cj_nao k15 k11) (Ne.symm n_sk_a)) k15
  have r26 : cj_fr [m, sk, o, a] G G20 := cj_fr.trans r16 (cj_fr.mono r23 (by simp))
  refine cj_st (st' := []) rfl ?_
  refine cj_aload_n dX2_enterFunction_21 rfl ?_
  refine cj_pc (pc' := 22) rfl ?_
  refine cj_aload_n dX2_enterFunction_22 rfl ?_
  refine cj_get flX2_39 dX2_enterFunction_23 k21 rfl ?_
  refine cj_aload_n dX2_enterFunction_26 rfl ?_
  refine cj_get flX2_19 dX2_enterFunction_27 k21 rfl ?_
  refine cj_pc (pc' := 30) rfl ?_
  refine cj_iconst (v := 2) dX2_enterFunction_30 (by decide) ?_
  refine cj_callV (M' := mX1_wordOf) (d' := 2) (k' := 0) (n' := 0) (index := 128) (np := 2) (As := [.int acc, .int 2]) (rest := [.ref m]) dX2_enterFunction_31 lkX2_128 mwX1_wordOf (t_wordOf k24 k25 (by rw [nI_toInt (by omega)]; omega) hN) (by omega) rfl rfl (Nat.le_of_ble_eq_true rfl) k24 rfl (fun v9 G28 q27 => ?_) (fun _ _ h => absurd h id)
  obtain ⟨rfl, e9⟩ := q27
  subst G28
  refine cj_st (st' := [.int (hp_wo f (nI t) acc 2), .ref m]) rfl ?_
  refine cj_put flX2_22 dX2_enterFunction_34 k21 rfl rfl (Nat.le_of_ble_eq_true rfl) ?_
  refine cj_nm (fun G29 e30 => ?_)
  have k31 : G29 m = some (.inr (2, [.ref pg, .ref o, .ref sk, .int (nI (((ht - 1) + 1) + 1)), .int acc, .int (hp_wo f (nI t) acc 2), .int at9, .int hl, .int rs])) := by rw [e30]; exact cj_up_s
  have k32 : G29 sk = some (.inl (0, 40, .inl (upd (upd sf (ht - 1) env) ((ht - 1) + 1) ((2 : Int32) * x + 1)))) := by rw [e30, cj_up_n (cj_nao k22 k21)]; exact k22
  have k33 : G29 o = some (.inr (1, [.ref a, .ref b, .ref c, .int (nI t), .int cp9, .int tn9])) := by rw [e30, cj_up_n (cj_noo k24 k21 (by decide))]; exact k24
  have k34 : G29 a = some (.inl (0, N, .inl f)) := by rw [e30, cj_up_n (cj_nao k25 k21)]; exact k25
  have r35 : cj_fr [m, sk, o, a] G G29 := by rw [e30]; exact cj_fr.up r26 (by simp)
  refine cj_aload_n dX2_enterFunction_37 rfl ?_
  refine cj_pc (pc' := 38) rfl ?_
  refine cj_get flX2_39 dX2_enterFunction_38 k31 rfl ?_
  refine cj_aload_n dX2_enterFunction_41 rfl ?_
  refine cj_get flX2_19 dX2_enterFunction_42 k31 rfl ?_
  refine cj_callV (M' := mX1_blockKind) (index := 101) (np := 1) (As := [.int acc]) (rest := []) dX2_enterFunction_45 lkX2_101 mwX1_blockKind (t_blockKind k33 k34 (by rw [nI_toInt (by omega)]; omega)) (by omega) rfl rfl (Nat.le_of_ble_eq_true rfl) k33 rfl (fun v9 G37 q36 => ?_) (fun _ _ h => absurd h id)
  obtain ⟨rfl, e9⟩ := q36
  subst G37
  refine cj_st (st' := [.int (hp_bk f (nI t) acc)]) rfl ?_
  refine cj_pc (pc' := 48) rfl ?_
  refine cj_bipush (v := 9) dX2_enterFunction_48 (by decide) ?_
  refine cj_icmp_ne (tgt := 61) dX2_enterFunction_50 (by decide) (fun h38 => absurd h38 (Classical.not_not.mpr hk)) (fun h38 => ?_)
  refine cj_aload_n dX2_enterFunction_53 rfl ?_
  refine cj_aload_n dX2_enterFunction_54 rfl ?_
  refine cj_pc (pc' := 55) rfl ?_
  refine cj_get flX2_19 dX2_enterFunction_55 k31 rfl ?_
  refine cj_callV (M' := mX2_bind) (d' := 3) (k' := 0) (n' := 0) (index := 148) (np := 1) (As := [.int acc]) (rest := []) dX2_enterFunction_58 lkX2_148 mwX2_bind (t_bind k31 k33 k34 hN (by omega)) (by omega) rfl rfl (Nat.le_of_ble_eq_true rfl) k31 rfl (fun v9 G40 q39 => ?_) (fun _ _ h => absurd h id)
  obtain ⟨rfl, k41, k42, k43, r44⟩ := q39
  have k45 : G40 sk = some (.inl (0, 40, .inl (upd (upd sf (ht - 1) env) ((ht - 1) + 1) ((2 : Int32) * x + 1)))) := r44 _ _ (cj_ni3 (cj_nao k32 k31) (cj_nao k32 k33) n_sk_a) k32
  have r46 : cj_fr [m, sk, o, a] G G40 := cj_fr.trans r35 (cj_fr.mono r44 (by simp))
  refine cj_st (st' := []) rfl ?_
  refine cj_aload_n dX2_enterFunction_61 rfl ?_
  refine cj_iload_n dX2_enterFunction_62 rfl ?_
  refine cj_pc (pc' := 63) rfl ?_
  refine cj_callV (M' := mX2_bind) (d' := 3) (k' := 0) (n' := 0) (index := 148) (np := 1) (As := [.int (mc_top sf ht)]) (rest := []) dX2_enterFunction_63 lkX2_148 mwX2_bind (t_bind k41 k42 k43 hN (by omega)) (by omega) rfl rfl (Nat.le_of_ble_eq_true rfl) k41 rfl (fun v9 G48 q47 => ?_) (fun _ _ h => absurd h id)
  obtain ⟨rfl, k49, k50, k51, r52⟩ := q47
  have k53 : G48 sk = some (.inl (0, 40, .inl (upd (upd sf (ht - 1) env) ((ht - 1) + 1) ((2 : Int32) * x + 1)))) := r52 _ _ (cj_ni3 (cj_nao k45 k41) (cj_nao k45 k42) n_sk_a) k45
  have r54 : cj_fr [m, sk, o, a] G G48 := cj_fr.trans r46 (cj_fr.mono r52 (by simp))
  refine cj_st (st' := []) rfl ?_
  refine cj_aload_n dX2_enterFunction_66 rfl ?_
  refine cj_get flX2_39 dX2_enterFunction_67 k49 rfl ?_
  refine cj_aload_n dX2_enterFunction_70 rfl ?_
  refine cj_pc (pc' := 71) rfl ?_
  refine cj_get flX2_19 dX2_enterFunction_71 k49 rfl ?_
  refine cj_iconst (v := 1) dX2_enterFunction_74 (by decide) ?_
  refine cj_callV (M' := mX1_wordOf) (d' := 2) (k' := 0) (n' := 0) (index := 128) (np := 2) (As := [.int acc, .int 1]) (rest := []) dX2_enterFunction_75 lkX2_128 mwX1_wordOf (t_wordOf k50 k51 (by rw [nI_toInt (by omega)]; omega) hN) (by omega) rfl rfl (Nat.le_of_ble_eq_true rfl) k50 rfl (fun v9 G56 q55 => ?_) (fun _ _ h => absurd h id)
  obtain ⟨rfl, e9⟩ := q55
  subst G56
  refine cj_st (st' := [.int (hp_wo (mc_pair (mc_pair f t 10 acc (hp_wo f (nI t) acc 2)) (t + 3) 10 (mc_top sf ht) (4 * nI t)) (nI ((t + 3) + 3)) acc 1)]) rfl ?_
  refine cj_callSN (M' := mX6_intOf) (index := 142) (np := 1) (As := [.int (hp_wo (mc_pair (mc_pair f t 10 acc (hp_wo f (nI t) acc 2)) (t + 3) 10 (mc_top sf ht) (4 * nI t)) (nI ((t + 3) + 3)) acc 1)]) (rest := []) dX2_enterFunction_78 lkX2_142 mwX6_intOf (t_intOf) (by omega) rfl rfl (Nat.le_of_ble_eq_true rfl) (fun v9 G58 q57 => ?_)
  obtain ⟨rfl, e9⟩ := q57
  subst G58
  refine cj_st (st' := [.int ((hp_wo (mc_pair (mc_pair f t 10 acc (hp_wo f (nI t) acc 2)) (t + 3) 10 (mc_top sf ht) (4 * nI t)) (nI ((t + 3) + 3)) acc 1) >>> ((1 : Int32) &&& 31))]) rfl ?_
  refine cj_pc (pc' := 81) rfl ?_
  refine cj_iret rfl dX2_enterFunction_81 ?_
  exact ⟨rfl, k49, k53, k50, k51, r54⟩
