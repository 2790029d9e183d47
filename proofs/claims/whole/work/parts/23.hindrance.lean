/-! ClosureHeap$Machine: hindrance, over what isWrong and wordsMade answer; beginAnew; live -/
set_option maxHeartbeats 4000000 in
set_option maxRecDepth 100000 in
theorem t_hind_1 {G : cj_G} {m pg o sk ht a b c N t wm : Nat} {f g mv sf : Nat → Int32} {kd x wr acc env at9 hl rs cp9 tn9 : Int32} (k_m : G m = some (.inr (2, [.ref pg, .ref o, .ref sk, .int (nI ht), .int acc, .int env, .int at9, .int hl, .int rs]))) (k_a : G a = some (.inl (0, N, .inl f))) (k_sk : G sk = some (.inl (0, 40, .inl sf))) (k_o : G o = some (.inr (1, [.ref a, .ref b, .ref c, .int (nI t), .int cp9, .int tn9]))) (k_b : G b = some (.inl (0, N, .inl g))) (k_c : G c = some (.inl (0, N, .inl mv))) (n_a_b : a ≠ b) (n_a_c : a ≠ c) (n_b_c : b ≠ c) (n_sk_a : sk ≠ a) (n_sk_b : sk ≠ b) (n_sk_c : sk ≠ c) (hN : N ≤ 200) (ht9 : t ≤ N) (hht : ht ≤ 40) (hW : cj_T mX2_isWrong 4 0 0 [.ref m, .int kd, .int x] G (cj_rd G wr) cj_no) (hwr : ¬ wr = 0) : cj_T mX2_hindrance 5 0 0 [.ref m, .int kd, .int x] G (cj_rd G 1) (cj_no) := by
  refine cj_T_of (by decide) (Nat.le_of_ble_eq_true rfl) ?_
  refine cj_lvs (lv' := [(0, .ref m), (1, .int kd), (2, .int x)]) rfl ?_
  refine cj_aload_n dX2_hindrance_0 rfl ?_
  refine cj_iload_n dX2_hindrance_1 rfl ?_
  refine cj_iload_n dX2_hindrance_2 rfl ?_
  refine cj_callV (M' := mX2_isWrong) (d' := 4) (k' := 0) (n' := 0) (index := 64) (np := 2) (As := [.int kd, .int x]) (rest := []) dX2_hindrance_3 lkX2_64 mwX2_isWrong (hW) (by omega) rfl rfl (Nat.le_of_ble_eq_true rfl) k_m rfl (fun v9 G2 q1 => ?_) (fun _ _ h => absurd h id)
  obtain ⟨rfl, e9⟩ := q1
  subst G2
  refine cj_st (st' := [.int wr]) rfl ?_
  refine cj_pc (pc' := 6) rfl ?_
  refine cj_if_eq (tgt := 11) dX2_hindrance_6 (by decide) (fun h3 => absurd h3 (hwr)) (fun h3 => ?_)
  refine cj_iconst (v := 1) dX2_hindrance_9 (by decide) ?_
  refine cj_iret rfl dX2_hindrance_10 ?_
  exact ⟨rfl, rfl⟩
set_option maxHeartbeats 4000000 in
set_option maxRecDepth 100000 in
theorem t_hind_3 {G : cj_G} {m pg o sk ht a b c N t wm : Nat} {f g mv sf : Nat → Int32} {kd x wr acc env at9 hl rs cp9 tn9 : Int32} (k_m : G m = some (.inr (2, [.ref pg, .ref o, .ref sk, .int (nI ht), .int acc, .int env, .int at9, .int hl, .int rs]))) (k_a : G a = some (.inl (0, N, .inl f))) (k_sk : G sk = some (.inl (0, 40, .inl sf))) (k_o : G o = some (.inr (1, [.ref a, .ref b, .ref c, .int (nI t), .int cp9, .int tn9]))) (k_b : G b = some (.inl (0, N, .inl g))) (k_c : G c = some (.inl (0, N, .inl mv))) (n_a_b : a ≠ b) (n_a_c : a ≠ c) (n_b_c : b ≠ c) (n_sk_a : sk ≠ a) (n_sk_b : sk ≠ b) (n_sk_c : sk ≠ c) (hN : N ≤ 200) (ht9 : t ≤ N) (hht : ht ≤ 40) (hW : cj_T mX2_isWrong 4 0 0 [.ref m, .int kd, .int x] G (cj_rd G wr) cj_no) (hwr : wr = 0) (hdp : 40 < nI ht + ch_b (kd = 3 ∨ kd = 13)) : cj_T mX2_hindrance 5 0 0 [.ref m, .int kd, .int x] G (cj_rd G 3) (cj_no) := by
  refine cj_T_of (by decide) (Nat.le_of_ble_eq_true rfl) ?_
  refine cj_lvs (lv' := [(0, .ref m), (1, .int kd), (2, .int x)]) rfl ?_
  refine cj_aload_n dX2_hindrance_0 rfl ?_
  refine cj_iload_n dX2_hindrance_1 rfl ?_
  refine cj_iload_n dX2_hindrance_2 rfl ?_
  refine cj_callV (M' := mX2_isWrong) (d' := 4) (k' := 0) (n' := 0) (index := 64) (np := 2) (As := [.int kd, .int x]) (rest := []) dX2_hindrance_3 lkX2_64 mwX2_isWrong (hW) (by omega) rfl rfl (Nat.le_of_ble_eq_true rfl) k_m rfl (fun v9 G2 q1 => ?_) (fun _ _ h => absurd h id)
  obtain ⟨rfl, e9⟩ := q1
  subst G2
  refine cj_st (st' := [.int wr]) rfl ?_
  refine cj_pc (pc' := 6) rfl ?_
  refine cj_if_eq (tgt := 11) dX2_hindrance_6 (by decide) (fun h3 => ?_) (fun h3 => absurd h3 (Classical.not_not.mpr hwr))
  refine cj_aload_n dX2_hindrance_11 rfl ?_
  refine cj_get flX2_15 dX2_hindrance_12 k_m rfl ?_
  refine cj_iload_n dX2_hindrance_15 rfl ?_
  refine cj_pc (pc' := 16) rfl ?_
  refine cj_callS (M' := mX2_growth) (d' := 0) (k' := 0) (n' := 0) (index := 68) (np := 1) (As := [.int kd]) (rest := [.int (nI ht)]) dX2_hindrance_16 lkX2_68 mwX2_growth (t_growth) (by omega) rfl rfl (Nat.le_of_ble_eq_true rfl) (fun v9 G5 q4 => ?_) (fun _ _ h => absurd h id)
  obtain ⟨rfl, e9⟩ := q4
  subst G5
  refine cj_st (st' := [.int (ch_b (kd = 3 ∨ kd = 13)), .int (nI ht)]) rfl ?_
  refine cj_iadd dX2_hindrance_19 ?_
  refine cj_bipush (v := 40) dX2_hindrance_20 (by decide) ?_
  refine cj_icmp_le (tgt := 27) dX2_hindrance_22 (by decide) (fun h6 => absurd h6 (Int32.not_le.mpr hdp)) (fun h6 => ?_)
  refine cj_pc (pc' := 25) rfl ?_
  refine cj_iconst (v := 3) dX2_hindrance_25 (by decide) ?_
  refine cj_iret rfl dX2_hindrance_26 ?_
  exact ⟨rfl, rfl⟩
theorem mc_fits {wm N t : Nat} (ht : t ≤ N) (hN : N ≤ 200) (hw : wm < 1000) : (nI wm ≤ nI N - nI t) ↔ wm + t ≤ N := by
  rw [pk_sub ht, nI_leI (by omega) (by omega)]; omega
theorem ch_bn {p : Prop} [Decidable p] (h : p) : ¬ ch_b p = 0 := fun e => (ch_b0.mp e) h
theorem ch_bz {p : Prop} [Decidable p] (h : ¬ p) : ch_b p = 0 := ch_b0.mpr h
set_option maxHeartbeats 4000000 in
set_option maxRecDepth 100000 in
theorem t_hind_0 {G : cj_G} {m pg o sk ht a b c N t wm : Nat} {f g mv sf : Nat → Int32} {kd x wr acc env at9 hl rs cp9 tn9 : Int32} (k_m : G m = some (.inr (2, [.ref pg, .ref o, .ref sk, .int (nI ht), .int acc, .int env, .int at9, .int hl, .int rs]))) (k_a : G a = some (.inl (0, N, .inl f))) (k_sk : G sk = some (.inl (0, 40, .inl sf))) (k_o : G o = some (.inr (1, [.ref a, .ref b, .ref c, .int (nI t), .int cp9, .int tn9]))) (k_b : G b = some (.inl (0, N, .inl g))) (k_c : G c = some (.inl (0, N, .inl mv))) (n_a_b : a ≠ b) (n_a_c : a ≠ c) (n_b_c : b ≠ c) (n_sk_a : sk ≠ a) (n_sk_b : sk ≠ b) (n_sk_c : sk ≠ c) (hN : N ≤ 200) (ht9 : t ≤ N) (hht : ht ≤ 40) (hW : cj_T mX2_isWrong 4 0 0 [.ref m, .int kd, .int x] G (cj_rd G wr) cj_no) (hwr : wr = 0) (hdp : ¬ 40 < nI ht + ch_b (kd = 3 ∨ kd = 13)) (hM : cj_T mX2_wordsMade 2 0 0 [.ref m, .int kd, .int x] G (cj_rd G (nI wm)) cj_no) (hwm : wm < 1000) (hrm : wm + t ≤ N) : cj_T mX2_hindrance 5 0 0 [.ref m, .int kd, .int x] G (cj_rd G 0) (cj_no) := by
  refine cj_T_of (by decide) (Nat.le_of_ble_eq_true rfl) ?_
  refine cj_lvs (lv' := [(0, .ref m), (1, .int kd), (2, .int x)]) rfl ?_
  refine cj_aload_n dX2_hindrance_0 rfl ?_
  refine cj_iload_n dX2_hindrance_1 rfl ?_
  refine cj_iload_n dX2_hindrance_2 rfl ?_
  refine cj_callV (M' := mX2_isWrong) (d' := 4) (k' := 0) (n' := 0) (index := 64) (np := 2) (As := [.int kd, .int x]) (rest := []) dX2_hindrance_3 lkX2_64 mwX2_isWrong (hW) (by omega) rfl rfl (Nat.le_of_ble_eq_true rfl) k_m rfl (fun v9 G2 q1 => ?_) (fun _ _ h => absurd h id)
  obtain ⟨rfl, e9⟩ := q1
  subst G2
  refine cj_st (st' := [.int wr]) rfl ?_
  refine cj_pc (pc' := 6) rfl ?_
  refine cj_if_eq (tgt := 11) dX2_hindrance_6 (by decide) (fun h3 => ?_) (fun h3 => absurd h3 (Classical.not_not.mpr hwr))
  refine cj_aload_n dX2_hindrance_11 rfl ?_
  refine cj_get flX2_15 dX2_hindrance_12 k_m rfl ?_
  refine cj_iload_n dX2_hindrance_15 rfl ?_
  refine cj_pc (pc' := 16) rfl ?_
  refine cj_callS (M' := mX2_growth) (d' := 0) (k' := 0) (n' := 0) (index := 68) (np := 1) (As := [.int kd]) (rest := [.int (nI ht)]) dX2_hindrance_16 lkX2_68 mwX2_growth (t_growth) (by omega) rfl rfl (Nat.le_of_ble_eq_true rfl) (fun v9 G5 q4 => ?_) (fun _ _ h => absurd h id)
  obtain ⟨rfl, e9⟩ := q4
  subst G5
  refine cj_st (st' := [.int (ch_b (kd = 3 ∨ kd = 13)), .int (nI ht)]) rfl ?_
  refine cj_iadd dX2_hindrance_19 ?_
  refine cj_bipush (v := 40) dX2_hindrance_20 (by decide) ?_
  refine cj_icmp_le (tgt := 27) dX2_hindrance_22 (by decide) (fun h6 => ?_) (fun h6 => absurd h6 (Classical.not_not.mpr (Int32.not_lt.mp hdp)))
  refine cj_pc (pc' := 27) rfl ?_
  refine cj_aload_n dX2_hindrance_27 rfl ?_
  refine cj_iload_n dX2_hindrance_28 rfl ?_
  refine cj_iload_n dX2_hindrance_29 rfl ?_
  refine cj_callV (M' := mX2_wordsMade) (d' := 2) (k' := 0) (n' := 0) (index := 72) (np := 2) (As := [.int kd, .int x]) (rest := []) dX2_hindrance_30 lkX2_72 mwX2_wordsMade (hM) (by omega) rfl rfl (Nat.le_of_ble_eq_true rfl) k_m rfl (fun v9 G8 q7 => ?_) (fun _ _ h => absurd h id)
  obtain ⟨rfl, e9⟩ := q7
  subst G8
  refine cj_st (st' := [.int (nI wm)]) rfl ?_
  refine cj_pc (pc' := 33) rfl ?_
  refine cj_istore_n (lv' := [(3, .int (nI wm)), (0, .ref m), (1, .int kd), (2, .int x)]) dX2_hindrance_33 (by decide) rfl ?_
  refine cj_aload_n dX2_hindrance_34 rfl ?_
  refine cj_get flX2_39 dX2_hindrance_35 k_m rfl ?_
  refine cj_iload_n dX2_hindrance_38 rfl ?_
  refine cj_pc (pc' := 39) rfl ?_
  refine cj_callV (M' := mX1_hasRoomFor) (d' := 0) (k' := 0) (n' := 0) (index := 75) (np := 1) (As := [.int (nI wm)]) (rest := []) dX2_hindrance_39 lkX2_75 mwX1_hasRoomFor (t_hasRoomFor k_o k_a hN (by omega)) (by omega) rfl rfl (Nat.le_of_ble_eq_true rfl) k_o rfl (fun v9 G10 q9 => ?_) (fun _ _ h => absurd h id)
  obtain ⟨rfl, e9⟩ := q9
  subst G10
  refine cj_st (st' := [.int (ch_b ((nI wm) ≤ nI N - nI t))]) rfl ?_
  refine cj_if_ne (tgt := 49) dX2_hindrance_42 (by decide) (fun h11 => ?_) (fun h11 => absurd h11 (ch_bn ((mc_fits ht9 hN hwm).mpr hrm)))
  refine cj_aload_n dX2_hindrance_49 rfl ?_
  refine cj_get flX2_39 dX2_hindrance_50 k_m rfl ?_
  refine cj_pc (pc' := 53) rfl ?_
  refine cj_iload_n dX2_hindrance_53 rfl ?_
  refine cj_callV (M' := mX1_hasRoomFor) (d' := 0) (k' := 0) (n' := 0) (index := 75) (np := 1) (As := [.int (nI wm)]) (rest := []) dX2_hindrance_54 lkX2_75 mwX1_hasRoomFor (t_hasRoomFor k_o k_a hN (by omega)) (by omega) rfl rfl (Nat.le_of_ble_eq_true rfl) k_o rfl (fun v9 G13 q12 => ?_) (fun _ _ h => absurd h id)
  obtain ⟨rfl, e9⟩ := q12
  subst G13
  refine cj_st (st' := [.int (ch_b ((nI wm) ≤ nI N - nI t))]) rfl ?_
  refine cj_if_eq (tgt := 64) dX2_hindrance_57 (by decide) (fun h14 => absurd h14 (ch_bn ((mc_fits ht9 hN hwm).mpr hrm))) (fun h14 => ?_)
  refine cj_iconst (v := 0) dX2_hindrance_60 (by decide) ?_
  refine cj_pc (pc' := 61) rfl ?_
  refine cj_goto (tgt := 65) dX2_hindrance_61 (by decide) ?_
  refine cj_iret rfl dX2_hindrance_65 ?_
  exact ⟨rfl, rfl⟩
set_option maxHeartbeats 4000000 in
set_option maxRecDepth 100000 in
theorem t_hind_gc0 {G : cj_G} {m pg o sk ht a b c N t wm : Nat} {f g mv sf : Nat → Int32} {kd x wr acc env at9 hl rs cp9 tn9 : Int32} (k_m : G m = some (.inr (2, [.ref pg, .ref o, .ref sk, .int (nI ht), .int acc, .int env, .int at9, .int hl, .int rs]))) (k_a : G a = some (.inl (0, N, .inl f))) (k_sk : G sk = some (.inl (0, 40, .inl sf))) (k_o : G o = some (.inr (1, [.ref a, .ref b, .ref c, .int (nI t), .int cp9, .int tn9]))) (k_b : G b = some (.inl (0, N, .inl g))) (k_c : G c = some (.inl (0, N, .inl mv))) (n_a_b : a ≠ b) (n_a_c : a ≠ c) (n_b_c : b ≠ c) (n_sk_a : sk ≠ a) (n_sk_b : sk ≠ b) (n_sk_c : sk ≠ c) (hN : N ≤ 200) (ht9 : t ≤ N) (hht : ht ≤ 40) (hW : cj_T mX2_isWrong 4 0 0 [.ref m, .int kd, .int x] G (cj_rd G wr) cj_no) (hwr : wr = 0) (hdp : ¬ 40 < nI ht + ch_b (kd = 3 ∨ kd = 13)) (hM : cj_T mX2_wordsMade 2 0 0 [.ref m, .int kd, .int x] G (cj_rd G (nI wm)) cj_no) (hwm : wm < 1000) (hrm : ¬ wm + t ≤ N) (hct : (gc_col N f t acc env sf ht g).2.2.2.2.2 ≤ N) (hr2 : wm + (gc_col N f t acc env sf ht g).2.2.2.2.2 ≤ N) : cj_T mX2_hindrance 5 0 0 [.ref m, .int kd, .int x] G (fun v G' => v = some (.int 0) ∧ G' m = some (.inr (2, [.ref pg, .ref o, .ref sk, .int (nI ht), .int (gc_col N f t acc env sf ht g).1, .int (gc_col N f t acc env sf ht g).2.1, .int at9, .int hl, .int rs])) ∧ G' o = some (.inr (1, [.ref b, .ref a, .ref c, .int (nI (gc_col N f t acc env sf ht g).2.2.2.2.2), .int (nI (gc_col N f t acc env sf ht g).2.2.2.2.2), .int (tn9 + 1)])) ∧ G' b = some (.inl (0, N, .inl (gc_col N f t acc env sf ht g).2.2.2.1)) ∧ G' c = some (.inl (0, N, .inl (gc_col N f t acc env sf ht g).2.2.2.2.1)) ∧ G' sk = some (.inl (0, 40, .inl (gc_col N f t acc env sf ht g).2.2.1)) ∧ cj_fr [m, o, b, c, sk] G G') (cj_no) := by
  refine cj_T_of (by decide) (Nat.le_of_ble_eq_true rfl) ?_
  refine cj_lvs (lv' := [(0, .ref m), (1, .int kd), (2, .int x)]) rfl ?_
  refine cj_aload_n dX2_hindrance_0 rfl ?_
  refine cj_iload_n dX2_hindrance_1 rfl ?_
  refine cj_iload_n dX2_hindrance_2 rfl ?_
  refine cj_callV (M' := mX2_isWrong) (d' := 4) (k' := 0) (n' := 0) (index := 64) (np := 2) (As := [.int kd, .int x]) (rest := []) dX2_hindrance_3 lkX2_64 mwX2_isWrong (hW) (by omega) rfl rfl (Nat.le_of_ble_eq_true rfl) k_m rfl (fun v9 G2 q1 => ?_) (fun _ _ h => absurd h id)
  obtain ⟨rfl, e9⟩ := q1
  subst G2
  refine cj_st (st' := [.int wr]) rfl ?_
  refine cj_pc (pc' := 6) rfl ?_
  refine cj_if_eq (tgt := 11) dX2_hindrance_6 (by decide) (fun h3 => ?_) (fun h3 => absurd h3 (Classical.not_not.mpr hwr))
  refine cj_aload_n dX2_hindrance_11 rfl ?_
  refine cj_get flX2_15 dX2_hindrance_12 k_m rfl ?_
  refine cj_iload_n dX2_hindrance_15 rfl ?_
  refine cj_pc (pc' := 16) rfl ?_
  refine cj_callS (M' := mX2_growth) (d' := 0) (k' := 0) (n' := 0) (index := 68) (np := 1) (As := [.int kd]) (rest := [.int (nI ht)]) dX2_hindrance_16 lkX2_68 mwX2_growth (t_growth) (by omega) rfl rfl (Nat.le_of_ble_eq_true rfl) (fun v9 G5 q4 => ?_) (fun _ _ h => absurd h id)
  obtain ⟨rfl, e9⟩ := q4
  subst G5
  refine cj_st (st' := [.int (ch_b (kd = 3 ∨ kd = 13)), .int (nI ht)]) rfl ?_
  refine cj_iadd dX2_hindrance_19 ?_
  refine cj_bipush (v := 40) dX2_hindrance_20 (by decide) ?_
  refine cj_icmp_le (tgt := 27) dX2_hindrance_22 (by decide) (fun h6 => ?_) (fun h6 => absurd h6 (Classical.not_not.mpr (Int32.not_lt.mp hdp)))
  refine cj_pc (pc' := 27) rfl ?_
  refine cj_aload_n dX2_hindrance_27 rfl ?_
  refine cj_iload_n dX2_hindrance_28 rfl ?_
  refine cj_iload_n dX2_hindrance_29 rfl ?_
  refine cj_callV (M' := mX2_wordsMade) (d' := 2) (k' := 0) (n' := 0) (index := 72) (np := 2) (As := [.int kd, .int x]) (rest := []) dX2_hindrance_30 lkX2_72 mwX2_wordsMade (hM) (by omega) rfl rfl (Nat.le_of_ble_eq_true rfl) k_m rfl (fun v9 G8 q7 => ?_) (fun _ _ h => absurd h id)
  obtain ⟨rfl, e9⟩ := q7
  subst G8
  refine cj_st (st' := [.int (nI wm)]) rfl ?_
  refine cj_pc (pc' := 33) rfl ?_
  refine cj_istore_n (lv' := [(3, .int (nI wm)), (0, .ref m), (1, .int kd), (2, .int x)]) dX2_hindrance_33 (by decide) rfl ?_
  refine cj_aload_n dX2_hindrance_34 rfl ?_
  refine cj_get flX2_39 dX2_hindrance_35 k_m rfl ?_
  refine cj_iload_n dX2_hindrance_38 rfl ?_
  refine cj_pc (pc' := 39) rfl ?_
  refine cj_callV (M' := mX1_hasRoomFor) (d' := 0) (k' := 0) (n' := 0) (index := 75) (np := 1) (As := [.int (nI wm)]) (rest := []) dX2_hindrance_39 lkX2_75 mwX1_hasRoomFor (t_hasRoomFor k_o k_a hN (by omega)) (by omega) rfl rfl (Nat.le_of_ble_eq_true rfl) k_o rfl (fun v9 G10 q9 => ?_) (fun _ _ h => absurd h id)
  obtain ⟨rfl, e9⟩ := q9
  subst G10
  refine cj_st (st' := [.int (ch_b ((nI wm) ≤ nI N - nI t))]) rfl ?_
  refine cj_if_ne (tgt := 49) dX2_hindrance_42 (by decide) (fun h11 => absurd h11 (Classical.not_not.mpr (ch_bz (fun h9 => hrm ((mc_fits ht9 hN hwm).mp h9))))) (fun h11 => ?_)
  refine cj_aload_n dX2_hindrance_45 rfl ?_
  refine cj_callV (M' := mX2_collect) (d' := 4) (k' := 0) (n' := 0) (index := 79) (np := 0) (As := []) (rest := []) dX2_hindrance_46 lkX2_79 mwX2_collect (t_collect k_m k_a k_sk k_o k_b k_c n_a_b n_a_c n_b_c n_sk_a n_sk_b n_sk_c hN ht9 hht) (by omega) rfl rfl (Nat.le_of_ble_eq_true rfl) k_m rfl (fun v9 G13 q12 => ?_) (fun _ _ h => absurd h id)
  obtain ⟨rfl, k14, k15, k16, k17, k18, r19⟩ := q12
  have k20 : G13 a = some (.inl (0, N, .inl f)) := r19 _ _ (cj_ni5 (cj_nao k_a k_m) (cj_nao k_a k_o) n_a_b n_a_c (Ne.symm n_sk_a)) k_a
  have r21 : cj_fr [m, o, b, c, sk] G G13 := cj_fr.trans (cj_fr.rf (S := [m, o, b, c, sk]) (G := G)) (cj_fr.mono r19 (by simp))
  refine cj_st (st' := []) rfl ?_
  refine cj_pc (pc' := 49) rfl ?_
  refine cj_aload_n dX2_hindrance_49 rfl ?_
  refine cj_get flX2_39 dX2_hindrance_50 k14 rfl ?_
  refine cj_iload_n dX2_hindrance_53 rfl ?_
  refine cj_callV (M' := mX1_hasRoomFor) (d' := 0) (k' := 0) (n' := 0) (index := 75) (np := 1) (As := [.int (nI wm)]) (rest := []) dX2_hindrance_54 lkX2_75 mwX1_hasRoomFor (t_hasRoomFor k15 k16 hN hct) (by omega) rfl rfl (Nat.le_of_ble_eq_true rfl) k15 rfl (fun v9 G23 q22 => ?_) (fun _ _ h => absurd h id)
  obtain ⟨rfl, e9⟩ := q22
  subst G23
  refine cj_st (st' := [.int (ch_b ((nI wm) ≤ nI N - nI (gc_col N f t acc env sf ht g).2.2.2.2.2))]) rfl ?_
  refine cj_pc (pc' := 57) rfl ?_
  refine cj_if_eq (tgt := 64) dX2_hindrance_57 (by decide) (fun h24 => absurd h24 (ch_bn ((mc_fits hct hN hwm).mpr hr2))) (fun h24 => ?_)
  refine cj_iconst (v := 0) dX2_hindrance_60 (by decide) ?_
  refine cj_goto (tgt := 65) dX2_hindrance_61 (by decide) ?_
  refine cj_iret rfl dX2_hindrance_65 ?_
  exact ⟨rfl, k14, k15, k16, k17, k18, r21⟩
set_option maxHeartbeats 4000000 in
set_option maxRecDepth 100000 in
theorem t_hind_gc2 {G : cj_G} {m pg o sk ht a b c N t wm : Nat} {f g mv sf : Nat → Int32} {kd x wr acc env at9 hl rs cp9 tn9 : Int32} (k_m : G m = some (.inr (2, [.ref pg, .ref o, .ref sk, .int (nI ht), .int acc, .int env, .int at9, .int hl, .int rs]))) (k_a : G a = some (.inl (0, N, .inl f))) (k_sk : G sk = some (.inl (0, 40, .inl sf))) (k_o : G o = some (.inr (1, [.ref a, .ref b, .ref c, .int (nI t), .int cp9, .int tn9]))) (k_b : G b = some (.inl (0, N, .inl g))) (k_c : G c = some (.inl (0, N, .inl mv))) (n_a_b : a ≠ b) (n_a_c : a ≠ c) (n_b_c : b ≠ c) (n_sk_a : sk ≠ a) (n_sk_b : sk ≠ b) (n_sk_c : sk ≠ c) (hN : N ≤ 200) (ht9 : t ≤ N) (hht : ht ≤ 40) (hW : cj_T mX2_isWrong 4 0 0 [.ref m, .int kd, .int x] G (cj_rd G wr) cj_no) (hwr : wr = 0) (hdp : ¬ 40 < nI ht + ch_b (kd = 3 ∨ kd = 13)) (hM : cj_T mX2_wordsMade 2 0 0 [.ref m, .int kd, .int x] G (cj_rd G (nI wm)) cj_no) (hwm : wm < 1000) (hrm : ¬ wm + t ≤ N) (hct : (gc_col N f t acc env sf ht g).2.2.2.2.2 ≤ N) (hr2 : ¬ wm + (gc_col N f t acc env sf ht g).2.2.2.2.2 ≤ N) : cj_T mX2_hindrance 5 0 0 [.ref m, .int kd, .int x] G (fun v G' => v = some (.int 2) ∧ G' m = some (.inr (2, [.ref pg, .ref o, .ref sk, .int (nI ht), .int (gc_col N f t acc env sf ht g).1, .int (gc_col N f t acc env sf ht g).2.1, .int at9, .int hl, .int rs])) ∧ G' o = some (.inr (1, [.ref b, .ref a, .ref c, .int (nI (gc_col N f t acc env sf ht g).2.2.2.2.2), .int (nI (gc_col N f t acc env sf ht g).2.2.2.2.2), .int (tn9 + 1)])) ∧ G' b = some (.inl (0, N, .inl (gc_col N f t acc env sf ht g).2.2.2.1)) ∧ G' c = some (.inl (0, N, .inl (gc_col N f t acc env sf ht g).2.2.2.2.1)) ∧ G' sk = some (.inl (0, 40, .inl (gc_col N f t acc env sf ht g).2.2.1)) ∧ cj_fr [m, o, b, c, sk] G G') (cj_no) := by
  refine cj_T_of (by decide) (Nat.le_of_ble_eq_true rfl) ?_
  refine cj_lvs (lv' := [(0, .ref m), (1, .int kd), (2, .int x)]) rfl ?_
  refine cj_aload_n dX2_hindrance_0 rfl ?_
  refine cj_iload_n dX2_hindrance_1 rfl ?_
  refine cj_iload_n dX2_hindrance_2 rfl ?_
  refine cj_callV (M' := mX2_isWrong) (d' := 4) (k' := 0) (n' := 0) (index := 64) (np := 2) (As := [.int kd, .int x]) (rest := []) dX2_hindrance_3 lkX2_64 mwX2_isWrong (hW) (by omega) rfl rfl (Nat.le_of_ble_eq_true rfl) k_m rfl (fun v9 G2 q1 => ?_) (fun _ _ h => absurd h id)
  obtain ⟨rfl, e9⟩ := q1
  subst G2
  refine cj_st (st' := [.int wr]) rfl ?_
  refine cj_pc (pc' := 6) rfl ?_
  refine cj_if_eq (tgt := 11) dX2_hindrance_6 (by decide) (fun h3 => ?_) (fun h3 => absurd h3 (Classical.not_not.mpr hwr))
  refine cj_aload_n dX2_hindrance_11 rfl ?_
  refine cj_get flX2_15 dX2_hindrance_12 k_m rfl ?_
  refine cj_iload_n dX2_hindrance_15 rfl ?_
  refine cj_pc (pc' := 16) rfl ?_
  refine cj_callS (M' := mX2_growth) (d' := 0) (k' := 0) (n' := 0) (index := 68) (np := 1) (As := [.int kd]) (rest := [.int (nI ht)]) dX2_hindrance_16 lkX2_68 mwX2_growth (t_growth) (by omega) rfl rfl (Nat.le_of_ble_eq_true rfl) (fun v9 G5 q4 => ?_) (fun _ _ h => absurd h id)
  obtain ⟨rfl, e9⟩ := q4
  subst G5
  refine cj_st (st' := [.int (ch_b (kd = 3 ∨ kd = 13)), .int (nI ht)]) rfl ?_
  refine cj_iadd dX2_hindrance_19 ?_
  refine cj_bipush (v := 40) dX2_hindrance_20 (by decide) ?_
  refine cj_icmp_le (tgt := 27) dX2_hindrance_22 (by decide) (fun h6 => ?_) (fun h6 => absurd h6 (Classical.not_not.mpr (Int32.not_lt.mp hdp)))
  refine cj_pc (pc' := 27) rfl ?_
  refine cj_aload_n dX2_hindrance_27 rfl ?_
  refine cj_iload_n dX2_hindrance_28 rfl ?_
  refine cj_iload_n dX2_hindrance_29 rfl ?_
  refine cj_callV (M' := mX2_wordsMade) (d' := 2) (k' := 0) (n' := 0) (index := 72) (np := 2) (As := [.int kd, .int x]) (rest := []) dX2_hindrance_30 lkX2_72 mwX2_wordsMade (hM) (by omega) rfl rfl (Nat.le_of_ble_eq_true rfl) k_m rfl (fun v9 G8 q7 => ?_) (fun _ _ h => absurd h id)
  obtain ⟨rfl, e9⟩ := q7
  subst G8
  refine cj_st (st' := [.int (nI wm)]) rfl ?_
  refine cj_pc (pc' := 33) rfl ?_
  refine cj_istore_n (lv' := [(3, .int (nI wm)), (0, .ref m), (1, .int kd), (2, .int x)]) dX2_hindrance_33 (by decide) rfl ?_
  refine cj_aload_n dX2_hindrance_34 rfl ?_
  refine cj_get flX2_39 dX2_hindrance_35 k_m rfl ?_
  refine cj_iload_n dX2_hindrance_38 rfl ?_
  refine cj_pc (pc' := 39) rfl ?_
  refine cj_callV (M' := mX1_hasRoomFor) (d' := 0) (k' := 0) (n' := 0) (index := 75) (np := 1) (As := [.int (nI wm)]) (rest := []) dX2_hindrance_39 lkX2_75 mwX1_hasRoomFor (t_hasRoomFor k_o k_a hN (by omega)) (by omega) rfl rfl (Nat.le_of_ble_eq_true rfl) k_o rfl (fun v9 G10 q9 => ?_) (fun _ _ h => absurd h id)
  obtain ⟨rfl, e9⟩ := q9
  subst G10
  refine cj_st (st' := [.int (ch_b ((nI wm) ≤ nI N - nI t))]) rfl ?_
  refine cj_if_ne (tgt := 49) dX2_hindrance_42 (by decide) (fun h11 => absurd h11 (Classical.not_not.mpr (ch_bz (fun h9 => hrm ((mc_fits ht9 hN hwm).mp h9))))) (fun h11 => ?_)
  refine cj_aload_n dX2_hindrance_45 rfl ?_
  refine cj_callV (M' := mX2_collect) (d' := 4) (k' := 0) (n' := 0) (index := 79) (np := 0) (As := []) (rest := []) dX2_hindrance_46 lkX2_79 mwX2_collect (t_collect k_m k_a k_sk k_o k_b k_c n_a_b n_a_c n_b_c n_sk_a n_sk_b n_sk_c hN ht9 hht) (by omega) rfl rfl (Nat.le_of_ble_eq_true rfl) k_m rfl (fun v9 G13 q12 => ?_) (fun _ _ h => absurd h id)
  obtain ⟨rfl, k14, k15, k16, k17, k18, r19⟩ := q12
  have k20 : G13 a = some (.inl (0, N, .inl f)) := r19 _ _ (cj_ni5 (cj_nao k_a k_m) (cj_nao k_a k_o) n_a_b n_a_c (Ne.symm n_sk_a)) k_a
  have r21 : cj_fr [m, o, b, c, sk] G G13 := cj_fr.trans (cj_fr.rf (S := [m, o, b, c, sk]) (G := G)) (cj_fr.mono r19 (by simp))
  refine cj_st (st' := []) rfl ?_
  refine cj_pc (pc' := 49) rfl ?_
  refine cj_aload_n dX2_hindrance_49 rfl ?_
  refine cj_get flX2_39 dX2_hindrance_50 k14 rfl ?_
  refine cj_iload_n dX2_hindrance_53 rfl ?_
  refine cj_callV (M' := mX1_hasRoomFor) (d' := 0) (k' := 0) (n' := 0) (index := 75) (np := 1) (As := [.int (nI wm)]) (rest := []) dX2_hindrance_54 lkX2_75 mwX1_hasRoomFor (t_hasRoomFor k15 k16 hN hct) (by omega) rfl rfl (Nat.le_of_ble_eq_true rfl) k15 rfl (fun v9 G23 q22 => ?_) (fun _ _ h => absurd h id)
  obtain ⟨rfl, e9⟩ := q22
  subst G23
  refine cj_st (st' := [.int (ch_b ((nI wm) ≤ nI N - nI (gc_col N f t acc env sf ht g).2.2.2.2.2))]) rfl ?_
  refine cj_pc (pc' := 57) rfl ?_
  refine cj_if_eq (tgt := 64) dX2_hindrance_57 (by decide) (fun h24 => ?_) (fun h24 => absurd h24 (Classical.not_not.mpr (ch_bz (fun h9 => hr2 ((mc_fits hct hN hwm).mp h9)))))
  refine cj_iconst (v := 2) dX2_hindrance_64 (by decide) ?_
  refine cj_iret rfl dX2_hindrance_65 ?_
  exact ⟨rfl, k14, k15, k16, k17, k18, r21⟩
set_option maxHeartbeats 4000000 in
set_option maxRecDepth 100000 in
theorem t_beginAnew {G : cj_G} {m pg o sk a b c : Nat} {ht9 acc env at9 hl rs t9 cp9 tn9 : Int32} (k_m : G m = some (.inr (2, [.ref pg, .ref o, .ref sk, .int ht9, .int acc, .int env, .int at9, .int hl, .int rs]))) (k_o : G o = some (.inr (1, [.ref a, .ref b, .ref c, .int t9, .int cp9, .int tn9]))) : cj_T mX2_beginAnew 1 0 0 [.ref m] G (fun v G' => v = none ∧ G' m = some (.inr (2, [.ref pg, .ref o, .ref sk, .int 0, .int 1, .int 1, .int 0, .int 0, .int 0])) ∧ G' o = some (.inr (1, [.ref a, .ref b, .ref c, .int 0, .int cp9, .int 0])) ∧ cj_fr [m, o] G G') (cj_no) := by
  refine cj_T_of (by decide) (Nat.le_of_ble_eq_true rfl) ?_
  refine cj_lvs (lv' := [(0, .ref m)]) rfl ?_
  refine cj_aload_n dX2_beginAnew_0 rfl ?_
  refine cj_get flX2_39 dX2_beginAnew_1 k_m rfl ?_
  refine cj_callV (M' := mX1_clear) (d' := 0) (k' := 0) (n' := 0) (index := 43) (np := 0) (As := []) (rest := []) dX2_beginAnew_4 lkX2_43 mwX1_clear (t_clear k_o) (by omega) rfl rfl (Nat.le_of_ble_eq_true rfl) k_o rfl (fun v9 G2 q1 => ?_) (fun _ _ h => absurd h id)
  obtain ⟨rfl, k3, r4⟩ := q1
  have k5 : G2 m = some (.inr (2, [.ref pg, .ref o, .ref sk, .int ht9, .int acc, .int env, .int at9, .int hl, .int rs])) := r4 _ _ (cj_ni1 (cj_noo k_m k_o (by decide))) k_m
  have r6 : cj_fr [m, o] G G2 := cj_fr.trans (cj_fr.rf (S := [m, o]) (G := G)) (cj_fr.mono r4 (by simp))
  refine cj_st (st' := []) rfl ?_
  refine cj_aload_n dX2_beginAnew_7 rfl ?_
  refine cj_pc (pc' := 8) rfl ?_
  refine cj_iconst (v := 0) dX2_beginAnew_8 (by decide) ?_
  refine cj_put flX2_15 dX2_beginAnew_9 k5 rfl rfl (Nat.le_of_ble_eq_true rfl) ?_
  refine cj_nm (fun G7 e8 => ?_)
  have k9 : G7 m = some (.inr (2, [.ref pg, .ref o, .ref sk, .int 0, .int acc, .int env, .int at9, .int hl, .int rs])) := by rw [e8]; exact cj_up_s
  have k10 : G7 o = some (.inr (1, [.ref a, .ref b, .ref c, .int 0, .int cp9, .int 0])) := by rw [e8, cj_up_n (cj_noo k3 k5 (by decide))]; exact k3
  have r11 : cj_fr [m, o] G G7 := by rw [e8]; exact cj_fr.up r6 (by simp)
  refine cj_aload_n dX2_beginAnew_12 rfl ?_
  refine cj_iconst (v := 1) dX2_beginAnew_13 (by decide) ?_
  refine cj_pc (pc' := 14) rfl ?_
  refine cj_put flX2_19 dX2_beginAnew_14 k9 rfl rfl (Nat.le_of_ble_eq_true rfl) ?_
  refine cj_nm (fun G12 e13 => ?_)
  have k14 : G12 m = some (.inr (2, [.ref pg, .ref o, .ref sk, .int 0, .int 1, .int env, .int at9, .int hl, .int rs])) := by rw [e13]; exact cj_up_s
  have k15 : G12 o = some (.inr (1, [.ref a, .ref b, .ref c, .int 0, .int cp9, .int 0])) := by rw [e13, cj_up_n (cj_noo k10 k9 (by decide))]; exact k10
  have r16 : cj_fr [m, o] G G12 := by rw [e13]; exact cj_fr.up r11 (by simp)
  refine cj_aload_n dX2_beginAnew_17 rfl ?_
  refine cj_iconst (v := 1) dX2_beginAnew_18 (by decide) ?_
  refine cj_put flX2_22 dX2_beginAnew_19 k14 rfl rfl (Nat.le_of_ble_eq_true rfl) ?_
  refine cj_nm (fun G17 e18 => ?_)
  have k19 : G17 m = some (.inr (2, [.ref pg, .ref o, .ref sk, .int 0, .int 1, .int 1, .int at9, .int hl, .int rs])) := by rw [e18]; exact cj_up_s
  have k20 : G17 o = some (.inr (1, [.ref a, .ref b, .ref c, .int 0, .int cp9, .int 0])) := by rw [e18, cj_up_n (cj_noo k15 k14 (by decide))]; exact k15
  have r21 : cj_fr [m, o] G G17 := by rw [e18]; exact cj_fr.up r16 (by simp)
  refine cj_pc (pc' := 22) rfl ?_
  refine cj_aload_n dX2_beginAnew_22 rfl ?_
  refine cj_iconst (v := 0) dX2_beginAnew_23 (by decide) ?_
  refine cj_put flX2_25 dX2_beginAnew_24 k19 rfl rfl (Nat.le_of_ble_eq_true rfl) ?_
  refine cj_nm (fun G22 e23 => ?_)
  have k24 : G22 m = some (.inr (2, [.ref pg, .ref o, .ref sk, .int 0, .int 1, .int 1, .int 0, .int hl, .int rs])) := by rw [e23]; exact cj_up_s
  have k25 : G22 o = some (.inr (1, [.ref a, .ref b, .ref c, .int 0, .int cp9, .int 0])) := by rw [e23, cj_up_n (cj_noo k20 k19 (by decide))]; exact k20
  have r26 : cj_fr [m, o] G G22 := by rw [e23]; exact cj_fr.up r21 (by simp)
  refine cj_aload_n dX2_beginAnew_27 rfl ?_
  refine cj_pc (pc' := 28) rfl ?_
  refine cj_iconst (v := 0) dX2_beginAnew_28 (by decide) ?_
  refine cj_put flX2_28 dX2_beginAnew_29 k24 rfl rfl (Nat.le_of_ble_eq_true rfl) ?_
  refine cj_nm (fun G27 e28 => ?_)
  have k29 : G27 m = some (.inr (2, [.ref pg, .ref o, .ref sk, .int 0, .int 1, .int 1, .int 0, .int 0, .int rs])) := by rw [e28]; exact cj_up_s
  have k30 : G27 o = some (.inr (1, [.ref a, .ref b, .ref c, .int 0, .int cp9, .int 0])) := by rw [e28, cj_up_n (cj_noo k25 k24 (by decide))]; exact k25
  have r31 : cj_fr [m, o] G G27 := by rw [e28]; exact cj_fr.up r26 (by simp)
  refine cj_aload_n dX2_beginAnew_32 rfl ?_
  refine cj_iconst (v := 0) dX2_beginAnew_33 (by decide) ?_
  refine cj_pc (pc' := 34) rfl ?_
  refine cj_put flX2_32 dX2_beginAnew_34 k29 rfl rfl (Nat.le_of_ble_eq_true rfl) ?_
  refine cj_nm (fun G32 e33 => ?_)
  have k34 : G32 m = some (.inr (2, [.ref pg, .ref o, .ref sk, .int 0, .int 1, .int 1, .int 0, .int 0, .int 0])) := by rw [e33]; exact cj_up_s
  have k35 : G32 o = some (.inr (1, [.ref a, .ref b, .ref c, .int 0, .int cp9, .int 0])) := by rw [e33, cj_up_n (cj_noo k30 k29 (by decide))]; exact k30
  have r36 : cj_fr [m, o] G G32 := by rw [e33]; exact cj_fr.up r31 (by simp)
  refine cj_vret rfl dX2_beginAnew_37 ?_
  exact ⟨rfl, k34, k35, r36⟩
set_option maxHeartbeats 4000000 in
set_option maxRecDepth 100000 in
theorem t_live {G : cj_G} {x tx rd len m pg o sk ht a b c N t : Nat} {f g mv sf : Nat → Int32} {acc env at9 hl rs cp9 tn9 : Int32} (k_m : G m = some (.inr (2, [.ref pg, .ref o, .ref sk, .int (nI ht), .int acc, .int env, .int at9, .int hl, .int rs]))) (k_a : G a = some (.inl (0, N, .inl f))) (k_sk : G sk = some (.inl (0, 40, .inl sf))) (k_o : G o = some (.inr (1, [.ref a, .ref b, .ref c, .int (nI t), .int cp9, .int tn9]))) (k_b : G b = some (.inl (0, N, .inl g))) (k_c : G c = some (.inl (0, N, .inl mv))) (n_a_b : a ≠ b) (n_a_c : a ≠ c) (n_b_c : b ≠ c) (n_sk_a : sk ≠ a) (n_sk_b : sk ≠ b) (n_sk_c : sk ≠ c) (hN : N ≤ 200) (ht9 : t ≤ N) (hht : ht ≤ 40) (k_x : G x = some (.inr (6, [.ref tx, .int (nI len), .ref rd, .ref pg, .ref m]))) : cj_T mX6_live 4 0 0 [.ref x] G (fun v G' => v = some (.int (nI (gc_all N f t acc env sf ht g).2.2)) ∧ gc_po G o a b c N t (gc_all N f t acc env sf ht g) tn9 G') (cj_no) := by
  refine cj_T_of (by decide) (Nat.le_of_ble_eq_true rfl) ?_
  refine cj_lvs (lv' := [(0, .ref x)]) rfl ?_
  refine cj_aload_n dX6_live_0 rfl ?_
  refine cj_get flX6_50 dX6_live_1 k_x rfl ?_
  refine cj_callV (M' := mX2_copyReachable) (d' := 3) (k' := 0) (n' := 0) (index := 116) (np := 0) (As := []) (rest := []) dX6_live_4 lkX6_116 mwX2_copyReachable (t_copyReachable k_m k_a k_sk k_o k_b k_c n_a_b n_a_c n_b_c n_sk_a n_sk_b n_sk_c hN ht9 hht) (by omega) rfl rfl (Nat.le_of_ble_eq_true rfl) k_m rfl (fun v9 G2 q1 => ?_) (fun _ _ h => absurd h id)
  obtain ⟨rfl, k3, k4, k5, r6⟩ := q1
  have k7 : G2 m = some (.inr (2, [.ref pg, .ref o, .ref sk, .int (nI ht), .int acc, .int env, .int at9, .int hl, .int rs])) := r6 _ _ (cj_ni3 (cj_noo k_m k_o (by decide)) (cj_noa k_m k_b) (cj_noa k_m k_c)) k_m
  have k8 : G2 a = some (.inl (0, N, .inl f)) := r6 _ _ (cj_ni3 (cj_nao k_a k_o) n_a_b n_a_c) k_a
  have k9 : G2 sk = some (.inl (0, 40, .inl sf)) := r6 _ _ (cj_ni3 (cj_nao k_sk k_o) n_sk_b n_sk_c) k_sk
  have k10 : G2 x = some (.inr (6, [.ref tx, .int (nI len), .ref rd, .ref pg, .ref m])) := r6 _ _ (cj_ni3 (cj_noo k_x k_o (by decide)) (cj_noa k_x k_b) (cj_noa k_x k_c)) k_x
  have r11 : cj_fr [o, b, c] G G2 := cj_fr.trans (cj_fr.rf (S := [o, b, c]) (G := G)) (cj_fr.mono r6 (by simp))
  refine cj_st (st' := [.int (nI (gc_all N f t acc env sf ht g).2.2)]) rfl ?_
  refine cj_iret rfl dX6_live_7 ?_
  exact ⟨rfl, k3, k4, k5, r11⟩
