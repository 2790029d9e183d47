/-! ClosureHeap: the calls that only read, write; the constructors -/
set_option maxHeartbeats 4000000 in
set_option maxRecDepth 100000 in
theorem t_place {G : cj_G} {x tx rd m pg pa o sk ht ln a b c N t len rt nb : Nat} {f sf pf : Nat → Int32} {w z acc env at9 hl rs cp9 tn9 rl ra rb ri : Int32} (k_x : G x = some (.inr (6, [.ref tx, .int (nI len), .ref rd, .ref pg, .ref m]))) (k_rd : G rd = some (.inr (3, [.ref rt, .int rl, .int ra, .ref nb, .int rb, .int ri]))) : cj_T mX6_place 0 0 0 [.ref x] G (cj_rd G (ri)) (cj_no) := by
  refine cj_T_of (by decide) (Nat.le_of_ble_eq_true rfl) ?_
  refine cj_lvs (lv' := [(0, .ref x)]) rfl ?_
  refine cj_aload_n dX6_place_0 rfl ?_
  refine cj_get flX6_20 dX6_place_1 k_x rfl ?_
  refine cj_get flX6_69 dX6_place_4 k_rd rfl ?_
  refine cj_iret rfl dX6_place_7 ?_
  exact ⟨rfl, rfl⟩
set_option maxHeartbeats 4000000 in
set_option maxRecDepth 100000 in
theorem t_why {G : cj_G} {x tx rd m pg pa o sk ht ln a b c N t len rt nb : Nat} {f sf pf : Nat → Int32} {w z acc env at9 hl rs cp9 tn9 rl ra rb ri : Int32} (k_x : G x = some (.inr (6, [.ref tx, .int (nI len), .ref rd, .ref pg, .ref m]))) (k_m : G m = some (.inr (2, [.ref pg, .ref o, .ref sk, .int (nI ht), .int acc, .int env, .int at9, .int hl, .int rs]))) : cj_T mX6_why 0 0 0 [.ref x] G (cj_rd G (rs)) (cj_no) := by
  refine cj_T_of (by decide) (Nat.le_of_ble_eq_true rfl) ?_
  refine cj_lvs (lv' := [(0, .ref x)]) rfl ?_
  refine cj_aload_n dX6_why_0 rfl ?_
  refine cj_get flX6_50 dX6_why_1 k_x rfl ?_
  refine cj_get flX6_100 dX6_why_4 k_m rfl ?_
  refine cj_iret rfl dX6_why_7 ?_
  exact ⟨rfl, rfl⟩
set_option maxHeartbeats 4000000 in
set_option maxRecDepth 100000 in
theorem t_next {G : cj_G} {x tx rd m pg pa o sk ht ln a b c N t len rt nb : Nat} {f sf pf : Nat → Int32} {w z acc env at9 hl rs cp9 tn9 rl ra rb ri : Int32} (k_x : G x = some (.inr (6, [.ref tx, .int (nI len), .ref rd, .ref pg, .ref m]))) (k_m : G m = some (.inr (2, [.ref pg, .ref o, .ref sk, .int (nI ht), .int acc, .int env, .int at9, .int hl, .int rs]))) : cj_T mX6_next 0 0 0 [.ref x] G (cj_rd G (at9)) (cj_no) := by
  refine cj_T_of (by decide) (Nat.le_of_ble_eq_true rfl) ?_
  refine cj_lvs (lv' := [(0, .ref x)]) rfl ?_
  refine cj_aload_n dX6_next_0 rfl ?_
  refine cj_get flX6_50 dX6_next_1 k_x rfl ?_
  refine cj_get flX6_103 dX6_next_4 k_m rfl ?_
  refine cj_iret rfl dX6_next_7 ?_
  exact ⟨rfl, rfl⟩
set_option maxHeartbeats 4000000 in
set_option maxRecDepth 100000 in
theorem t_depth {G : cj_G} {x tx rd m pg pa o sk ht ln a b c N t len rt nb : Nat} {f sf pf : Nat → Int32} {w z acc env at9 hl rs cp9 tn9 rl ra rb ri : Int32} (k_x : G x = some (.inr (6, [.ref tx, .int (nI len), .ref rd, .ref pg, .ref m]))) (k_m : G m = some (.inr (2, [.ref pg, .ref o, .ref sk, .int (nI ht), .int acc, .int env, .int at9, .int hl, .int rs]))) : cj_T mX6_depth 0 0 0 [.ref x] G (cj_rd G (nI ht)) (cj_no) := by
  refine cj_T_of (by decide) (Nat.le_of_ble_eq_true rfl) ?_
  refine cj_lvs (lv' := [(0, .ref x)]) rfl ?_
  refine cj_aload_n dX6_depth_0 rfl ?_
  refine cj_get flX6_50 dX6_depth_1 k_x rfl ?_
  refine cj_get flX6_106 dX6_depth_4 k_m rfl ?_
  refine cj_iret rfl dX6_depth_7 ?_
  exact ⟨rfl, rfl⟩
set_option maxHeartbeats 4000000 in
set_option maxRecDepth 100000 in
theorem t_used {G : cj_G} {x tx rd m pg pa o sk ht ln a b c N t len rt nb : Nat} {f sf pf : Nat → Int32} {w z acc env at9 hl rs cp9 tn9 rl ra rb ri : Int32} (k_x : G x = some (.inr (6, [.ref tx, .int (nI len), .ref rd, .ref pg, .ref m]))) (k_m : G m = some (.inr (2, [.ref pg, .ref o, .ref sk, .int (nI ht), .int acc, .int env, .int at9, .int hl, .int rs]))) (k_o : G o = some (.inr (1, [.ref a, .ref b, .ref c, .int (nI t), .int cp9, .int tn9]))) : cj_T mX6_used 0 0 0 [.ref x] G (cj_rd G (nI t)) (cj_no) := by
  refine cj_T_of (by decide) (Nat.le_of_ble_eq_true rfl) ?_
  refine cj_lvs (lv' := [(0, .ref x)]) rfl ?_
  refine cj_aload_n dX6_used_0 rfl ?_
  refine cj_get flX6_50 dX6_used_1 k_x rfl ?_
  refine cj_get flX6_109 dX6_used_4 k_m rfl ?_
  refine cj_get flX6_113 dX6_used_7 k_o rfl ?_
  refine cj_pc (pc' := 10) rfl ?_
  refine cj_iret rfl dX6_used_10 ?_
  exact ⟨rfl, rfl⟩
set_option maxHeartbeats 4000000 in
set_option maxRecDepth 100000 in
theorem t_collections {G : cj_G} {x tx rd m pg pa o sk ht ln a b c N t len rt nb : Nat} {f sf pf : Nat → Int32} {w z acc env at9 hl rs cp9 tn9 rl ra rb ri : Int32} (k_x : G x = some (.inr (6, [.ref tx, .int (nI len), .ref rd, .ref pg, .ref m]))) (k_m : G m = some (.inr (2, [.ref pg, .ref o, .ref sk, .int (nI ht), .int acc, .int env, .int at9, .int hl, .int rs]))) (k_o : G o = some (.inr (1, [.ref a, .ref b, .ref c, .int (nI t), .int cp9, .int tn9]))) : cj_T mX6_collections 0 0 0 [.ref x] G (cj_rd G (tn9)) (cj_no) := by
  refine cj_T_of (by decide) (Nat.le_of_ble_eq_true rfl) ?_
  refine cj_lvs (lv' := [(0, .ref x)]) rfl ?_
  refine cj_aload_n dX6_collections_0 rfl ?_
  refine cj_get flX6_50 dX6_collections_1 k_x rfl ?_
  refine cj_get flX6_109 dX6_collections_4 k_m rfl ?_
  refine cj_get flX6_119 dX6_collections_7 k_o rfl ?_
  refine cj_pc (pc' := 10) rfl ?_
  refine cj_iret rfl dX6_collections_10 ?_
  exact ⟨rfl, rfl⟩
set_option maxHeartbeats 4000000 in
set_option maxRecDepth 100000 in
theorem t_state {G : cj_G} {x tx rd m pg pa o sk ht ln a b c N t len rt nb : Nat} {f sf pf : Nat → Int32} {w z acc env at9 hl rs cp9 tn9 rl ra rb ri : Int32} (k_x : G x = some (.inr (6, [.ref tx, .int (nI len), .ref rd, .ref pg, .ref m]))) (k_m : G m = some (.inr (2, [.ref pg, .ref o, .ref sk, .int (nI ht), .int acc, .int env, .int at9, .int hl, .int rs]))) (k_pg : G pg = some (.inr (0, [.ref pa, .int (nI ln)]))) (hln : ln ≤ 120) : cj_T mX6_state 1 0 0 [.ref x] G (cj_rd G (mc_cond ln hl rs)) (cj_no) := by
  refine cj_T_of (by decide) (Nat.le_of_ble_eq_true rfl) ?_
  refine cj_lvs (lv' := [(0, .ref x)]) rfl ?_
  refine cj_aload_n dX6_state_0 rfl ?_
  refine cj_get flX6_50 dX6_state_1 k_x rfl ?_
  refine cj_callV (M' := mX2_condition) (d' := 0) (k' := 0) (n' := 0) (index := 82) (np := 0) (As := []) (rest := []) dX6_state_4 lkX6_82 mwX2_condition (t_condition k_m k_pg hln) (by omega) rfl rfl (Nat.le_of_ble_eq_true rfl) k_m rfl (fun v9 G2 q1 => ?_) (fun _ _ h => absurd h id)
  obtain ⟨rfl, e9⟩ := q1
  subst G2
  refine cj_st (st' := [.int (mc_cond ln hl rs)]) rfl ?_
  refine cj_iret rfl dX6_state_7 ?_
  exact ⟨rfl, rfl⟩
set_option maxHeartbeats 4000000 in
set_option maxRecDepth 100000 in
theorem t_code {G : cj_G} {x tx rd m pg pa o sk ht ln a b c N t len rt nb : Nat} {f sf pf : Nat → Int32} {w z acc env at9 hl rs cp9 tn9 rl ra rb ri : Int32} (k_x : G x = some (.inr (6, [.ref tx, .int (nI len), .ref rd, .ref pg, .ref m]))) (k_pg : G pg = some (.inr (0, [.ref pa, .int (nI ln)]))) (k_pa : G pa = some (.inl (0, 360, .inl pf))) (hln : ln ≤ 120) : cj_T mX6_code 1 0 0 [.ref x, .int w, .int z] G (cj_rd G (mc_part pf ln w z)) (cj_no) := by
  refine cj_T_of (by decide) (Nat.le_of_ble_eq_true rfl) ?_
  refine cj_lvs (lv' := [(0, .ref x), (1, .int w), (2, .int z)]) rfl ?_
  refine cj_aload_n dX6_code_0 rfl ?_
  refine cj_get flX6_27 dX6_code_1 k_x rfl ?_
  refine cj_iload_n dX6_code_4 rfl ?_
  refine cj_iload_n dX6_code_5 rfl ?_
  refine cj_pc (pc' := 6) rfl ?_
  refine cj_callV (M' := mX0_part) (d' := 0) (k' := 0) (n' := 0) (index := 72) (np := 2) (As := [.int w, .int z]) (rest := []) dX6_code_6 lkX6_72 mwX0_part (t_part k_pg k_pa hln) (by omega) rfl rfl (Nat.le_of_ble_eq_true rfl) k_pg rfl (fun v9 G2 q1 => ?_) (fun _ _ h => absurd h id)
  obtain ⟨rfl, e9⟩ := q1
  subst G2
  refine cj_st (st' := [.int (mc_part pf ln w z)]) rfl ?_
  refine cj_iret rfl dX6_code_9 ?_
  exact ⟨rfl, rfl⟩
set_option maxHeartbeats 4000000 in
set_option maxRecDepth 100000 in
theorem t_kind {G : cj_G} {x tx rd m pg pa o sk ht ln a b c N t len rt nb : Nat} {f sf pf : Nat → Int32} {w z acc env at9 hl rs cp9 tn9 rl ra rb ri : Int32} (k_x : G x = some (.inr (6, [.ref tx, .int (nI len), .ref rd, .ref pg, .ref m]))) (k_m : G m = some (.inr (2, [.ref pg, .ref o, .ref sk, .int (nI ht), .int acc, .int env, .int at9, .int hl, .int rs]))) (k_o : G o = some (.inr (1, [.ref a, .ref b, .ref c, .int (nI t), .int cp9, .int tn9]))) (k_a : G a = some (.inl (0, N, .inl f))) (hN : N ≤ 200) (ht9 : t ≤ N) : cj_T mX6_kind 5 0 0 [.ref x, .int w] G (cj_rd G (hp_so f (nI t) (mc_wa f t 16 acc w))) (cj_no) := by
  refine cj_T_of (by decide) (Nat.le_of_ble_eq_true rfl) ?_
  refine cj_lvs (lv' := [(0, .ref x), (1, .int w)]) rfl ?_
  refine cj_aload_n dX6_kind_0 rfl ?_
  refine cj_get flX6_50 dX6_kind_1 k_x rfl ?_
  refine cj_get flX6_109 dX6_kind_4 k_m rfl ?_
  refine cj_aload_n dX6_kind_7 rfl ?_
  refine cj_pc (pc' := 8) rfl ?_
  refine cj_get flX6_50 dX6_kind_8 k_x rfl ?_
  refine cj_iload_n dX6_kind_11 rfl ?_
  refine cj_callV (M' := mX2_wordAt) (d' := 3) (k' := 0) (n' := 0) (index := 122) (np := 1) (As := [.int w]) (rest := [.ref o]) dX6_kind_12 lkX6_122 mwX2_wordAt (t_wordAt k_m k_o k_a hN ht9) (by omega) rfl rfl (Nat.le_of_ble_eq_true rfl) k_m rfl (fun v9 G2 q1 => ?_) (fun _ _ h => absurd h id)
  obtain ⟨rfl, e9⟩ := q1
  subst G2
  refine cj_st (st' := [.int (mc_wa f t 16 acc w), .ref o]) rfl ?_
  refine cj_callV (M' := mX1_sort) (d' := 3) (k' := 0) (n' := 0) (index := 125) (np := 1) (As := [.int (mc_wa f t 16 acc w)]) (rest := []) dX6_kind_15 lkX6_125 mwX1_sort (t_sort k_o k_a (by rw [nI_toInt (by omega)]; omega)) (by omega) rfl rfl (Nat.le_of_ble_eq_true rfl) k_o rfl (fun v9 G4 q3 => ?_) (fun _ _ h => absurd h id)
  obtain ⟨rfl, e9⟩ := q3
  subst G4
  refine cj_st (st' := [.int (hp_so f (nI t) (mc_wa f t 16 acc w))]) rfl ?_
  refine cj_pc (pc' := 18) rfl ?_
  refine cj_iret rfl dX6_kind_18 ?_
  exact ⟨rfl, rfl⟩
set_option maxHeartbeats 4000000 in
set_option maxRecDepth 100000 in
theorem t_value {G : cj_G} {x tx rd m pg pa o sk ht ln a b c N t len rt nb : Nat} {f sf pf : Nat → Int32} {w z acc env at9 hl rs cp9 tn9 rl ra rb ri : Int32} (k_x : G x = some (.inr (6, [.ref tx, .int (nI len), .ref rd, .ref pg, .ref m]))) (k_m : G m = some (.inr (2, [.ref pg, .ref o, .ref sk, .int (nI ht), .int acc, .int env, .int at9, .int hl, .int rs]))) (k_o : G o = some (.inr (1, [.ref a, .ref b, .ref c, .int (nI t), .int cp9, .int tn9]))) (k_a : G a = some (.inl (0, N, .inl f))) (hN : N ≤ 200) (ht9 : t ≤ N) : cj_T mX6_value 5 0 0 [.ref x, .int w] G (cj_rd G (hp_me f (nI t) (mc_wa f t 16 acc w))) (cj_no) := by
  refine cj_T_of (by decide) (Nat.le_of_ble_eq_true rfl) ?_
  refine cj_lvs (lv' := [(0, .ref x), (1, .int w)]) rfl ?_
  refine cj_aload_n dX6_value_0 rfl ?_
  refine cj_get flX6_50 dX6_value_1 k_x rfl ?_
  refine cj_get flX6_109 dX6_value_4 k_m rfl ?_
  refine cj_aload_n dX6_value_7 rfl ?_
  refine cj_pc (pc' := 8) rfl ?_
  refine cj_get flX6_50 dX6_value_8 k_x rfl ?_
  refine cj_iload_n dX6_value_11 rfl ?_
  refine cj_callV (M' := mX2_wordAt) (d' := 3) (k' := 0) (n' := 0) (index := 122) (np := 1) (As := [.int w]) (rest := [.ref o]) dX6_value_12 lkX6_122 mwX2_wordAt (t_wordAt k_m k_o k_a hN ht9) (by omega) rfl rfl (Nat.le_of_ble_eq_true rfl) k_m rfl (fun v9 G2 q1 => ?_) (fun _ _ h => absurd h id)
  obtain ⟨rfl, e9⟩ := q1
  subst G2
  refine cj_st (st' := [.int (mc_wa f t 16 acc w), .ref o]) rfl ?_
  refine cj_callV (M' := mX1_meaning) (d' := 4) (k' := 0) (n' := 0) (index := 128) (np := 1) (As := [.int (mc_wa f t 16 acc w)]) (rest := []) dX6_value_15 lkX6_128 mwX1_meaning (t_meaning k_o k_a (by rw [nI_toInt (by omega)]; omega) hN) (by omega) rfl rfl (Nat.le_of_ble_eq_true rfl) k_o rfl (fun v9 G4 q3 => ?_) (fun _ _ h => absurd h id)
  obtain ⟨rfl, e9⟩ := q3
  subst G4
  refine cj_st (st' := [.int (hp_me f (nI t) (mc_wa f t 16 acc w))]) rfl ?_
  refine cj_pc (pc' := 18) rfl ?_
  refine cj_iret rfl dX6_value_18 ?_
  exact ⟨rfl, rfl⟩
def ch_wr (len : Nat) (w : Int32) : Bool := decide (¬ w < 32) && (decide (¬ 126 < w) && decide (len < 90))
theorem ch_nar {w : Int32} (h1 : ¬ w < 32) (h2 : ¬ 126 < w) : vp_nar .char w = w := by
  have h0 : ¬ w < 0 := fun h => h1 (Int32.lt_trans h (by decide))
  obtain ⟨j, hj, rfl⟩ := nI_of h0
  have hj2 : j ≤ 126 := by
    have := Int32.not_lt.mp h2
    exact (nI_leI (b := 126) hj (by decide)).mp this
  unfold vp_nar
  rw [(pk_charN (q := j) (by omega)).1]
set_option maxHeartbeats 4000000 in
set_option maxRecDepth 100000 in
theorem t_write_1 {G : cj_G} {x tx rd m pg len : Nat} {xf : Nat → Int32} {w : Int32} (k_x : G x = some (.inr (6, [.ref tx, .int (nI len), .ref rd, .ref pg, .ref m]))) (k_tx : G tx = some (.inl (1, 90, .inl xf))) (hlen : len ≤ 90) (hw : ch_wr len w = true) : cj_T mX6_write 0 0 0 [.ref x, .int w] G (fun v G' => v = some (.int 1) ∧ G' x = some (.inr (6, [.ref tx, .int (nI (len + 1)), .ref rd, .ref pg, .ref m])) ∧ G' tx = some (.inl (1, 90, .inl (upd xf len w))) ∧ cj_fr [x, tx] G G') (cj_no) := by
  simp only [ch_wr, Bool.and_eq_true, decide_eq_true_eq] at hw
  refine cj_T_of (by decide) (Nat.le_of_ble_eq_true rfl) ?_
  refine cj_lvs (lv' := [(0, .ref x), (1, .int w)]) rfl ?_
  refine cj_iload_n dX6_write_0 rfl ?_
  refine cj_bipush (v := 32) dX6_write_1 (by decide) ?_
  refine cj_icmp_lt (tgt := 21) dX6_write_3 (by decide) (fun h1 => absurd h1 (hw.1)) (fun h1 => ?_)
  refine cj_iload_n dX6_write_6 rfl ?_
  refine cj_pc (pc' := 7) rfl ?_
  refine cj_bipush (v := 126) dX6_write_7 (by decide) ?_
  refine cj_icmp_gt (tgt := 21) dX6_write_9 (by decide) (fun h2 => absurd h2 (hw.2.1)) (fun h2 => ?_)
  refine cj_aload_n dX6_write_12 rfl ?_
  refine cj_get flX6_13 dX6_write_13 k_x rfl ?_
  refine cj_pc (pc' := 16) rfl ?_
  refine cj_bipush (v := 90) dX6_write_16 (by decide) ?_
  refine cj_icmp_lt (tgt := 23) dX6_write_18 (by decide) (fun h3 => ?_) (fun h3 => absurd h3 (Classical.not_not.mpr (nI_lt (b := 90) hw.2.2 (by decide))))
  refine cj_aload_n dX6_write_23 rfl ?_
  refine cj_get flX6_9 dX6_write_24 k_x rfl ?_
  refine cj_pc (pc' := 27) rfl ?_
  refine cj_aload_n dX6_write_27 rfl ?_
  refine cj_get flX6_13 dX6_write_28 k_x rfl ?_
  refine cj_iload_n dX6_write_31 rfl ?_
  have i4 : vp_in (nI len) 90 := vp_in_nI (by omega) (by decide)
  refine cj_cast dX6_write_32 k_tx i4 ?_
  refine cj_eqG (G' := cj_up G tx (.inl (1, 90, .inl (upd xf len w)))) (by rw [nI_clamp (by omega), ch_nar hw.1 hw.2.1]) ?_
  refine cj_nm (fun G5 e6 => ?_)
  have k7 : G5 x = some (.inr (6, [.ref tx, .int (nI len), .ref rd, .ref pg, .ref m])) := by rw [e6, cj_up_n (cj_noa k_x k_tx)]; exact k_x
  have k8 : G5 tx = some (.inl (1, 90, .inl (upd xf len w))) := by rw [e6]; exact cj_up_s
  have r9 : cj_fr [x, tx] G G5 := by rw [e6]; exact cj_fr.up (cj_fr.rf (S := [x, tx]) (G := G)) (by simp)
  refine cj_pc (pc' := 33) rfl ?_
  refine cj_aload_n dX6_write_33 rfl ?_
  refine cj_dup dX6_write_34 rfl ?_
  refine cj_get flX6_13 dX6_write_35 k7 rfl ?_
  refine cj_iconst (v := 1) dX6_write_38 (by decide) ?_
  refine cj_pc (pc' := 39) rfl ?_
  refine cj_iadd dX6_write_39 ?_
  refine cj_st (st' := [.int (nI (len + 1)), .ref x]) (by rw [nI_1]) ?_
  refine cj_put flX6_13 dX6_write_40 k7 rfl rfl (Nat.le_of_ble_eq_true rfl) ?_
  refine cj_nm (fun G10 e11 => ?_)
  have k12 : G10 x = some (.inr (6, [.ref tx, .int (nI (len + 1)), .ref rd, .ref pg, .ref m])) := by rw [e11]; exact cj_up_s
  have k13 : G10 tx = some (.inl (1, 90, .inl (upd xf len w))) := by rw [e11, cj_up_n (cj_nao k8 k7)]; exact k8
  have r14 : cj_fr [x, tx] G G10 := by rw [e11]; exact cj_fr.up r9 (by simp)
  refine cj_iconst (v := 1) dX6_write_43 (by decide) ?_
  refine cj_zret rfl rfl dX6_write_44 ?_
  exact ⟨rfl, k12, k13, r14⟩
set_option maxHeartbeats 4000000 in
set_option maxRecDepth 100000 in
theorem t_write_0 {G : cj_G} {x tx rd m pg len : Nat} {xf : Nat → Int32} {w : Int32} (k_x : G x = some (.inr (6, [.ref tx, .int (nI len), .ref rd, .ref pg, .ref m]))) (k_tx : G tx = some (.inl (1, 90, .inl xf))) (hlen : len ≤ 90) (hw : ¬ ch_wr len w = true) : cj_T mX6_write 0 0 0 [.ref x, .int w] G (cj_rd G 0) (cj_no) := by
  have hw2 : ¬ w < 32 → ¬ 126 < w → ¬ len < 90 := fun h1 h2 h3 => hw (by simp only [ch_wr, Bool.and_eq_true, decide_eq_true_eq]; exact ⟨h1, h2, h3⟩)
  refine cj_T_of (by decide) (Nat.le_of_ble_eq_true rfl) ?_
  refine cj_lvs (lv' := [(0, .ref x), (1, .int w)]) rfl ?_
  refine cj_iload_n dX6_write_0 rfl ?_
  refine cj_bipush (v := 32) dX6_write_1 (by decide) ?_
  refine cj_icmp_lt (tgt := 21) dX6_write_3 (by decide) (fun h1 => ?_) (fun h1 => ?_)
  · refine cj_iconst (v := 0) dX6_write_21 (by decide) ?_
    refine cj_pc (pc' := 22) rfl ?_
    refine cj_zret rfl rfl dX6_write_22 ?_
    exact ⟨rfl, rfl⟩
  · refine cj_iload_n dX6_write_6 rfl ?_
    refine cj_bipush (v := 126) dX6_write_7 (by decide) ?_
    refine cj_icmp_gt (tgt := 21) dX6_write_9 (by decide) (fun h2 => ?_) (fun h2 => ?_)
    · refine cj_pc (pc' := 21) rfl ?_
      refine cj_iconst (v := 0) dX6_write_21 (by decide) ?_
      refine cj_zret rfl rfl dX6_write_22 ?_
      exact ⟨rfl, rfl⟩
    · refine cj_aload_n dX6_write_12 rfl ?_
      refine cj_get flX6_13 dX6_write_13 k_x rfl ?_
      refine cj_pc (pc' := 16) rfl ?_
      refine cj_bipush (v := 90) dX6_write_16 (by decide) ?_
      refine cj_icmp_lt (tgt := 23) dX6_write_18 (by decide) (fun h3 => absurd ((nI_ltI (b := 90) (by omega) (by decide)).mp h3) (hw2 (by assumption) (by assumption))) (fun h3 => ?_)
      refine cj_iconst (v := 0) dX6_write_21 (by decide) ?_
      refine cj_zret rfl rfl dX6_write_22 ?_
      exact ⟨rfl, rfl⟩
/-! constructors of the things that a reader makes -/
set_option maxHeartbeats 4000000 in
set_option maxRecDepth 100000 in
theorem t_Step_ref {G : cj_G} {q : Nat} {tg : Nat} {kd av : Int32} (k_q : G q = some (.inr (5, [.int 0, .int 0, .null, .int 0, .null]))) : cj_T mX5_init 1 0 0 [.ref q, .int kd, .int av, .ref tg] G (fun v G' => v = none ∧ G' q = some (.inr (5, [.int kd, .int av, .ref tg, .int 0, .null])) ∧ cj_fr [q] G G') (cj_no) := by
  refine cj_T_of (by decide) (Nat.le_of_ble_eq_true rfl) ?_
  refine cj_lvs (lv' := [(0, .ref q), (1, .int kd), (2, .int av), (3, .ref tg)]) rfl ?_
  refine cj_aload_n dX5_init_0 rfl ?_
  refine cj_obj dX5_init_1 lkX5_1 (by decide) (by decide) ?_
  refine cj_aload_n dX5_init_4 rfl ?_
  refine cj_iconst (v := 0) dX5_init_5 (by decide) ?_
  refine cj_pc (pc' := 6) rfl ?_
  refine cj_put flX5_7 dX5_init_6 k_q rfl rfl (Nat.le_of_ble_eq_true rfl) ?_
  refine cj_nm (fun G1 e2 => ?_)
  have k3 : G1 q = some (.inr (5, [.int 0, .int 0, .null, .int 0, .null])) := by rw [e2]; exact cj_up_s
  have r4 : cj_fr [q] G G1 := by rw [e2]; exact cj_fr.up (cj_fr.rf (S := [q]) (G := G)) (by simp)
  refine cj_aload_n dX5_init_9 rfl ?_
  refine cj_null dX5_init_10 ?_
  refine cj_put flX5_13 dX5_init_11 k3 rfl rfl (Nat.le_of_ble_eq_true rfl) ?_
  refine cj_nm (fun G5 e6 => ?_)
  have k7 : G5 q = some (.inr (5, [.int 0, .int 0, .null, .int 0, .null])) := by rw [e6]; exact cj_up_s
  have r8 : cj_fr [q] G G5 := by rw [e6]; exact cj_fr.up r4 (by simp)
  refine cj_pc (pc' := 14) rfl ?_
  refine cj_aload_n dX5_init_14 rfl ?_
  refine cj_iload_n dX5_init_15 rfl ?_
  refine cj_putF flX5_17 rfl rfl dX5_init_16 k7 rfl rfl (Nat.le_of_ble_eq_true rfl) ?_
  refine cj_nm (fun G9 e10 => ?_)
  have k11 : G9 q = some (.inr (5, [.int kd, .int 0, .null, .int 0, .null])) := by rw [e10]; exact cj_up_s
  have r12 : cj_fr [q] G G9 := by rw [e10]; exact cj_fr.up r8 (by simp)
  refine cj_aload_n dX5_init_19 rfl ?_
  refine cj_pc (pc' := 20) rfl ?_
  refine cj_iload_n dX5_init_20 rfl ?_
  refine cj_put flX5_20 dX5_init_21 k11 rfl rfl (Nat.le_of_ble_eq_true rfl) ?_
  refine cj_nm (fun G13 e14 => ?_)
  have k15 : G13 q = some (.inr (5, [.int kd, .int av, .null, .int 0, .null])) := by rw [e14]; exact cj_up_s
  have r16 : cj_fr [q] G G13 := by rw [e14]; exact cj_fr.up r12 (by simp)
  refine cj_aload_n dX5_init_24 rfl ?_
  refine cj_aload_n dX5_init_25 rfl ?_
  refine cj_pc (pc' := 26) rfl ?_
  refine cj_putF flX5_23 rfl rfl dX5_init_26 k15 rfl rfl (Nat.le_of_ble_eq_true rfl) ?_
  refine cj_nm (fun G17 e18 => ?_)
  have k19 : G17 q = some (.inr (5, [.int kd, .int av, .ref tg, .int 0, .null])) := by rw [e18]; exact cj_up_s
  have r20 : cj_fr [q] G G17 := by rw [e18]; exact cj_fr.up r16 (by simp)
  refine cj_vret rfl dX5_init_29 ?_
  exact ⟨rfl, k19, r20⟩
set_option maxHeartbeats 4000000 in
set_option maxRecDepth 100000 in
theorem t_Step_null {G : cj_G} {q : Nat}  {kd av : Int32} (k_q : G q = some (.inr (5, [.int 0, .int 0, .null, .int 0, .null]))) : cj_T mX5_init 1 0 0 [.ref q, .int kd, .int av, .null] G (fun v G' => v = none ∧ G' q = some (.inr (5, [.int kd, .int av, .null, .int 0, .null])) ∧ cj_fr [q] G G') (cj_no) := by
  refine cj_T_of (by decide) (Nat.le_of_ble_eq_true rfl) ?_
  refine cj_lvs (lv' := [(0, .ref q), (1, .int kd), (2, .int av), (3, .null)]) rfl ?_
  refine cj_aload_n dX5_init_0 rfl ?_
  refine cj_obj dX5_init_1 lkX5_1 (by decide) (by decide) ?_
  refine cj_aload_n dX5_init_4 rfl ?_
  refine cj_iconst (v := 0) dX5_init_5 (by decide) ?_
  refine cj_pc (pc' := 6) rfl ?_
  refine cj_put flX5_7 dX5_init_6 k_q rfl rfl (Nat.le_of_ble_eq_true rfl) ?_
  refine cj_nm (fun G1 e2 => ?_)
  have k3 : G1 q = some (.inr (5, [.int 0, .int 0, .null, .int 0, .null])) := by rw [e2]; exact cj_up_s
  have r4 : cj_fr [q] G G1 := by rw [e2]; exact cj_fr.up (cj_fr.rf (S := [q]) (G := G)) (by simp)
  refine cj_aload_n dX5_init_9 rfl ?_
  refine cj_null dX5_init_10 ?_
  refine cj_put flX5_13 dX5_init_11 k3 rfl rfl (Nat.le_of_ble_eq_true rfl) ?_
  refine cj_nm (fun G5 e6 => ?_)
  have k7 : G5 q = some (.inr (5, [.int 0, .int 0, .null, .int 0, .null])) := by rw [e6]; exact cj_up_s
  have r8 : cj_fr [q] G G5 := by rw [e6]; exact cj_fr.up r4 (by simp)
  refine cj_pc (pc' := 14) rfl ?_
  refine cj_aload_n dX5_init_14 rfl ?_
  refine cj_iload_n dX5_init_15 rfl ?_
  refine cj_putF flX5_17 rfl rfl dX5_init_16 k7 rfl rfl (Nat.le_of_ble_eq_true rfl) ?_
  refine cj_nm (fun G9 e10 => ?_)
  have k11 : G9 q = some (.inr (5, [.int kd, .int 0, .null, .int 0, .null])) := by rw [e10]; exact cj_up_s
  have r12 : cj_fr [q] G G9 := by rw [e10]; exact cj_fr.up r8 (by simp)
  refine cj_aload_n dX5_init_19 rfl ?_
  refine cj_pc (pc' := 20) rfl ?_
  refine cj_iload_n dX5_init_20 rfl ?_
  refine cj_put flX5_20 dX5_init_21 k11 rfl rfl (Nat.le_of_ble_eq_true rfl) ?_
  refine cj_nm (fun G13 e14 => ?_)
  have k15 : G13 q = some (.inr (5, [.int kd, .int av, .null, .int 0, .null])) := by rw [e14]; exact cj_up_s
  have r16 : cj_fr [q] G G13 := by rw [e14]; exact cj_fr.up r12 (by simp)
  refine cj_aload_n dX5_init_24 rfl ?_
  refine cj_aload_nN dX5_init_25 rfl ?_
  refine cj_pc (pc' := 26) rfl ?_
  refine cj_putF flX5_23 rfl rfl dX5_init_26 k15 rfl rfl (Nat.le_of_ble_eq_true rfl) ?_
  refine cj_nm (fun G17 e18 => ?_)
  have k19 : G17 q = some (.inr (5, [.int kd, .int av, .null, .int 0, .null])) := by rw [e18]; exact cj_up_s
  have r20 : cj_fr [q] G G17 := by rw [e18]; exact cj_fr.up r16 (by simp)
  refine cj_vret rfl dX5_init_29 ?_
  exact ⟨rfl, k19, r20⟩
set_option maxHeartbeats 4000000 in
set_option maxRecDepth 100000 in
theorem t_Row {G : cj_G} {q : Nat} (k_q : G q = some (.inr (4, [.null, .null]))) : cj_T mX4_init 1 0 0 [.ref q] G (fun v G' => v = none ∧ G' q = some (.inr (4, [.null, .null])) ∧ cj_fr [q] G G') (cj_no) := by
  refine cj_T_of (by decide) (Nat.le_of_ble_eq_true rfl) ?_
  refine cj_lvs (lv' := [(0, .ref q)]) rfl ?_
  refine cj_aload_n dX4_init_0 rfl ?_
  refine cj_obj dX4_init_1 lkX4_3 (by decide) (by decide) ?_
  refine cj_aload_n dX4_init_4 rfl ?_
  refine cj_null dX4_init_5 ?_
  refine cj_pc (pc' := 6) rfl ?_
  refine cj_put flX4_9 dX4_init_6 k_q rfl rfl (Nat.le_of_ble_eq_true rfl) ?_
  refine cj_nm (fun G1 e2 => ?_)
  have k3 : G1 q = some (.inr (4, [.null, .null])) := by rw [e2]; exact cj_up_s
  have r4 : cj_fr [q] G G1 := by rw [e2]; exact cj_fr.up (cj_fr.rf (S := [q]) (G := G)) (by simp)
  refine cj_aload_n dX4_init_9 rfl ?_
  refine cj_null dX4_init_10 ?_
  refine cj_put flX4_15 dX4_init_11 k3 rfl rfl (Nat.le_of_ble_eq_true rfl) ?_
  refine cj_nm (fun G5 e6 => ?_)
  have k7 : G5 q = some (.inr (4, [.null, .null])) := by rw [e6]; exact cj_up_s
  have r8 : cj_fr [q] G G5 := by rw [e6]; exact cj_fr.up r4 (by simp)
  refine cj_pc (pc' := 14) rfl ?_
  refine cj_vret rfl dX4_init_14 ?_
  exact ⟨rfl, k7, r8⟩
theorem cj_fr.none {S : List Nat} {G G1 : cj_G} {a : Nat} (h : cj_fr S G G1) (h1 : G1 a = none) (ha : a ∉ S) : G a = none := by
  cases hg : G a with
  | none => rfl
  | some x => rw [h a x ha hg] at h1; cases h1
set_option maxHeartbeats 4000000 in
set_option maxRecDepth 100000 in
theorem t_Code {G : cj_G} {q : Nat} (k_q : G q = some (.inr (0, [.null, .int 0]))) : cj_T mX0_init 1 1 360 [.ref q] G (fun v G' => v = none ∧ ∃ pa : Nat, G' q = some (.inr (0, [.ref pa, .int 0])) ∧ G' pa = some (.inl (0, 360, .inl (fun _ => 0))) ∧ G pa = none ∧ cj_fr [q] G G') (cj_no) := by
  refine cj_T_of (by decide) (Nat.le_of_ble_eq_true rfl) ?_
  refine cj_lvs (lv' := [(0, .ref q)]) rfl ?_
  refine cj_aload_n dX0_init_0 rfl ?_
  refine cj_obj dX0_init_1 lkX0_3 (by decide) (by decide) ?_
  refine cj_aload_n dX0_init_4 rfl ?_
  refine cj_sipush (v := 360) dX0_init_5 (by decide) ?_
  refine cj_pc (pc' := 8) rfl ?_
  refine cj_newa (t := 0) (N := 360) (a0 := (360, .inl (fun _ => 0))) (k := 0) (n := 0) (ty := .int) rfl (by intro C h; cases h) rfl ac_int (fun cA => rfl) (by decide +kernel) (by decide +kernel) (by decide +kernel) dX0_init_8 (fun q1 z2 => ?_)
  refine cj_nm (fun G3 e4 => ?_)
  have k5 : G3 q = some (.inr (0, [.null, .int 0])) := by rw [e4]; exact cj_up_ne k_q z2
  have k6 : G3 q1 = some (.inl (0, 360, .inl (fun _ => 0))) := by rw [e4]; exact cj_up_s
  have r7 : cj_fr [q] G G3 := by rw [e4]; exact cj_fr.new (cj_fr.rf (S := [q]) (G := G)) z2
  have y8 : G q1 = none := cj_fr.none (cj_fr.rf (S := [q]) (G := G)) z2 (cj_ni1 (Ne.symm (cj_nn k_q z2)))
  refine cj_putF flX0_11 rfl rfl dX0_init_10 k5 rfl rfl (Nat.le_of_ble_eq_true rfl) ?_
  refine cj_nm (fun G9 e10 => ?_)
  have k11 : G9 q = some (.inr (0, [.ref q1, .int 0])) := by rw [e10]; exact cj_up_s
  have k12 : G9 q1 = some (.inl (0, 360, .inl (fun _ => 0))) := by rw [e10, cj_up_n (cj_nao k6 k5)]; exact k6
  have r13 : cj_fr [q] G G9 := by rw [e10]; exact cj_fr.up r7 (by simp)
  refine cj_aload_n dX0_init_13 rfl ?_
  refine cj_iconst (v := 0) dX0_init_14 (by decide) ?_
  refine cj_pc (pc' := 15) rfl ?_
  refine cj_put flX0_15 dX0_init_15 k11 rfl rfl (Nat.le_of_ble_eq_true rfl) ?_
  refine cj_nm (fun G14 e15 => ?_)
  have k16 : G14 q = some (.inr (0, [.ref q1, .int 0])) := by rw [e15]; exact cj_up_s
  have k17 : G14 q1 = some (.inl (0, 360, .inl (fun _ => 0))) := by rw [e15, cj_up_n (cj_nao k12 k11)]; exact k12
  have r18 : cj_fr [q] G G14 := by rw [e15]; exact cj_fr.up r13 (by simp)
  refine cj_vret rfl dX0_init_18 ?_
  exact ⟨rfl, q1, k16, k17, y8, r18⟩
set_option maxHeartbeats 4000000 in
set_option maxRecDepth 100000 in
theorem t_Reader {G : cj_G} {q : Nat} (k_q : G q = some (.inr (3, [.null, .int 0, .int 0, .null, .int 0, .int 0]))) : cj_T mX3_init 1 2 180 [.ref q] G (fun v G' => v = none ∧ ∃ rt nb : Nat, G' q = some (.inr (3, [.ref rt, .int 0, .int 0, .ref nb, .int 0, .int (-1)])) ∧ G' rt = some (.inl (1, 90, .inl (fun _ => 0))) ∧ G' nb = some (.inl (1, 90, .inl (fun _ => 0))) ∧ G rt = none ∧ G nb = none ∧ rt ≠ nb ∧ cj_fr [q] G G') (cj_no) := by
  refine cj_T_of (by decide) (Nat.le_of_ble_eq_true rfl) ?_
  refine cj_lvs (lv' := [(0, .ref q)]) rfl ?_
  refine cj_aload_n dX3_init_0 rfl ?_
  refine cj_obj dX3_init_1 lkX3_3 (by decide) (by decide) ?_
  refine cj_aload_n dX3_init_4 rfl ?_
  refine cj_bipush (v := 90) dX3_init_5 (by decide) ?_
  refine cj_pc (pc' := 7) rfl ?_
  refine cj_newa (t := 1) (N := 90) (a0 := (90, .inl (fun _ => 0))) (k := 1) (n := 90) (ty := .char) rfl (by intro C h; cases h) rfl ac_char (fun cA => rfl) (by decide +kernel) (by decide +kernel) (by decide +kernel) dX3_init_7 (fun q1 z2 => ?_)
  refine cj_nm (fun G3 e4 => ?_)
  have k5 : G3 q = some (.inr (3, [.null, .int 0, .int 0, .null, .int 0, .int 0])) := by rw [e4]; exact cj_up_ne k_q z2
  have k6 : G3 q1 = some (.inl (1, 90, .inl (fun _ => 0))) := by rw [e4]; exact cj_up_s
  have r7 : cj_fr [q] G G3 := by rw [e4]; exact cj_fr.new (cj_fr.rf (S := [q]) (G := G)) z2
  have y8 : G q1 = none := cj_fr.none (cj_fr.rf (S := [q]) (G := G)) z2 (cj_ni1 (Ne.symm (cj_nn k_q z2)))
  refine cj_putF flX3_9 rfl rfl dX3_init_9 k5 rfl rfl (Nat.le_of_ble_eq_true rfl) ?_
  refine cj_nm (fun G9 e10 => ?_)
  have k11 : G9 q = some (.inr (3, [.ref q1, .int 0, .int 0, .null, .int 0, .int 0])) := by rw [e10]; exact cj_up_s
  have k12 : G9 q1 = some (.inl (1, 90, .inl (fun _ => 0))) := by rw [e10, cj_up_n (cj_nao k6 k5)]; exact k6
  have r13 : cj_fr [q] G G9 := by rw [e10]; exact cj_fr.up r7 (by simp)
  refine cj_aload_n dX3_init_12 rfl ?_
  refine cj_iconst (v := 0) dX3_init_13 (by decide) ?_
  refine cj_pc (pc' := 14) rfl ?_
  refine cj_put flX3_15 dX3_init_14 k11 rfl rfl (Nat.le_of_ble_eq_true rfl) ?_
  refine cj_nm (fun G14 e15 => ?_)
  have k16 : G14 q = some (.inr (3, [.ref q1, .int 0, .int 0, .null, .int 0, .int 0])) := by rw [e15]; exact cj_up_s
  have k17 : G14 q1 = some (.inl (1, 90, .inl (fun _ => 0))) := by rw [e15, cj_up_n (cj_nao k12 k11)]; exact k12
  have r18 : cj_fr [q] G G14 := by rw [e15]; exact cj_fr.up r13 (by simp)
  refine cj_aload_n dX3_init_17 rfl ?_
  refine cj_iconst (v := 0) dX3_init_18 (by decide) ?_
  refine cj_put flX3_19 dX3_init_19 k16 rfl rfl (Nat.le_of_ble_eq_true rfl) ?_
  refine cj_nm (fun G19 e20 => ?_)
  have k21 : G19 q = some (.inr (3, [.ref q1, .int 0, .int 0, .null, .int 0, .int 0])) := by rw [e20]; exact cj_up_s
  have k22 : G19 q1 = some (.inl (1, 90, .inl (fun _ => 0))) := by rw [e20, cj_up_n (cj_nao k17 k16)]; exact k17
  have r23 : cj_fr [q] G G19 := by rw [e20]; exact cj_fr.up r18 (by simp)
  refine cj_pc (pc' := 22) rfl ?_
  refine cj_aload_n dX3_init_22 rfl ?_
  refine cj_bipush (v := 90) dX3_init_23 (by decide) ?_
  refine cj_newa (t := 1) (N := 90) (a0 := (90, .inl (fun _ => 0))) (k := 0) (n := 0) (ty := .char) rfl (by intro C h; cases h) rfl ac_char (fun cA => rfl) (by decide +kernel) (by decide +kernel) (by decide +kernel) dX3_init_25 (fun q24 z25 => ?_)
  refine cj_nm (fun G26 e27 => ?_)
  have k28 : G26 q = some (.inr (3, [.ref q1, .int 0, .int 0, .null, .int 0, .int 0])) := by rw [e27]; exact cj_up_ne k21 z25
  have k29 : G26 q1 = some (.inl (1, 90, .inl (fun _ => 0))) := by rw [e27]; exact cj_up_ne k22 z25
  have n_q1_q24 : q1 ≠ q24 := cj_nn k22 z25
  have k30 : G26 q24 = some (.inl (1, 90, .inl (fun _ => 0))) := by rw [e27]; exact cj_up_s
  have r31 : cj_fr [q] G G26 := by rw [e27]; exact cj_fr.new r23 z25
  have y32 : G q24 = none := cj_fr.none r23 z25 (cj_ni1 (Ne.symm (cj_nn k21 z25)))
  refine cj_putF flX3_22 rfl rfl dX3_init_27 k28 rfl rfl (Nat.le_of_ble_eq_true rfl) ?_
  refine cj_nm (fun G33 e34 => ?_)
  have k35 : G33 q = some (.inr (3, [.ref q1, .int 0, .int 0, .ref q24, .int 0, .int 0])) := by rw [e34]; exact cj_up_s
  have k36 : G33 q1 = some (.inl (1, 90, .inl (fun _ => 0))) := by rw [e34, cj_up_n (cj_nao k29 k28)]; exact k29
  have k37 : G33 q24 = some (.inl (1, 90, .inl (fun _ => 0))) := by rw [e34, cj_up_n (cj_nao k30 k28)]; exact k30
  have r38 : cj_fr [q] G G33 := by rw [e34]; exact cj_fr.up r31 (by simp)
  refine cj_pc (pc' := 30) rfl ?_
  refine cj_aload_n dX3_init_30 rfl ?_
  refine cj_iconst (v := 0) dX3_init_31 (by decide) ?_
  refine cj_put flX3_25 dX3_init_32 k35 rfl rfl (Nat.le_of_ble_eq_true rfl) ?_
  refine cj_nm (fun G39 e40 => ?_)
  have k41 : G39 q = some (.inr (3, [.ref q1, .int 0, .int 0, .ref q24, .int 0, .int 0])) := by rw [e40]; exact cj_up_s
  have k42 : G39 q1 = some (.inl (1, 90, .inl (fun _ => 0))) := by rw [e40, cj_up_n (cj_nao k36 k35)]; exact k36
  have k43 : G39 q24 = some (.inl (1, 90, .inl (fun _ => 0))) := by rw [e40, cj_up_n (cj_nao k37 k35)]; exact k37
  have r44 : cj_fr [q] G G39 := by rw [e40]; exact cj_fr.up r38 (by simp)
  refine cj_aload_n dX3_init_35 rfl ?_
  refine cj_pc (pc' := 36) rfl ?_
  refine cj_iconst (v := (-1)) dX3_init_36 (by decide) ?_
  refine cj_put flX3_28 dX3_init_37 k41 rfl rfl (Nat.le_of_ble_eq_true rfl) ?_
  refine cj_nm (fun G45 e46 => ?_)
  have k47 : G45 q = some (.inr (3, [.ref q1, .int 0, .int 0, .ref q24, .int 0, .int (-1)])) := by rw [e46]; exact cj_up_s
  have k48 : G45 q1 = some (.inl (1, 90, .inl (fun _ => 0))) := by rw [e46, cj_up_n (cj_nao k42 k41)]; exact k42
  have k49 : G45 q24 = some (.inl (1, 90, .inl (fun _ => 0))) := by rw [e46, cj_up_n (cj_nao k43 k41)]; exact k43
  have r50 : cj_fr [q] G G45 := by rw [e46]; exact cj_fr.up r44 (by simp)
  refine cj_vret rfl dX3_init_40 ?_
  exact ⟨rfl, q1, q24, k47, k48, k49, y8, y32, n_q1_q24, r50⟩
set_option maxHeartbeats 4000000 in
set_option maxRecDepth 100000 in
theorem t_Heap {G : cj_G} {q N : Nat} (k_q : G q = some (.inr (1, [.null, .null, .null, .int 0, .int 0, .int 0]))) (hN : N ≤ 200) : cj_T mX1_init 1 3 (0 + N + N + N) [.ref q, .int (nI N)] G (fun v G' => v = none ∧ ∃ a b c : Nat, G' q = some (.inr (1, [.ref a, .ref b, .ref c, .int 0, .int 0, .int 0])) ∧ G' a = some (.inl (0, N, .inl (fun _ => 0))) ∧ G' b = some (.inl (0, N, .inl (fun _ => 0))) ∧ G' c = some (.inl (0, N, .inl (fun _ => 0))) ∧ G a = none ∧ G b = none ∧ G c = none ∧ a ≠ b ∧ a ≠ c ∧ b ≠ c ∧ cj_fr [q] G G') (cj_no) := by
  refine cj_T_of (by decide) (Nat.le_of_ble_eq_true rfl) ?_
  refine cj_lvs (lv' := [(0, .ref q), (1, .int (nI N))]) rfl ?_
  refine cj_aload_n dX1_init_0 rfl ?_
  refine cj_obj dX1_init_1 lkX1_3 (by decide) (by decide) ?_
  refine cj_aload_n dX1_init_4 rfl ?_
  refine cj_iconst (v := 0) dX1_init_5 (by decide) ?_
  refine cj_pc (pc' := 6) rfl ?_
  refine cj_put flX1_9 dX1_init_6 k_q rfl rfl (Nat.le_of_ble_eq_true rfl) ?_
  refine cj_nm (fun G1 e2 => ?_)
  have k3 : G1 q = some (.inr (1, [.null, .null, .null, .int 0, .int 0, .int 0])) := by rw [e2]; exact cj_up_s
  have r4 : cj_fr [q] G G1 := by rw [e2]; exact cj_fr.up (cj_fr.rf (S := [q]) (G := G)) (by simp)
  refine cj_aload_n dX1_init_9 rfl ?_
  refine cj_iconst (v := 0) dX1_init_10 (by decide) ?_
  refine cj_put flX1_15 dX1_init_11 k3 rfl rfl (Nat.le_of_ble_eq_true rfl) ?_
  refine cj_nm (fun G5 e6 => ?_)
  have k7 : G5 q = some (.inr (1, [.null, .null, .null, .int 0, .int 0, .int 0])) := by rw [e6]; exact cj_up_s
  have r8 : cj_fr [q] G G5 := by rw [e6]; exact cj_fr.up r4 (by simp)
  refine cj_pc (pc' := 14) rfl ?_
  refine cj_aload_n dX1_init_14 rfl ?_
  refine cj_iconst (v := 0) dX1_init_15 (by decide) ?_
  refine cj_put flX1_18 dX1_init_16 k7 rfl rfl (Nat.le_of_ble_eq_true rfl) ?_
  refine cj_nm (fun G9 e10 => ?_)
  have k11 : G9 q = some (.inr (1, [.null, .null, .null, .int 0, .int 0, .int 0])) := by rw [e10]; exact cj_up_s
  have r12 : cj_fr [q] G G9 := by rw [e10]; exact cj_fr.up r8 (by simp)
  refine cj_aload_n dX1_init_19 rfl ?_
  refine cj_pc (pc' := 20) rfl ?_
  refine cj_iload_n dX1_init_20 rfl ?_
  refine cj_newa (t := 0) (N := N) (a0 := (N, .inl (fun _ => 0))) (k := 2) (n := 0 + N + N) (ty := .int) rfl (by intro C h; cases h) rfl ac_int (fun cA => rfl) (nI_pos (by omega)) (nI_clamp (by omega)) (by show N * 4 ≤ 536870912; omega) dX1_init_21 (fun q13 z14 => ?_)
  refine cj_nm (fun G15 e16 => ?_)
  have k17 : G15 q = some (.inr (1, [.null, .null, .null, .int 0, .int 0, .int 0])) := by rw [e16]; exact cj_up_ne k11 z14
  have k18 : G15 q13 = some (.inl (0, N, .inl (fun _ => 0))) := by rw [e16]; exact cj_up_s
  have r19 : cj_fr [q] G G15 := by rw [e16]; exact cj_fr.new r12 z14
  have y20 : G q13 = none := cj_fr.none r12 z14 (cj_ni1 (Ne.symm (cj_nn k11 z14)))
  refine cj_put flX1_21 dX1_init_23 k17 rfl rfl (Nat.le_of_ble_eq_true rfl) ?_
  refine cj_nm (fun G21 e22 => ?_)
  have k23 : G21 q = some (.inr (1, [.ref q13, .null, .null, .int 0, .int 0, .int 0])) := by rw [e22]; exact cj_up_s
  have k24 : G21 q13 = some (.inl (0, N, .inl (fun _ => 0))) := by rw [e22, cj_up_n (cj_nao k18 k17)]; exact k18
  have r25 : cj_fr [q] G G21 := by rw [e22]; exact cj_fr.up r19 (by simp)
  refine cj_aload_n dX1_init_26 rfl ?_
  refine cj_pc (pc' := 27) rfl ?_
  refine cj_iload_n dX1_init_27 rfl ?_
  refine cj_newa (t := 0) (N := N) (a0 := (N, .inl (fun _ => 0))) (k := 1) (n := 0 + N) (ty := .int) rfl (by intro C h; cases h) rfl ac_int (fun cA => rfl) (nI_pos (by omega)) (nI_clamp (by omega)) (by show N * 4 ≤ 536870912; omega) dX1_init_28 (fun q26 z27 => ?_)
  refine cj_nm (fun G28 e29 => ?_)
  have k30 : G28 q = some (.inr (1, [.ref q13, .null, .null, .int 0, .int 0, .int 0])) := by rw [e29]; exact cj_up_ne k23 z27
  have k31 : G28 q13 = some (.inl (0, N, .inl (fun _ => 0))) := by rw [e29]; exact cj_up_ne k24 z27
  have n_q13_q26 : q13 ≠ q26 := cj_nn k24 z27
  have k32 : G28 q26 = some (.inl (0, N, .inl (fun _ => 0))) := by rw [e29]; exact cj_up_s
  have r33 : cj_fr [q] G G28 := by rw [e29]; exact cj_fr.new r25 z27
  have y34 : G q26 = none := cj_fr.none r25 z27 (cj_ni1 (Ne.symm (cj_nn k23 z27)))
  refine cj_put flX1_25 dX1_init_30 k30 rfl rfl (Nat.le_of_ble_eq_true rfl) ?_
  refine cj_nm (fun G35 e36 => ?_)
  have k37 : G35 q = some (.inr (1, [.ref q13, .ref q26, .null, .int 0, .int 0, .int 0])) := by rw [e36]; exact cj_up_s
  have k38 : G35 q13 = some (.inl (0, N, .inl (fun _ => 0))) := by rw [e36, cj_up_n (cj_nao k31 k30)]; exact k31
  have k39 : G35 q26 = some (.inl (0, N, .inl (fun _ => 0))) := by rw [e36, cj_up_n (cj_nao k32 k30)]; exact k32
  have r40 : cj_fr [q] G G35 := by rw [e36]; exact cj_fr.up r33 (by simp)
  refine cj_aload_n dX1_init_33 rfl ?_
  refine cj_pc (pc' := 34) rfl ?_
  refine cj_iload_n dX1_init_34 rfl ?_
  refine cj_newa (t := 0) (N := N) (a0 := (N, .inl (fun _ => 0))) (k := 0) (n := 0) (ty := .int) rfl (by intro C h; cases h) rfl ac_int (fun cA => rfl) (nI_pos (by omega)) (nI_clamp (by omega)) (by show N * 4 ≤ 536870912; omega) dX1_init_35 (fun q41 z42 => ?_)
  refine cj_nm (fun G43 e44 => ?_)
  have k45 : G43 q = some (.inr (1, [.ref q13, .ref q26, .null, .int 0, .int 0, .int 0])) := by rw [e44]; exact cj_up_ne k37 z42
  have k46 : G43 q13 = some (.inl (0, N, .inl (fun _ => 0))) := by rw [e44]; exact cj_up_ne k38 z42
  have n_q13_q41 : q13 ≠ q41 := cj_nn k38 z42
  have k47 : G43 q26 = some (.inl (0, N, .inl (fun _ => 0))) := by rw [e44]; exact cj_up_ne k39 z42
  have n_q26_q41 : q26 ≠ q41 := cj_nn k39 z42
  have k48 : G43 q41 = some (.inl (0, N, .inl (fun _ => 0))) := by rw [e44]; exact cj_up_s
  have r49 : cj_fr [q] G G43 := by rw [e44]; exact cj_fr.new r40 z42
  have y50 : G q41 = none := cj_fr.none r40 z42 (cj_ni1 (Ne.symm (cj_nn k37 z42)))
  refine cj_putF flX1_28 rfl rfl dX1_init_37 k45 rfl rfl (Nat.le_of_ble_eq_true rfl) ?_
  refine cj_nm (fun G51 e52 => ?_)
  have k53 : G51 q = some (.inr (1, [.ref q13, .ref q26, .ref q41, .int 0, .int 0, .int 0])) := by rw [e52]; exact cj_up_s
  have k54 : G51 q13 = some (.inl (0, N, .inl (fun _ => 0))) := by rw [e52, cj_up_n (cj_nao k46 k45)]; exact k46
  have k55 : G51 q26 = some (.inl (0, N, .inl (fun _ => 0))) := by rw [e52, cj_up_n (cj_nao k47 k45)]; exact k47
  have k56 : G51 q41 = some (.inl (0, N, .inl (fun _ => 0))) := by rw [e52, cj_up_n (cj_nao k48 k45)]; exact k48
  have r57 : cj_fr [q] G G51 := by rw [e52]; exact cj_fr.up r49 (by simp)
  refine cj_vret rfl dX1_init_40 ?_
  exact ⟨rfl, q13, q26, q41, k53, k54, k55, k56, y20, y34, y50, n_q13_q26, n_q13_q41, n_q26_q41, r57⟩
set_option maxHeartbeats 4000000 in
set_option maxRecDepth 100000 in
theorem t_Machine {G : cj_G} {q pg o : Nat} (k_q : G q = some (.inr (2, [.null, .null, .null, .int 0, .int 0, .int 0, .int 0, .int 0, .int 0]))) : cj_T mX2_init 1 1 40 [.ref q, .ref pg, .ref o] G (fun v G' => v = none ∧ ∃ sk : Nat, G' q = some (.inr (2, [.ref pg, .ref o, .ref sk, .int 0, .int 1, .int 1, .int 0, .int 0, .int 0])) ∧ G' sk = some (.inl (0, 40, .inl (fun _ => 0))) ∧ G sk = none ∧ cj_fr [q] G G') (cj_no) := by
  refine cj_T_of (by decide) (Nat.le_of_ble_eq_true rfl) ?_
  refine cj_lvs (lv' := [(0, .ref q), (1, .ref pg), (2, .ref o)]) rfl ?_
  refine cj_aload_n dX2_init_0 rfl ?_
  refine cj_obj dX2_init_1 lkX2_3 (by decide) (by decide) ?_
  refine cj_aload_n dX2_init_4 rfl ?_
  refine cj_bipush (v := 40) dX2_init_5 (by decide) ?_
  refine cj_pc (pc' := 7) rfl ?_
  refine cj_newa (t := 0) (N := 40) (a0 := (40, .inl (fun _ => 0))) (k := 0) (n := 0) (ty := .int) rfl (by intro C h; cases h) rfl ac_int (fun cA => rfl) (by decide +kernel) (by decide +kernel) (by decide +kernel) dX2_init_7 (fun q1 z2 => ?_)
  refine cj_nm (fun G3 e4 => ?_)
  have k5 : G3 q = some (.inr (2, [.null, .null, .null, .int 0, .int 0, .int 0, .int 0, .int 0, .int 0])) := by rw [e4]; exact cj_up_ne k_q z2
  have k6 : G3 q1 = some (.inl (0, 40, .inl (fun _ => 0))) := by rw [e4]; exact cj_up_s
  have r7 : cj_fr [q] G G3 := by rw [e4]; exact cj_fr.new (cj_fr.rf (S := [q]) (G := G)) z2
  have y8 : G q1 = none := cj_fr.none (cj_fr.rf (S := [q]) (G := G)) z2 (cj_ni1 (Ne.symm (cj_nn k_q z2)))
  refine cj_putF flX2_9 rfl rfl dX2_init_9 k5 rfl rfl (Nat.le_of_ble_eq_true rfl) ?_
  refine cj_nm (fun G9 e10 => ?_)
  have k11 : G9 q = some (.inr (2, [.null, .null, .ref q1, .int 0, .int 0, .int 0, .int 0, .int 0, .int 0])) := by rw [e10]; exact cj_up_s
  have k12 : G9 q1 = some (.inl (0, 40, .inl (fun _ => 0))) := by rw [e10, cj_up_n (cj_nao k6 k5)]; exact k6
  have r13 : cj_fr [q] G G9 := by rw [e10]; exact cj_fr.up r7 (by simp)
  refine cj_aload_n dX2_init_12 rfl ?_
  refine cj_iconst (v := 0) dX2_init_13 (by decide) ?_
  refine cj_pc (pc' := 14) rfl ?_
  refine cj_put flX2_15 dX2_init_14 k11 rfl rfl (Nat.le_of_ble_eq_true rfl) ?_
  refine cj_nm (fun G14 e15 => ?_)
  have k16 : G14 q = some (.inr (2, [.null, .null, .ref q1, .int 0, .int 0, .int 0, .int 0, .int 0, .int 0])) := by rw [e15]; exact cj_up_s
  have k17 : G14 q1 = some (.inl (0, 40, .inl (fun _ => 0))) := by rw [e15, cj_up_n (cj_nao k12 k11)]; exact k12
  have r18 : cj_fr [q] G G14 := by rw [e15]; exact cj_fr.up r13 (by simp)
  refine cj_aload_n dX2_init_17 rfl ?_
  refine cj_iconst (v := 1) dX2_init_18 (by decide) ?_
  refine cj_put flX2_19 dX2_init_19 k16 rfl rfl (Nat.le_of_ble_eq_true rfl) ?_
  refine cj_nm (fun G19 e20 => ?_)
  have k21 : G19 q = some (.inr (2, [.null, .null, .ref q1, .int 0, .int 1, .int 0, .int 0, .int 0, .int 0])) := by rw [e20]; exact cj_up_s
  have k22 : G19 q1 = some (.inl (0, 40, .inl (fun _ => 0))) := by rw [e20, cj_up_n (cj_nao k17 k16)]; exact k17
  have r23 : cj_fr [q] G G19 := by rw [e20]; exact cj_fr.up r18 (by simp)
  refine cj_pc (pc' := 22) rfl ?_
  refine cj_aload_n dX2_init_22 rfl ?_
  refine cj_iconst (v := 1) dX2_init_23 (by decide) ?_
  refine cj_put flX2_22 dX2_init_24 k21 rfl rfl (Nat.le_of_ble_eq_true rfl) ?_
  refine cj_nm (fun G24 e25 => ?_)
  have k26 : G24 q = some (.inr (2, [.null, .null, .ref q1, .int 0, .int 1, .int 1, .int 0, .int 0, .int 0])) := by rw [e25]; exact cj_up_s
  have k27 : G24 q1 = some (.inl (0, 40, .inl (fun _ => 0))) := by rw [e25, cj_up_n (cj_nao k22 k21)]; exact k22
  have r28 : cj_fr [q] G G24 := by rw [e25]; exact cj_fr.up r23 (by simp)
  refine cj_aload_n dX2_init_27 rfl ?_
  refine cj_pc (pc' := 28) rfl ?_
  refine cj_iconst (v := 0) dX2_init_28 (by decide) ?_
  refine cj_put flX2_25 dX2_init_29 k26 rfl rfl (Nat.le_of_ble_eq_true rfl) ?_
  refine cj_nm (fun G29 e30 => ?_)
  have k31 : G29 q = some (.inr (2, [.null, .null, .ref q1, .int 0, .int 1, .int 1, .int 0, .int 0, .int 0])) := by rw [e30]; exact cj_up_s
  have k32 : G29 q1 = some (.inl (0, 40, .inl (fun _ => 0))) := by rw [e30, cj_up_n (cj_nao k27 k26)]; exact k27
  have r33 : cj_fr [q] G G29 := by rw [e30]; exact cj_fr.up r28 (by simp)
  refine cj_aload_n dX2_init_32 rfl ?_
  refine cj_iconst (v := 0) dX2_init_33 (by decide) ?_
  refine cj_pc (pc' := 34) rfl ?_
  refine cj_put flX2_28 dX2_init_34 k31 rfl rfl (Nat.le_of_ble_eq_true rfl) ?_
  refine cj_nm (fun G34 e35 => ?_)
  have k36 : G34 q = some (.inr (2, [.null, .null, .ref q1, .int 0, .int 1, .int 1, .int 0, .int 0, .int 0])) := by rw [e35]; exact cj_up_s
  have k37 : G34 q1 = some (.inl (0, 40, .inl (fun _ => 0))) := by rw [e35, cj_up_n (cj_nao k32 k31)]; exact k32
  have r38 : cj_fr [q] G G34 := by rw [e35]; exact cj_fr.up r33 (by simp)
  refine cj_aload_n dX2_init_37 rfl ?_
  refine cj_iconst (v := 0) dX2_init_38 (by decide) ?_
  refine cj_put flX2_32 dX2_init_39 k36 rfl rfl (Nat.le_of_ble_eq_true rfl) ?_
  refine cj_nm (fun G39 e40 => ?_)
  have k41 : G39 q = some (.inr (2, [.null, .null, .ref q1, .int 0, .int 1, .int 1, .int 0, .int 0, .int 0])) := by rw [e40]; exact cj_up_s
  have k42 : G39 q1 = some (.inl (0, 40, .inl (fun _ => 0))) := by rw [e40, cj_up_n (cj_nao k37 k36)]; exact k37
  have r43 : cj_fr [q] G G39 := by rw [e40]; exact cj_fr.up r38 (by simp)
  refine cj_pc (pc' := 42) rfl ?_
  refine cj_aload_n dX2_init_42 rfl ?_
  refine cj_aload_n dX2_init_43 rfl ?_
  refine cj_putF flX2_35 rfl rfl dX2_init_44 k41 rfl rfl (Nat.le_of_ble_eq_true rfl) ?_
  refine cj_nm (fun G44 e45 => ?_)
  have k46 : G44 q = some (.inr (2, [.ref pg, .null, .ref q1, .int 0, .int 1, .int 1, .int 0, .int 0, .int 0])) := by rw [e45]; exact cj_up_s
  have k47 : G44 q1 = some (.inl (0, 40, .inl (fun _ => 0))) := by rw [e45, cj_up_n (cj_nao k42 k41)]; exact k42
  have r48 : cj_fr [q] G G44 := by rw [e45]; exact cj_fr.up r43 (by simp)
  refine cj_aload_n dX2_init_47 rfl ?_
  refine cj_pc (pc' := 48) rfl ?_
  refine cj_aload_n dX2_init_48 rfl ?_
  refine cj_putF flX2_39 rfl rfl dX2_init_49 k46 rfl rfl (Nat.le_of_ble_eq_true rfl) ?_
  refine cj_nm (fun G49 e50 => ?_)
  have k51 : G49 q = some (.inr (2, [.ref pg, .ref o, .ref q1, .int 0, .int 1, .int 1, .int 0, .int 0, .int 0])) := by rw [e50]; exact cj_up_s
  have k52 : G49 q1 = some (.inl (0, 40, .inl (fun _ => 0))) := by rw [e50, cj_up_n (cj_nao k47 k46)]; exact k47
  have r53 : cj_fr [q] G G49 := by rw [e50]; exact cj_fr.up r48 (by simp)
  refine cj_vret rfl dX2_init_52 ?_
  exact ⟨rfl, q1, k51, k52, y8, r53⟩
