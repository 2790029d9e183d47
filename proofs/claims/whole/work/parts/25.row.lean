/-! ClosureHeap$Row: a chain of steps; raw contracts: r the row, h its first step, y its last one, s a step that comes to it -/
set_option maxHeartbeats 4000000 in
set_option maxRecDepth 100000 in
theorem t_add_e {G : cj_G} {r s : Nat} (k_r : G r = some (.inr (4, [.null, .null]))) : cj_T mX4_add 0 0 0 [.ref r, .ref s] G (fun v G' => v = none ∧ G' r = some (.inr (4, [.ref s, .ref s])) ∧ cj_fr [r] G G') (cj_no) := by
  refine cj_T_of (by decide) (Nat.le_of_ble_eq_true rfl) ?_
  refine cj_lvs (lv' := [(0, .ref r), (1, .ref s)]) rfl ?_
  refine cj_aload_n dX4_add_0 rfl ?_
  refine cj_get flX4_15 dX4_add_1 k_r rfl ?_
  refine cj_ifnonnullN dX4_add_4 ?_
  refine cj_aload_n dX4_add_7 rfl ?_
  refine cj_pc (pc' := 8) rfl ?_
  refine cj_aload_n dX4_add_8 rfl ?_
  refine cj_put flX4_9 dX4_add_9 k_r rfl rfl (Nat.le_of_ble_eq_true rfl) ?_
  refine cj_nm (fun G1 e2 => ?_)
  have k3 : G1 r = some (.inr (4, [.ref s, .null])) := by rw [e2]; exact cj_up_s
  have r4 : cj_fr [r] G G1 := by rw [e2]; exact cj_fr.up (cj_fr.rf (S := [r]) (G := G)) (by simp)
  refine cj_goto (tgt := 23) dX4_add_12 (by decide) ?_
  refine cj_aload_n dX4_add_23 rfl ?_
  refine cj_pc (pc' := 24) rfl ?_
  refine cj_aload_n dX4_add_24 rfl ?_
  refine cj_put flX4_15 dX4_add_25 k3 rfl rfl (Nat.le_of_ble_eq_true rfl) ?_
  refine cj_nm (fun G5 e6 => ?_)
  have k7 : G5 r = some (.inr (4, [.ref s, .ref s])) := by rw [e6]; exact cj_up_s
  have r8 : cj_fr [r] G G5 := by rw [e6]; exact cj_fr.up r4 (by simp)
  refine cj_vret rfl dX4_add_28 ?_
  exact ⟨rfl, k7, r8⟩
set_option maxHeartbeats 4000000 in
set_option maxRecDepth 100000 in
theorem t_add_l {G : cj_G} {r h y s : Nat} {yk ya yp : Int32} {yt : Value} (k_r : G r = some (.inr (4, [.ref h, .ref y]))) (k_y : G y = some (.inr (5, [.int yk, .int ya, yt, .int yp, .null]))) : cj_T mX4_add 0 0 0 [.ref r, .ref s] G (fun v G' => v = none ∧ G' r = some (.inr (4, [.ref h, .ref s])) ∧ G' y = some (.inr (5, [.int yk, .int ya, yt, .int yp, .ref s])) ∧ cj_fr [r, y] G G') (cj_no) := by
  refine cj_T_of (by decide) (Nat.le_of_ble_eq_true rfl) ?_
  refine cj_lvs (lv' := [(0, .ref r), (1, .ref s)]) rfl ?_
  refine cj_aload_n dX4_add_0 rfl ?_
  refine cj_get flX4_15 dX4_add_1 k_r rfl ?_
  refine cj_ifnonnull (tgt := 15) dX4_add_4 (by decide) ?_
  refine cj_aload_n dX4_add_15 rfl ?_
  refine cj_pc (pc' := 16) rfl ?_
  refine cj_get flX4_15 dX4_add_16 k_r rfl ?_
  refine cj_aload_n dX4_add_19 rfl ?_
  refine cj_put flX4_18 dX4_add_20 k_y rfl rfl (Nat.le_of_ble_eq_true rfl) ?_
  refine cj_nm (fun G1 e2 => ?_)
  have k3 : G1 r = some (.inr (4, [.ref h, .ref y])) := by rw [e2, cj_up_n (cj_noo k_r k_y (by decide))]; exact k_r
  have k4 : G1 y = some (.inr (5, [.int yk, .int ya, yt, .int yp, .ref s])) := by rw [e2]; exact cj_up_s
  have r5 : cj_fr [r, y] G G1 := by rw [e2]; exact cj_fr.up (cj_fr.rf (S := [r, y]) (G := G)) (by simp)
  refine cj_aload_n dX4_add_23 rfl ?_
  refine cj_pc (pc' := 24) rfl ?_
  refine cj_aload_n dX4_add_24 rfl ?_
  refine cj_put flX4_15 dX4_add_25 k3 rfl rfl (Nat.le_of_ble_eq_true rfl) ?_
  refine cj_nm (fun G6 e7 => ?_)
  have k8 : G6 r = some (.inr (4, [.ref h, .ref s])) := by rw [e7]; exact cj_up_s
  have k9 : G6 y = some (.inr (5, [.int yk, .int ya, yt, .int yp, .ref s])) := by rw [e7, cj_up_n (cj_noo k4 k3 (by decide))]; exact k4
  have r10 : cj_fr [r, y] G G6 := by rw [e7]; exact cj_fr.up r5 (by simp)
  refine cj_vret rfl dX4_add_28 ?_
  exact ⟨rfl, k8, k9, r10⟩
set_option maxHeartbeats 4000000 in
set_option maxRecDepth 100000 in
theorem t_addFirst_e {G : cj_G} {r s : Nat} {s1 s2 s3 : Int32} {s4 s5 : Value} (k_r : G r = some (.inr (4, [.null, .null]))) (k_s : G s = some (.inr (5, [.int s1, .int s2, s4, .int s3, s5]))) : cj_T mX4_addFirst 0 0 0 [.ref r, .ref s] G (fun v G' => v = none ∧ G' r = some (.inr (4, [.ref s, .ref s])) ∧ G' s = some (.inr (5, [.int s1, .int s2, s4, .int s3, .null])) ∧ cj_fr [r, s] G G') (cj_no) := by
  refine cj_T_of (by decide) (Nat.le_of_ble_eq_true rfl) ?_
  refine cj_lvs (lv' := [(0, .ref r), (1, .ref s)]) rfl ?_
  refine cj_aload_n dX4_addFirst_0 rfl ?_
  refine cj_aload_n dX4_addFirst_1 rfl ?_
  refine cj_get flX4_9 dX4_addFirst_2 k_r rfl ?_
  refine cj_put flX4_18 dX4_addFirst_5 k_s rfl rfl (Nat.le_of_ble_eq_true rfl) ?_
  refine cj_nm (fun G1 e2 => ?_)
  have k3 : G1 r = some (.inr (4, [.null, .null])) := by rw [e2, cj_up_n (cj_noo k_r k_s (by decide))]; exact k_r
  have k4 : G1 s = some (.inr (5, [.int s1, .int s2, s4, .int s3, .null])) := by rw [e2]; exact cj_up_s
  have r5 : cj_fr [r, s] G G1 := by rw [e2]; exact cj_fr.up (cj_fr.rf (S := [r, s]) (G := G)) (by simp)
  refine cj_pc (pc' := 8) rfl ?_
  refine cj_aload_n dX4_addFirst_8 rfl ?_
  refine cj_aload_n dX4_addFirst_9 rfl ?_
  refine cj_put flX4_9 dX4_addFirst_10 k3 rfl rfl (Nat.le_of_ble_eq_true rfl) ?_
  refine cj_nm (fun G6 e7 => ?_)
  have k8 : G6 r = some (.inr (4, [.ref s, .null])) := by rw [e7]; exact cj_up_s
  have k9 : G6 s = some (.inr (5, [.int s1, .int s2, s4, .int s3, .null])) := by rw [e7, cj_up_n (cj_noo k4 k3 (by decide))]; exact k4
  have r10 : cj_fr [r, s] G G6 := by rw [e7]; exact cj_fr.up r5 (by simp)
  refine cj_aload_n dX4_addFirst_13 rfl ?_
  refine cj_pc (pc' := 14) rfl ?_
  refine cj_get flX4_15 dX4_addFirst_14 k8 rfl ?_
  refine cj_ifnonnullN dX4_addFirst_17 ?_
  refine cj_aload_n dX4_addFirst_20 rfl ?_
  refine cj_aload_n dX4_addFirst_21 rfl ?_
  refine cj_pc (pc' := 22) rfl ?_
  refine cj_put flX4_15 dX4_addFirst_22 k8 rfl rfl (Nat.le_of_ble_eq_true rfl) ?_
  refine cj_nm (fun G11 e12 => ?_)
  have k13 : G11 r = some (.inr (4, [.ref s, .ref s])) := by rw [e12]; exact cj_up_s
  have k14 : G11 s = some (.inr (5, [.int s1, .int s2, s4, .int s3, .null])) := by rw [e12, cj_up_n (cj_noo k9 k8 (by decide))]; exact k9
  have r15 : cj_fr [r, s] G G11 := by rw [e12]; exact cj_fr.up r10 (by simp)
  refine cj_vret rfl dX4_addFirst_25 ?_
  exact ⟨rfl, k13, k14, r15⟩
set_option maxHeartbeats 4000000 in
set_option maxRecDepth 100000 in
theorem t_addFirst_l {G : cj_G} {r h y s : Nat} {s1 s2 s3 : Int32} {s4 s5 : Value} (k_r : G r = some (.inr (4, [.ref h, .ref y]))) (k_s : G s = some (.inr (5, [.int s1, .int s2, s4, .int s3, s5]))) : cj_T mX4_addFirst 0 0 0 [.ref r, .ref s] G (fun v G' => v = none ∧ G' r = some (.inr (4, [.ref s, .ref y])) ∧ G' s = some (.inr (5, [.int s1, .int s2, s4, .int s3, .ref h])) ∧ cj_fr [r, s] G G') (cj_no) := by
  refine cj_T_of (by decide) (Nat.le_of_ble_eq_true rfl) ?_
  refine cj_lvs (lv' := [(0, .ref r), (1, .ref s)]) rfl ?_
  refine cj_aload_n dX4_addFirst_0 rfl ?_
  refine cj_aload_n dX4_addFirst_1 rfl ?_
  refine cj_get flX4_9 dX4_addFirst_2 k_r rfl ?_
  refine cj_put flX4_18 dX4_addFirst_5 k_s rfl rfl (Nat.le_of_ble_eq_true rfl) ?_
  refine cj_nm (fun G1 e2 => ?_)
  have k3 : G1 r = some (.inr (4, [.ref h, .ref y])) := by rw [e2, cj_up_n (cj_noo k_r k_s (by decide))]; exact k_r
  have k4 : G1 s = some (.inr (5, [.int s1, .int s2, s4, .int s3, .ref h])) := by rw [e2]; exact cj_up_s
  have r5 : cj_fr [r, s] G G1 := by rw [e2]; exact cj_fr.up (cj_fr.rf (S := [r, s]) (G := G)) (by simp)
  refine cj_pc (pc' := 8) rfl ?_
  refine cj_aload_n dX4_addFirst_8 rfl ?_
  refine cj_aload_n dX4_addFirst_9 rfl ?_
  refine cj_put flX4_9 dX4_addFirst_10 k3 rfl rfl (Nat.le_of_ble_eq_true rfl) ?_
  refine cj_nm (fun G6 e7 => ?_)
  have k8 : G6 r = some (.inr (4, [.ref s, .ref y])) := by rw [e7]; exact cj_up_s
  have k9 : G6 s = some (.inr (5, [.int s1, .int s2, s4, .int s3, .ref h])) := by rw [e7, cj_up_n (cj_noo k4 k3 (by decide))]; exact k4
  have r10 : cj_fr [r, s] G G6 := by rw [e7]; exact cj_fr.up r5 (by simp)
  refine cj_aload_n dX4_addFirst_13 rfl ?_
  refine cj_pc (pc' := 14) rfl ?_
  refine cj_get flX4_15 dX4_addFirst_14 k8 rfl ?_
  refine cj_ifnonnull (tgt := 25) dX4_addFirst_17 (by decide) ?_
  refine cj_vret rfl dX4_addFirst_25 ?_
  exact ⟨rfl, k8, k9, r10⟩
set_option maxHeartbeats 4000000 in
set_option maxRecDepth 100000 in
theorem t_append_0 {G : cj_G} {r q : Nat} {yt s4 : Value} (k_r : G r = some (.inr (4, [yt, s4]))) (k_q : G q = some (.inr (4, [.null, .null]))) (n_r_q : r ≠ q) : cj_T mX4_append 0 0 0 [.ref r, .ref q] G (fun v G' => v = none ∧ G' r = some (.inr (4, [yt, s4])) ∧ cj_fr [r] G G') (cj_no) := by
  refine cj_T_of (by decide) (Nat.le_of_ble_eq_true rfl) ?_
  refine cj_lvs (lv' := [(0, .ref r), (1, .ref q)]) rfl ?_
  refine cj_aload_n dX4_append_0 rfl ?_
  refine cj_get flX4_9 dX4_append_1 k_q rfl ?_
  refine cj_ifnonnullN dX4_append_4 ?_
  refine cj_vret rfl dX4_append_7 ?_
  exact ⟨rfl, k_r, (cj_fr.rf (S := [r]) (G := G))⟩
set_option maxHeartbeats 4000000 in
set_option maxRecDepth 100000 in
theorem t_append_e {G : cj_G} {r q h2 y2 : Nat} (k_r : G r = some (.inr (4, [.null, .null]))) (k_q : G q = some (.inr (4, [.ref h2, .ref y2]))) (n_r_q : r ≠ q) : cj_T mX4_append 0 0 0 [.ref r, .ref q] G (fun v G' => v = none ∧ G' r = some (.inr (4, [.ref h2, .ref y2])) ∧ cj_fr [r] G G') (cj_no) := by
  refine cj_T_of (by decide) (Nat.le_of_ble_eq_true rfl) ?_
  refine cj_lvs (lv' := [(0, .ref r), (1, .ref q)]) rfl ?_
  refine cj_aload_n dX4_append_0 rfl ?_
  refine cj_get flX4_9 dX4_append_1 k_q rfl ?_
  refine cj_ifnonnull (tgt := 8) dX4_append_4 (by decide) ?_
  refine cj_aload_n dX4_append_8 rfl ?_
  refine cj_pc (pc' := 9) rfl ?_
  refine cj_get flX4_15 dX4_append_9 k_r rfl ?_
  refine cj_ifnonnullN dX4_append_12 ?_
  refine cj_aload_n dX4_append_15 rfl ?_
  refine cj_aload_n dX4_append_16 rfl ?_
  refine cj_pc (pc' := 17) rfl ?_
  refine cj_get flX4_9 dX4_append_17 k_q rfl ?_
  refine cj_put flX4_9 dX4_append_20 k_r rfl rfl (Nat.le_of_ble_eq_true rfl) ?_
  refine cj_nm (fun G1 e2 => ?_)
  have k3 : G1 r = some (.inr (4, [.ref h2, .null])) := by rw [e2]; exact cj_up_s
  have k4 : G1 q = some (.inr (4, [.ref h2, .ref y2])) := by rw [e2, cj_up_n (Ne.symm n_r_q)]; exact k_q
  have r5 : cj_fr [r] G G1 := by rw [e2]; exact cj_fr.up (cj_fr.rf (S := [r]) (G := G)) (by simp)
  refine cj_goto (tgt := 37) dX4_append_23 (by decide) ?_
  refine cj_aload_n dX4_append_37 rfl ?_
  refine cj_pc (pc' := 38) rfl ?_
  refine cj_aload_n dX4_append_38 rfl ?_
  refine cj_get flX4_15 dX4_append_39 k4 rfl ?_
  refine cj_put flX4_15 dX4_append_42 k3 rfl rfl (Nat.le_of_ble_eq_true rfl) ?_
  refine cj_nm (fun G6 e7 => ?_)
  have k8 : G6 r = some (.inr (4, [.ref h2, .ref y2])) := by rw [e7]; exact cj_up_s
  have k9 : G6 q = some (.inr (4, [.ref h2, .ref y2])) := by rw [e7, cj_up_n (Ne.symm n_r_q)]; exact k4
  have r10 : cj_fr [r] G G6 := by rw [e7]; exact cj_fr.up r5 (by simp)
  refine cj_vret rfl dX4_append_45 ?_
  exact ⟨rfl, k8, r10⟩
set_option maxHeartbeats 4000000 in
set_option maxRecDepth 100000 in
theorem t_append_l {G : cj_G} {r h y q h2 y2 : Nat} {yk ya yp : Int32} {yt : Value} (k_r : G r = some (.inr (4, [.ref h, .ref y]))) (k_y : G y = some (.inr (5, [.int yk, .int ya, yt, .int yp, .null]))) (k_q : G q = some (.inr (4, [.ref h2, .ref y2]))) (n_r_q : r ≠ q) : cj_T mX4_append 0 0 0 [.ref r, .ref q] G (fun v G' => v = none ∧ G' r = some (.inr (4, [.ref h, .ref y2])) ∧ G' y = some (.inr (5, [.int yk, .int ya, yt, .int yp, .ref h2])) ∧ cj_fr [r, y] G G') (cj_no) := by
  refine cj_T_of (by decide) (Nat.le_of_ble_eq_true rfl) ?_
  refine cj_lvs (lv' := [(0, .ref r), (1, .ref q)]) rfl ?_
  refine cj_aload_n dX4_append_0 rfl ?_
  refine cj_get flX4_9 dX4_append_1 k_q rfl ?_
  refine cj_ifnonnull (tgt := 8) dX4_append_4 (by decide) ?_
  refine cj_aload_n dX4_append_8 rfl ?_
  refine cj_pc (pc' := 9) rfl ?_
  refine cj_get flX4_15 dX4_append_9 k_r rfl ?_
  refine cj_ifnonnull (tgt := 26) dX4_append_12 (by decide) ?_
  refine cj_aload_n dX4_append_26 rfl ?_
  refine cj_get flX4_15 dX4_append_27 k_r rfl ?_
  refine cj_pc (pc' := 30) rfl ?_
  refine cj_aload_n dX4_append_30 rfl ?_
  refine cj_get flX4_9 dX4_append_31 k_q rfl ?_
  refine cj_put flX4_18 dX4_append_34 k_y rfl rfl (Nat.le_of_ble_eq_true rfl) ?_
  refine cj_nm (fun G1 e2 => ?_)
  have k3 : G1 r = some (.inr (4, [.ref h, .ref y])) := by rw [e2, cj_up_n (cj_noo k_r k_y (by decide))]; exact k_r
  have k4 : G1 y = some (.inr (5, [.int yk, .int ya, yt, .int yp, .ref h2])) := by rw [e2]; exact cj_up_s
  have k5 : G1 q = some (.inr (4, [.ref h2, .ref y2])) := by rw [e2, cj_up_n (cj_noo k_q k_y (by decide))]; exact k_q
  have r6 : cj_fr [r, y] G G1 := by rw [e2]; exact cj_fr.up (cj_fr.rf (S := [r, y]) (G := G)) (by simp)
  refine cj_aload_n dX4_append_37 rfl ?_
  refine cj_pc (pc' := 38) rfl ?_
  refine cj_aload_n dX4_append_38 rfl ?_
  refine cj_get flX4_15 dX4_append_39 k5 rfl ?_
  refine cj_put flX4_15 dX4_append_42 k3 rfl rfl (Nat.le_of_ble_eq_true rfl) ?_
  refine cj_nm (fun G7 e8 => ?_)
  have k9 : G7 r = some (.inr (4, [.ref h, .ref y2])) := by rw [e8]; exact cj_up_s
  have k10 : G7 y = some (.inr (5, [.int yk, .int ya, yt, .int yp, .ref h2])) := by rw [e8, cj_up_n (cj_noo k4 k3 (by decide))]; exact k4
  have k11 : G7 q = some (.inr (4, [.ref h2, .ref y2])) := by rw [e8, cj_up_n (Ne.symm n_r_q)]; exact k5
  have r12 : cj_fr [r, y] G G7 := by rw [e8]; exact cj_fr.up r6 (by simp)
  refine cj_vret rfl dX4_append_45 ?_
  exact ⟨rfl, k9, k10, r12⟩
/-- a change of a thing that is new since G is no change of G -/
theorem cj_past {S : List Nat} {G G1 G2 : cj_G} {a : Nat} (h : cj_fr S G G1) (ha : G a = none) (h2 : cj_fr [a] G1 G2) : cj_fr S G G2 := fun q y hq hy => h2 q y (cj_ni1 (cj_nn hy ha)) (h q y hq hy)
set_option maxHeartbeats 4000000 in
set_option maxRecDepth 100000 in
theorem t_add2_e {G : cj_G} {r : Nat} {kd av : Int32} (k_r : G r = some (.inr (4, [.null, .null]))) : cj_T mX4_add_ 2 1 5 [.ref r, .int kd, .int av] G (fun v G' => v = none ∧ ∃ s : Nat, G s = none ∧ G' s = some (.inr (5, [.int kd, .int av, .null, .int 0, .null])) ∧ G' r = some (.inr (4, [.ref s, .ref s])) ∧ cj_fr [r] G G') (cj_no) := by
  refine cj_T_of (by decide) (Nat.le_of_ble_eq_true rfl) ?_
  refine cj_lvs (lv' := [(0, .ref r), (1, .int kd), (2, .int av)]) rfl ?_
  refine cj_aload_n dX4_add__0 rfl ?_
  refine cj_new (ci := 5) (fs := [.int 0, .int 0, .null, .int 0, .null]) (k := 0) (n := 0) rfl uw_X5 tyX5_ok klX4_19.1 klX4_19.2.1 klX4_19.2.2 (by intro j hj; rcases (show j = 0 ∨ j = 1 ∨ j = 2 ∨ j = 3 ∨ j = 4 by omega) with rfl | rfl | rfl | rfl | rfl <;> rfl) dX4_add__1 (fun q1 z2 => ?_)
  refine cj_nm (fun G3 e4 => ?_)
  have k5 : G3 r = some (.inr (4, [.null, .null])) := by rw [e4]; exact cj_up_ne k_r z2
  have k6 : G3 q1 = some (.inr (5, [.int 0, .int 0, .null, .int 0, .null])) := by rw [e4]; exact cj_up_s
  have r7 : cj_fr [r] G G3 := by rw [e4]; exact cj_fr.new (cj_fr.rf (S := [r]) (G := G)) z2
  have y8 : G q1 = none := cj_fr.none (cj_fr.rf (S := [r]) (G := G)) z2 (cj_ni1 (Ne.symm (cj_nn k_r z2)))
  refine cj_dup dX4_add__4 rfl ?_
  refine cj_iload_n dX4_add__5 rfl ?_
  refine cj_pc (pc' := 6) rfl ?_
  refine cj_iload_n dX4_add__6 rfl ?_
  refine cj_null dX4_add__7 ?_
  refine cj_callI (M' := mX5_init) (d' := 1) (k' := 0) (n' := 0) (k := 0) (n := 0) (index := 23) (np := 3) (As := [.int kd, .int av, .null]) (rest := [.ref q1, .ref r]) dX4_add__8 lkX4_23 mwX5_init (t_Step_null k6) (by omega) rfl rfl (Nat.le_of_ble_eq_true rfl) (fun v9 G10 q9 => ?_)
  obtain ⟨rfl, k11, r12⟩ := q9
  have k13 : G10 r = some (.inr (4, [.null, .null])) := r12 _ _ (cj_ni1 (cj_noo k5 k6 (by decide))) k5
  have r14 : cj_fr [r] G G10 := cj_past r7 y8 r12
  refine cj_st (st' := [.ref q1, .ref r]) rfl ?_
  refine cj_callV (M' := mX4_add) (d' := 0) (k' := 0) (n' := 0) (index := 26) (np := 1) (As := [.ref q1]) (rest := []) dX4_add__11 lkX4_26 mwX4_add (t_add_e k13) (by omega) rfl rfl (Nat.le_of_ble_eq_true rfl) k13 rfl (fun v9 G16 q15 => ?_) (fun _ _ h => absurd h id)
  obtain ⟨rfl, k17, r18⟩ := q15
  have k19 : G16 q1 = some (.inr (5, [.int kd, .int av, .null, .int 0, .null])) := r18 _ _ (cj_ni1 (cj_noo k11 k13 (by decide))) k11
  have r20 : cj_fr [r] G G16 := cj_fr.trans r14 (cj_fr.mono r18 (by simp))
  refine cj_st (st' := []) rfl ?_
  refine cj_pc (pc' := 14) rfl ?_
  refine cj_vret rfl dX4_add__14 ?_
  exact ⟨rfl, q1, y8, k19, k17, r20⟩
set_option maxHeartbeats 4000000 in
set_option maxRecDepth 100000 in
theorem t_add2_l {G : cj_G} {r h y : Nat} {kd av yk ya yp : Int32} {yt : Value} (k_r : G r = some (.inr (4, [.ref h, .ref y]))) (k_y : G y = some (.inr (5, [.int yk, .int ya, yt, .int yp, .null]))) : cj_T mX4_add_ 2 1 5 [.ref r, .int kd, .int av] G (fun v G' => v = none ∧ ∃ s : Nat, G s = none ∧ G' s = some (.inr (5, [.int kd, .int av, .null, .int 0, .null])) ∧ G' r = some (.inr (4, [.ref h, .ref s])) ∧ G' y = some (.inr (5, [.int yk, .int ya, yt, .int yp, .ref s])) ∧ cj_fr [r, y] G G') (cj_no) := by
  refine cj_T_of (by decide) (Nat.le_of_ble_eq_true rfl) ?_
  refine cj_lvs (lv' := [(0, .ref r), (1, .int kd), (2, .int av)]) rfl ?_
  refine cj_aload_n dX4_add__0 rfl ?_
  refine cj_new (ci := 5) (fs := [.int 0, .int 0, .null, .int 0, .null]) (k := 0) (n := 0) rfl uw_X5 tyX5_ok klX4_19.1 klX4_19.2.1 klX4_19.2.2 (by intro j hj; rcases (show j = 0 ∨ j = 1 ∨ j = 2 ∨ j = 3 ∨ j = 4 by omega) with rfl | rfl | rfl | rfl | rfl <;> rfl) dX4_add__1 (fun q1 z2 => ?_)
  refine cj_nm (fun G3 e4 => ?_)
  have k5 : G3 r = some (.inr (4, [.ref h, .ref y])) := by rw [e4]; exact cj_up_ne k_r z2
  have k6 : G3 y = some (.inr (5, [.int yk, .int ya, yt, .int yp, .null])) := by rw [e4]; exact cj_up_ne k_y z2
  have n_y_q1 : y ≠ q1 := cj_nn k_y z2
  have k7 : G3 q1 = some (.inr (5, [.int 0, .int 0, .null, .int 0, .null])) := by rw [e4]; exact cj_up_s
  have r8 : cj_fr [r, y] G G3 := by rw [e4]; exact cj_fr.new (cj_fr.rf (S := [r, y]) (G := G)) z2
  have y9 : G q1 = none := cj_fr.none (cj_fr.rf (S := [r, y]) (G := G)) z2 (cj_ni2 (Ne.symm (cj_nn k_r z2)) (Ne.symm (cj_nn k_y z2)))
  refine cj_dup dX4_add__4 rfl ?_
  refine cj_iload_n dX4_add__5 rfl ?_
  refine cj_pc (pc' := 6) rfl ?_
  refine cj_iload_n dX4_add__6 rfl ?_
  refine cj_null dX4_add__7 ?_
  refine cj_callI (M' := mX5_init) (d' := 1) (k' := 0) (n' := 0) (k := 0) (n := 0) (index := 23) (np := 3) (As := [.int kd, .int av, .null]) (rest := [.ref q1, .ref r]) dX4_add__8 lkX4_23 mwX5_init (t_Step_null k7) (by omega) rfl rfl (Nat.le_of_ble_eq_true rfl) (fun v9 G11 q10 => ?_)
  obtain ⟨rfl, k12, r13⟩ := q10
  have k14 : G11 r = some (.inr (4, [.ref h, .ref y])) := r13 _ _ (cj_ni1 (cj_noo k5 k7 (by decide))) k5
  have k15 : G11 y = some (.inr (5, [.int yk, .int ya, yt, .int yp, .null])) := r13 _ _ (cj_ni1 n_y_q1) k6
  have r16 : cj_fr [r, y] G G11 := cj_past r8 y9 r13
  refine cj_st (st' := [.ref q1, .ref r]) rfl ?_
  refine cj_callV (M' := mX4_add) (d' := 0) (k' := 0) (n' := 0) (index := 26) (np := 1) (As := [.ref q1]) (rest := []) dX4_add__11 lkX4_26 mwX4_add (t_add_l k14 k15) (by omega) rfl rfl (Nat.le_of_ble_eq_true rfl) k14 rfl (fun v9 G18 q17 => ?_) (fun _ _ h => absurd h id)
  obtain ⟨rfl, k19, k20, r21⟩ := q17
  have k22 : G18 q1 = some (.inr (5, [.int kd, .int av, .null, .int 0, .null])) := r21 _ _ (cj_ni2 (cj_noo k12 k14 (by decide)) (Ne.symm n_y_q1)) k12
  have r23 : cj_fr [r, y] G G18 := cj_fr.trans r16 (cj_fr.mono r21 (by simp))
  refine cj_st (st' := []) rfl ?_
  refine cj_pc (pc' := 14) rfl ?_
  refine cj_vret rfl dX4_add__14 ?_
  exact ⟨rfl, q1, y9, k22, k19, k20, r23⟩
set_option maxHeartbeats 4000000 in
set_option maxRecDepth 100000 in
theorem t_label {G : cj_G} : cj_T mX3_label 2 1 5 [] G (fun v G' => ∃ s : Nat, v = some (.ref s) ∧ G s = none ∧ G' s = some (.inr (5, [.int 21, .int 0, .null, .int 0, .null])) ∧ cj_fr [] G G') (cj_no) := by
  refine cj_T_of (by decide) (Nat.le_of_ble_eq_true rfl) ?_
  refine cj_lvs (lv' := []) rfl ?_
  refine cj_new (ci := 5) (fs := [.int 0, .int 0, .null, .int 0, .null]) (k := 0) (n := 0) rfl uw_X5 tyX5_ok klX3_115.1 klX3_115.2.1 klX3_115.2.2 (by intro j hj; rcases (show j = 0 ∨ j = 1 ∨ j = 2 ∨ j = 3 ∨ j = 4 by omega) with rfl | rfl | rfl | rfl | rfl <;> rfl) dX3_label_0 (fun q1 z2 => ?_)
  refine cj_nm (fun G3 e4 => ?_)
  have k5 : G3 q1 = some (.inr (5, [.int 0, .int 0, .null, .int 0, .null])) := by rw [e4]; exact cj_up_s
  have r6 : cj_fr [] G G3 := by rw [e4]; exact cj_fr.new (cj_fr.rf (S := []) (G := G)) z2
  have y7 : G q1 = none := cj_fr.none (cj_fr.rf (S := []) (G := G)) z2 (by simp)
  refine cj_dup dX3_label_3 rfl ?_
  refine cj_bipush (v := 21) dX3_label_4 (by decide) ?_
  refine cj_iconst (v := 0) dX3_label_6 (by decide) ?_
  refine cj_pc (pc' := 7) rfl ?_
  refine cj_null dX3_label_7 ?_
  refine cj_callI (M' := mX5_init) (d' := 1) (k' := 0) (n' := 0) (k := 0) (n := 0) (index := 117) (np := 3) (As := [.int 21, .int 0, .null]) (rest := [.ref q1]) dX3_label_8 lkX3_117 mwX5_init (t_Step_null k5) (by omega) rfl rfl (Nat.le_of_ble_eq_true rfl) (fun v9 G9 q8 => ?_)
  obtain ⟨rfl, k10, r11⟩ := q8
  have r12 : cj_fr [] G G9 := cj_past r6 y7 r11
  refine cj_st (st' := [.ref q1]) rfl ?_
  refine cj_aret rfl dX3_label_11 ?_
  exact ⟨q1, rfl, y7, k10, r12⟩
