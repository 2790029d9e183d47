/-! THE CONSTRUCTORS -/
theorem cj_frsk {S : List Nat} {G G1 G2 : cj_G} {q : Nat} (h : cj_fr S G G1) (hq : G q = none) (h2 : cj_fr [q] G1 G2) : cj_fr S G G2 := fun a t ha hg => h2 a t (cj_ni1 (fun e => by subst e; rw [hq] at hg; cases hg)) (h a t ha hg)
/-- the words of a half -/
def nw (w : Int32) : Nat := if w < 20 then 20 else if w ≤ 200 then w.toNatClampNeg else 200
theorem nw_le {w : Int32} : 20 ≤ nw w ∧ nw w ≤ 200 := by
  unfold nw
  split
  · omega
  · rename_i h1
    split
    · rename_i h2
      have h3 : (20 : Int) ≤ w.toInt := by
        have := Int32.le_iff_toInt_le.mp (Int32.not_lt.mp h1)
        exact this
      have h4 : w.toInt ≤ (200 : Int) := Int32.le_iff_toInt_le.mp h2
      have h5 : w.toNatClampNeg = w.toInt.toNat := rfl
      rw [h5]; omega
    · omega
theorem nw_nI {w : Int32} (h1 : ¬ w < 20) (h2 : w ≤ 200) : nI (nw w) = w := by
  have e : nw w = w.toNatClampNeg := by unfold nw; rw [if_neg h1, if_pos h2]
  have h3 : (20 : Int) ≤ w.toInt := Int32.le_iff_toInt_le.mp (Int32.not_lt.mp h1)
  have h4 : w.toInt ≤ (200 : Int) := Int32.le_iff_toInt_le.mp h2
  have h5 : w.toNatClampNeg = w.toInt.toNat := rfl
  rw [e]
  refine Int32.toInt_inj.mp ?_
  rw [nI_toInt (by omega), h5]; omega
theorem nw_cl {w : Int32} : (if (20 : Int32) < (if w < 200 then w else 200) then (if w < 200 then w else 200) else 20) = nI (nw w) := by
  by_cases h1 : w < 20
  · have e : nw w = 20 := by unfold nw; rw [if_pos h1]
    have h9 : w < 200 := Int32.lt_trans h1 (by decide)
    rw [if_pos h9, if_neg (Int32.not_lt.mpr (Int32.le_of_lt h1)), e]; rfl
  · by_cases h2 : w ≤ 200
    · rw [nw_nI h1 h2]
      by_cases h3 : w < 200
      · rw [if_pos h3]
        by_cases h4 : (20 : Int32) < w
        · rw [if_pos h4]
        · rw [if_neg h4]
          exact Int32.le_antisymm (Int32.not_lt.mp h1) (Int32.not_lt.mp h4)
      · rw [if_neg h3, if_pos (by decide)]
        exact Int32.le_antisymm (Int32.not_lt.mp h3) h2
    · have e : nw w = 200 := by unfold nw; rw [if_neg h1, if_neg h2]
      rw [if_neg (fun h9 => h2 (Int32.le_of_lt h9)), e, if_pos (by decide)]; rfl
set_option maxHeartbeats 8000000 in
set_option maxRecDepth 100000 in
theorem t_init6 {G : cj_G} {x : Nat} {w : Int32} (k_x : G x = some (.inr (6, [.null, .int 0, .null, .null, .null]))) : cj_T mX6_init 2 12 1300 [.ref x, .int w] G (fun v G' => v = none ∧ ∃ wt rd rt nb pg pa m o sk a b c : Nat, G' x = some (.inr (6, [.ref wt, .int 0, .ref rd, .ref pg, .ref m])) ∧ G' wt = some (.inl (1, 90, .inl (fun _ => 0))) ∧ G' rd = some (.inr (3, [.ref rt, .int 0, .int 0, .ref nb, .int 0, .int (-1)])) ∧ G' rt = some (.inl (1, 90, .inl (fun _ => 0))) ∧ G' nb = some (.inl (1, 90, .inl (fun _ => 0))) ∧ G' pg = some (.inr (0, [.ref pa, .int 0])) ∧ G' pa = some (.inl (0, 360, .inl (fun _ => 0))) ∧ G' m = some (.inr (2, [.ref pg, .ref o, .ref sk, .int 0, .int 1, .int 1, .int 0, .int 0, .int 0])) ∧ G' o = some (.inr (1, [.ref a, .ref b, .ref c, .int 0, .int 0, .int 0])) ∧ G' sk = some (.inl (0, 40, .inl (fun _ => 0))) ∧ G' a = some (.inl (0, nw w, .inl (fun _ => 0))) ∧ G' b = some (.inl (0, nw w, .inl (fun _ => 0))) ∧ G' c = some (.inl (0, nw w, .inl (fun _ => 0))) ∧ rt ≠ nb ∧ wt ≠ rt ∧ wt ≠ nb ∧ a ≠ b ∧ a ≠ c ∧ b ≠ c ∧ a ≠ sk ∧ b ≠ sk ∧ c ≠ sk ∧ pa ≠ a ∧ pa ≠ b ∧ pa ≠ c ∧ pa ≠ sk ∧ G wt = none ∧ G rd = none ∧ G rt = none ∧ G nb = none ∧ G pg = none ∧ G pa = none ∧ G m = none ∧ G o = none ∧ G sk = none ∧ G a = none ∧ G b = none ∧ G c = none ∧ cj_fr [x] G G' ∧ [x, wt, rd, rt, nb, pg, pa, m, o, sk, a, b, c].Nodup) cj_no := by
  refine cj_T_of (by decide) (Nat.le_of_ble_eq_true rfl) ?_
  refine cj_lvs (lv' := [(0, .ref x), (1, .int w)]) rfl ?_
  have hnw := nw_le (w := w)
  refine cj_fewer (k' := 0 + 1 + 3 + 1 + 1 + 1 + 1 + 2 + 1 + 1) (n' := 0 + 40 + (0 + nw w + nw w + nw w) + 6 + 9 + 360 + 2 + 180 + 6 + 90) (by omega) (by omega) ?_
  refine cj_aload_n dX6_init_0 rfl ?_
  refine cj_obj dX6_init_1 lkX6_1 (by decide) (by decide) ?_
  refine cj_aload_n dX6_init_4 rfl ?_
  refine cj_bipush (v := 90) dX6_init_5 (by decide) ?_
  refine cj_pc (pc' := 7) rfl ?_
  refine cj_newa (t := 1) (N := 90) (a0 := (90, .inl (fun _ => 0))) (k := 0 + 1 + 3 + 1 + 1 + 1 + 1 + 2 + 1) (n := 0 + 40 + (0 + nw w + nw w + nw w) + 6 + 9 + 360 + 2 + 180 + 6) (ty := .char) rfl (by intro C h; cases h) rfl ac_char (fun cA => rfl) (by decide +kernel) (by decide +kernel) (by decide +kernel) dX6_init_7 (fun wt z0 => ?_)
  refine cj_nm (fun G1 e1 => ?_)
  have ne_x_wt : x ≠ wt := cj_nn k_x z0
  have y_wt : G wt = none := cj_fr.none (cj_fr.rf (S := [x]) (G := G)) z0 (cj_ni1 (Ne.symm (cj_nn k_x z0)))
  have k1_x : G1 x = some (.inr (6, [.null, .int 0, .null, .null, .null])) := by rw [e1]; exact cj_up_ne k_x z0
  have k1_wt : G1 wt = some (.inl (1, 90, .inl (fun _ => 0))) := by rw [e1]; exact cj_up_s
  have r1 : cj_fr [x] G G1 := by rw [e1]; exact cj_fr.new (cj_fr.rf (S := [x]) (G := G)) z0
  refine cj_putF flX6_9 rfl rfl dX6_init_9 k1_x rfl rfl (Nat.le_of_ble_eq_true rfl) ?_
  refine cj_nm (fun G2 e2 => ?_)
  have k2_x : G2 x = some (.inr (6, [.ref wt, .int 0, .null, .null, .null])) := by rw [e2]; exact cj_up_s
  have k2_wt : G2 wt = some (.inl (1, 90, .inl (fun _ => 0))) := by rw [e2, cj_up_n (Ne.symm ne_x_wt)]; exact k1_wt
  have r2 : cj_fr [x] G G2 := by rw [e2]; exact cj_fr.up r1 (by simp)
  refine cj_aload_n dX6_init_12 rfl ?_
  refine cj_iconst (v := 0) dX6_init_13 (by decide) ?_
  refine cj_pc (pc' := 14) rfl ?_
  refine cj_put flX6_13 dX6_init_14 k2_x rfl rfl (Nat.le_of_ble_eq_true rfl) ?_
  refine cj_nm (fun G3 e3 => ?_)
  have k3_x : G3 x = some (.inr (6, [.ref wt, .int 0, .null, .null, .null])) := by rw [e3]; exact cj_up_s
  have k3_wt : G3 wt = some (.inl (1, 90, .inl (fun _ => 0))) := by rw [e3, cj_up_n (Ne.symm ne_x_wt)]; exact k2_wt
  have r3 : cj_fr [x] G G3 := by rw [e3]; exact cj_fr.up r2 (by simp)
  refine cj_aload_n dX6_init_17 rfl ?_
  refine cj_new (ci := 3) (fs := [.null, .int 0, .int 0, .null, .int 0, .int 0]) (k := 0 + 1 + 3 + 1 + 1 + 1 + 1 + 2) (n := 0 + 40 + (0 + nw w + nw w + nw w) + 6 + 9 + 360 + 2 + 180) rfl uw_X3 tyX3_ok klX6_17.1 klX6_17.2.1 klX6_17.2.2 (by intro j hj; rcases (show j = 0 ∨ j = 1 ∨ j = 2 ∨ j = 3 ∨ j = 4 ∨ j = 5 by omega) with rfl | rfl | rfl | rfl | rfl | rfl <;> rfl) dX6_init_18 (fun rd zrd => ?_)
  refine cj_nm (fun G4 e4 => ?_)
  have ne_x_rd : x ≠ rd := cj_nn k3_x zrd
  have ne_wt_rd : wt ≠ rd := cj_nn k3_wt zrd
  have y_rd : G rd = none := cj_fr.none r3 zrd (cj_ni1 (Ne.symm (cj_nn k3_x zrd)))
  have k4_x : G4 x = some (.inr (6, [.ref wt, .int 0, .null, .null, .null])) := by rw [e4]; exact cj_up_ne k3_x zrd
  have k4_wt : G4 wt = some (.inl (1, 90, .inl (fun _ => 0))) := by rw [e4]; exact cj_up_ne k3_wt zrd
  have k4_rd : G4 rd = some (.inr (3, [.null, .int 0, .int 0, .null, .int 0, .int 0])) := by rw [e4]; exact cj_up_s
  have r4 : cj_fr [x] G G4 := by rw [e4]; exact cj_fr.new r3 zrd
  refine cj_dup dX6_init_21 rfl ?_
  refine cj_callIN (M' := mX3_init) (d' := 1) (k' := 2) (n' := 180) (k := 0 + 1 + 3 + 1 + 1 + 1 + 1) (n := 0 + 40 + (0 + nw w + nw w + nw w) + 6 + 9 + 360 + 2) (index := 19) (np := 0) (As := []) (rest := [.ref rd, .ref x]) dX6_init_22 lkX6_19 mwX3_init (t_Reader k4_rd) (by decide) rfl rfl (Nat.le_of_ble_eq_true rfl) (fun v9 G5 q9 => ?_)
  obtain ⟨ev5, rt, nb, c5_q, c5_rt, c5_nb, z5_rt, z5_nb, d5_rt_nb, f5⟩ := q9
  subst ev5
  have y_rt : G rt = none := cj_fr.none r4 z5_rt (cj_ni1 (Ne.symm (cj_nn k4_x z5_rt)))
  have ne_x_rt : x ≠ rt := cj_nn k4_x z5_rt
  have ne_wt_rt : wt ≠ rt := cj_nn k4_wt z5_rt
  have ne_rd_rt : rd ≠ rt := cj_nn k4_rd z5_rt
  have y_nb : G nb = none := cj_fr.none r4 z5_nb (cj_ni1 (Ne.symm (cj_nn k4_x z5_nb)))
  have ne_x_nb : x ≠ nb := cj_nn k4_x z5_nb
  have ne_wt_nb : wt ≠ nb := cj_nn k4_wt z5_nb
  have ne_rd_nb : rd ≠ nb := cj_nn k4_rd z5_nb
  have k5_x : G5 x = some (.inr (6, [.ref wt, .int 0, .null, .null, .null])) := f5 _ _ (cj_ni1 ne_x_rd) k4_x
  have k5_wt : G5 wt = some (.inl (1, 90, .inl (fun _ => 0))) := f5 _ _ (cj_ni1 ne_wt_rd) k4_wt
  have k5_rd : G5 rd = some (.inr (3, [.ref rt, .int 0, .int 0, .ref nb, .int 0, .int (-1)])) := c5_q
  have k5_rt : G5 rt = some (.inl (1, 90, .inl (fun _ => 0))) := c5_rt
  have k5_nb : G5 nb = some (.inl (1, 90, .inl (fun _ => 0))) := c5_nb
  have ne_rt_nb : rt ≠ nb := d5_rt_nb
  have r5 : cj_fr [x] G G5 := cj_frsk r4 y_rd f5
  refine cj_st (st' := [.ref rd, .ref x]) rfl ?_
  refine cj_pc (pc' := 25) rfl ?_
  refine cj_putF flX6_20 rfl rfl dX6_init_25 k5_x rfl rfl (Nat.le_of_ble_eq_true rfl) ?_
  refine cj_nm (fun G6 e6 => ?_)
  have k6_x : G6 x = some (.inr (6, [.ref wt, .int 0, .ref rd, .null, .null])) := by rw [e6]; exact cj_up_s
  have k6_wt : G6 wt = some (.inl (1, 90, .inl (fun _ => 0))) := by rw [e6, cj_up_n (Ne.symm ne_x_wt)]; exact k5_wt
  have k6_rd : G6 rd = some (.inr (3, [.ref rt, .int 0, .int 0, .ref nb, .int 0, .int (-1)])) := by rw [e6, cj_up_n (Ne.symm ne_x_rd)]; exact k5_rd
  have k6_rt : G6 rt = some (.inl (1, 90, .inl (fun _ => 0))) := by rw [e6, cj_up_n (Ne.symm ne_x_rt)]; exact k5_rt
  have k6_nb : G6 nb = some (.inl (1, 90, .inl (fun _ => 0))) := by rw [e6, cj_up_n (Ne.symm ne_x_nb)]; exact k5_nb
  have r6 : cj_fr [x] G G6 := by rw [e6]; exact cj_fr.up r5 (by simp)
  refine cj_aload_n dX6_init_28 rfl ?_
  refine cj_new (ci := 0) (fs := [.null, .int 0]) (k := 0 + 1 + 3 + 1 + 1 + 1) (n := 0 + 40 + (0 + nw w + nw w + nw w) + 6 + 9 + 360) rfl uw_X0 tyX0_ok klX6_24.1 klX6_24.2.1 klX6_24.2.2 (by intro j hj; rcases (show j = 0 ∨ j = 1 by omega) with rfl | rfl <;> rfl) dX6_init_29 (fun pg zpg => ?_)
  refine cj_nm (fun G7 e7 => ?_)
  have ne_x_pg : x ≠ pg := cj_nn k6_x zpg
  have ne_wt_pg : wt ≠ pg := cj_nn k6_wt zpg
  have ne_rd_pg : rd ≠ pg := cj_nn k6_rd zpg
  have ne_rt_pg : rt ≠ pg := cj_nn k6_rt zpg
  have ne_nb_pg : nb ≠ pg := cj_nn k6_nb zpg
  have y_pg : G pg = none := cj_fr.none r6 zpg (cj_ni1 (Ne.symm (cj_nn k6_x zpg)))
  have k7_x : G7 x = some (.inr (6, [.ref wt, .int 0, .ref rd, .null, .null])) := by rw [e7]; exact cj_up_ne k6_x zpg
  have k7_wt : G7 wt = some (.inl (1, 90, .inl (fun _ => 0))) := by rw [e7]; exact cj_up_ne k6_wt zpg
  have k7_rd : G7 rd = some (.inr (3, [.ref rt, .int 0, .int 0, .ref nb, .int 0, .int (-1)])) := by rw [e7]; exact cj_up_ne k6_rd zpg
  have k7_rt : G7 rt = some (.inl (1, 90, .inl (fun _ => 0))) := by rw [e7]; exact cj_up_ne k6_rt zpg
  have k7_nb : G7 nb = some (.inl (1, 90, .inl (fun _ => 0))) := by rw [e7]; exact cj_up_ne k6_nb zpg
  have k7_pg : G7 pg = some (.inr (0, [.null, .int 0])) := by rw [e7]; exact cj_up_s
  have r7 : cj_fr [x] G G7 := by rw [e7]; exact cj_fr.new r6 zpg
  refine cj_dup dX6_init_32 rfl ?_
  refine cj_callIN (M' := mX0_init) (d' := 1) (k' := 1) (n' := 360) (k := 0 + 1 + 3 + 1 + 1) (n := 0 + 40 + (0 + nw w + nw w + nw w) + 6 + 9) (index := 26) (np := 0) (As := []) (rest := [.ref pg, .ref x]) dX6_init_33 lkX6_26 mwX0_init (t_Code k7_pg) (by decide) rfl rfl (Nat.le_of_ble_eq_true rfl) (fun v9 G8 q9 => ?_)
  obtain ⟨ev8, pa, c8_q, c8_pa, z8_pa, f8⟩ := q9
  subst ev8
  have y_pa : G pa = none := cj_fr.none r7 z8_pa (cj_ni1 (Ne.symm (cj_nn k7_x z8_pa)))
  have ne_x_pa : x ≠ pa := cj_nn k7_x z8_pa
  have ne_wt_pa : wt ≠ pa := cj_nn k7_wt z8_pa
  have ne_rd_pa : rd ≠ pa := cj_nn k7_rd z8_pa
  have ne_rt_pa : rt ≠ pa := cj_nn k7_rt z8_pa
  have ne_nb_pa : nb ≠ pa := cj_nn k7_nb z8_pa
  have ne_pg_pa : pg ≠ pa := cj_nn k7_pg z8_pa
  have k8_x : G8 x = some (.inr (6, [.ref wt, .int 0, .ref rd, .null, .null])) := f8 _ _ (cj_ni1 ne_x_pg) k7_x
  have k8_wt : G8 wt = some (.inl (1, 90, .inl (fun _ => 0))) := f8 _ _ (cj_ni1 ne_wt_pg) k7_wt
  have k8_rd : G8 rd = some (.inr (3, [.ref rt, .int 0, .int 0, .ref nb, .int 0, .int (-1)])) := f8 _ _ (cj_ni1 ne_rd_pg) k7_rd
  have k8_rt : G8 rt = some (.inl (1, 90, .inl (fun _ => 0))) := f8 _ _ (cj_ni1 ne_rt_pg) k7_rt
  have k8_nb : G8 nb = some (.inl (1, 90, .inl (fun _ => 0))) := f8 _ _ (cj_ni1 ne_nb_pg) k7_nb
  have k8_pg : G8 pg = some (.inr (0, [.ref pa, .int 0])) := c8_q
  have k8_pa : G8 pa = some (.inl (0, 360, .inl (fun _ => 0))) := c8_pa
  have r8 : cj_fr [x] G G8 := cj_frsk r7 y_pg f8
  refine cj_st (st' := [.ref pg, .ref x]) rfl ?_
  refine cj_pc (pc' := 36) rfl ?_
  refine cj_putF flX6_27 rfl rfl dX6_init_36 k8_x rfl rfl (Nat.le_of_ble_eq_true rfl) ?_
  refine cj_nm (fun G9 e9 => ?_)
  have k9_x : G9 x = some (.inr (6, [.ref wt, .int 0, .ref rd, .ref pg, .null])) := by rw [e9]; exact cj_up_s
  have k9_wt : G9 wt = some (.inl (1, 90, .inl (fun _ => 0))) := by rw [e9, cj_up_n (Ne.symm ne_x_wt)]; exact k8_wt
  have k9_rd : G9 rd = some (.inr (3, [.ref rt, .int 0, .int 0, .ref nb, .int 0, .int (-1)])) := by rw [e9, cj_up_n (Ne.symm ne_x_rd)]; exact k8_rd
  have k9_rt : G9 rt = some (.inl (1, 90, .inl (fun _ => 0))) := by rw [e9, cj_up_n (Ne.symm ne_x_rt)]; exact k8_rt
  have k9_nb : G9 nb = some (.inl (1, 90, .inl (fun _ => 0))) := by rw [e9, cj_up_n (Ne.symm ne_x_nb)]; exact k8_nb
  have k9_pg : G9 pg = some (.inr (0, [.ref pa, .int 0])) := by rw [e9, cj_up_n (Ne.symm ne_x_pg)]; exact k8_pg
  have k9_pa : G9 pa = some (.inl (0, 360, .inl (fun _ => 0))) := by rw [e9, cj_up_n (Ne.symm ne_x_pa)]; exact k8_pa
  have r9 : cj_fr [x] G G9 := by rw [e9]; exact cj_fr.up r8 (by simp)
  refine cj_pc (pc' := 39) rfl ?_
  refine cj_bipush (v := 20) dX6_init_39 (by decide) ?_
  refine cj_pc (pc' := 41) rfl ?_
  refine cj_sipush (v := 200) dX6_init_41 (by decide) ?_
  refine cj_pc (pc' := 44) rfl ?_
  refine cj_iload_n dX6_init_44 rfl ?_
  refine cj_min (rest := [.int 20]) dX6_init_45 lkX6_31 (by decide) (by decide) ?_
  refine cj_pc (pc' := 48) rfl ?_
  refine cj_max (rest := []) dX6_init_48 lkX6_37 (by decide) (by decide) ?_
  refine cj_pc (pc' := 51) rfl ?_
  refine cj_st (st' := [.int (nI (nw w))]) (by rw [nw_cl]) ?_
  refine cj_istore_n (lv' := [(2, .int (nI (nw w))), (0, .ref x), (1, .int w)]) dX6_init_51 (by decide) rfl ?_
  refine cj_aload_n dX6_init_52 rfl ?_
  refine cj_new (ci := 2) (fs := [.null, .null, .null, .int 0, .int 0, .int 0, .int 0, .int 0, .int 0]) (k := 0 + 1 + 3 + 1) (n := 0 + 40 + (0 + nw w + nw w + nw w) + 6) rfl uw_X2 tyX2_ok klX6_40.1 klX6_40.2.1 klX6_40.2.2 (by intro j hj; rcases (show j = 0 ∨ j = 1 ∨ j = 2 ∨ j = 3 ∨ j = 4 ∨ j = 5 ∨ j = 6 ∨ j = 7 ∨ j = 8 by omega) with rfl | rfl | rfl | rfl | rfl | rfl | rfl | rfl | rfl <;> rfl) dX6_init_53 (fun m zm => ?_)
  refine cj_nm (fun G10 e10 => ?_)
  have ne_x_m : x ≠ m := cj_nn k9_x zm
  have ne_wt_m : wt ≠ m := cj_nn k9_wt zm
  have ne_rd_m : rd ≠ m := cj_nn k9_rd zm
  have ne_rt_m : rt ≠ m := cj_nn k9_rt zm
  have ne_nb_m : nb ≠ m := cj_nn k9_nb zm
  have ne_pg_m : pg ≠ m := cj_nn k9_pg zm
  have ne_pa_m : pa ≠ m := cj_nn k9_pa zm
  have y_m : G m = none := cj_fr.none r9 zm (cj_ni1 (Ne.symm (cj_nn k9_x zm)))
  have k10_x : G10 x = some (.inr (6, [.ref wt, .int 0, .ref rd, .ref pg, .null])) := by rw [e10]; exact cj_up_ne k9_x zm
  have k10_wt : G10 wt = some (.inl (1, 90, .inl (fun _ => 0))) := by rw [e10]; exact cj_up_ne k9_wt zm
  have k10_rd : G10 rd = some (.inr (3, [.ref rt, .int 0, .int 0, .ref nb, .int 0, .int (-1)])) := by rw [e10]; exact cj_up_ne k9_rd zm
  have k10_rt : G10 rt = some (.inl (1, 90, .inl (fun _ => 0))) := by rw [e10]; exact cj_up_ne k9_rt zm
  have k10_nb : G10 nb = some (.inl (1, 90, .inl (fun _ => 0))) := by rw [e10]; exact cj_up_ne k9_nb zm
  have k10_pg : G10 pg = some (.inr (0, [.ref pa, .int 0])) := by rw [e10]; exact cj_up_ne k9_pg zm
  have k10_pa : G10 pa = some (.inl (0, 360, .inl (fun _ => 0))) := by rw [e10]; exact cj_up_ne k9_pa zm
  have k10_m : G10 m = some (.inr (2, [.null, .null, .null, .int 0, .int 0, .int 0, .int 0, .int 0, .int 0])) := by rw [e10]; exact cj_up_s
  have r10 : cj_fr [x] G G10 := by rw [e10]; exact cj_fr.new r9 zm
  refine cj_dup dX6_init_56 rfl ?_
  refine cj_aload_n dX6_init_57 rfl ?_
  refine cj_get flX6_27 dX6_init_58 k10_x rfl ?_
  refine cj_pc (pc' := 61) rfl ?_
  refine cj_new (ci := 1) (fs := [.null, .null, .null, .int 0, .int 0, .int 0]) (k := 0 + 1 + 3) (n := 0 + 40 + (0 + nw w + nw w + nw w)) rfl uw_X1 tyX1_ok klX6_42.1 klX6_42.2.1 klX6_42.2.2 (by intro j hj; rcases (show j = 0 ∨ j = 1 ∨ j = 2 ∨ j = 3 ∨ j = 4 ∨ j = 5 by omega) with rfl | rfl | rfl | rfl | rfl | rfl <;> rfl) dX6_init_61 (fun o zo => ?_)
  refine cj_nm (fun G11 e11 => ?_)
  have ne_x_o : x ≠ o := cj_nn k10_x zo
  have ne_wt_o : wt ≠ o := cj_nn k10_wt zo
  have ne_rd_o : rd ≠ o := cj_nn k10_rd zo
  have ne_rt_o : rt ≠ o := cj_nn k10_rt zo
  have ne_nb_o : nb ≠ o := cj_nn k10_nb zo
  have ne_pg_o : pg ≠ o := cj_nn k10_pg zo
  have ne_pa_o : pa ≠ o := cj_nn k10_pa zo
  have ne_m_o : m ≠ o := cj_nn k10_m zo
  have y_o : G o = none := cj_fr.none r10 zo (cj_ni1 (Ne.symm (cj_nn k10_x zo)))
  have k11_x : G11 x = some (.inr (6, [.ref wt, .int 0, .ref rd, .ref pg, .null])) := by rw [e11]; exact cj_up_ne k10_x zo
  have k11_wt : G11 wt = some (.inl (1, 90, .inl (fun _ => 0))) := by rw [e11]; exact cj_up_ne k10_wt zo
  have k11_rd : G11 rd = some (.inr (3, [.ref rt, .int 0, .int 0, .ref nb, .int 0, .int (-1)])) := by rw [e11]; exact cj_up_ne k10_rd zo
  have k11_rt : G11 rt = some (.inl (1, 90, .inl (fun _ => 0))) := by rw [e11]; exact cj_up_ne k10_rt zo
  have k11_nb : G11 nb = some (.inl (1, 90, .inl (fun _ => 0))) := by rw [e11]; exact cj_up_ne k10_nb zo
  have k11_pg : G11 pg = some (.inr (0, [.ref pa, .int 0])) := by rw [e11]; exact cj_up_ne k10_pg zo
  have k11_pa : G11 pa = some (.inl (0, 360, .inl (fun _ => 0))) := by rw [e11]; exact cj_up_ne k10_pa zo
  have k11_m : G11 m = some (.inr (2, [.null, .null, .null, .int 0, .int 0, .int 0, .int 0, .int 0, .int 0])) := by rw [e11]; exact cj_up_ne k10_m zo
  have k11_o : G11 o = some (.inr (1, [.null, .null, .null, .int 0, .int 0, .int 0])) := by rw [e11]; exact cj_up_s
  have r11 : cj_fr [x] G G11 := by rw [e11]; exact cj_fr.new r10 zo
  refine cj_dup dX6_init_64 rfl ?_
  refine cj_iload_n dX6_init_65 rfl ?_
  refine cj_callI (M' := mX1_init) (d' := 1) (k' := 3) (n' := (0 + nw w + nw w + nw w)) (k := 0 + 1) (n := 0 + 40) (index := 44) (np := 1) (As := [.int (nI (nw w))]) (rest := [.ref o, .ref pg, .ref m, .ref m, .ref x]) dX6_init_66 lkX6_44 mwX1_init (t_Heap k11_o hnw.2) (by decide) rfl rfl (Nat.le_of_ble_eq_true rfl) (fun v9 G12 q9 => ?_)
  obtain ⟨ev12, a, b, c, c12_q, c12_a, c12_b, c12_c, z12_a, z12_b, z12_c, d12_a_b, d12_a_c, d12_b_c, f12⟩ := q9
  subst ev12
  have y_a : G a = none := cj_fr.none r11 z12_a (cj_ni1 (Ne.symm (cj_nn k11_x z12_a)))
  have ne_x_a : x ≠ a := cj_nn k11_x z12_a
  have ne_wt_a : wt ≠ a := cj_nn k11_wt z12_a
  have ne_rd_a : rd ≠ a := cj_nn k11_rd z12_a
  have ne_rt_a : rt ≠ a := cj_nn k11_rt z12_a
  have ne_nb_a : nb ≠ a := cj_nn k11_nb z12_a
  have ne_pg_a : pg ≠ a := cj_nn k11_pg z12_a
  have ne_pa_a : pa ≠ a := cj_nn k11_pa z12_a
  have ne_m_a : m ≠ a := cj_nn k11_m z12_a
  have ne_o_a : o ≠ a := cj_nn k11_o z12_a
  have y_b : G b = none := cj_fr.none r11 z12_b (cj_ni1 (Ne.symm (cj_nn k11_x z12_b)))
  have ne_x_b : x ≠ b := cj_nn k11_x z12_b
  have ne_wt_b : wt ≠ b := cj_nn k11_wt z12_b
  have ne_rd_b : rd ≠ b := cj_nn k11_rd z12_b
  have ne_rt_b : rt ≠ b := cj_nn k11_rt z12_b
  have ne_nb_b : nb ≠ b := cj_nn k11_nb z12_b
  have ne_pg_b : pg ≠ b := cj_nn k11_pg z12_b
  have ne_pa_b : pa ≠ b := cj_nn k11_pa z12_b
  have ne_m_b : m ≠ b := cj_nn k11_m z12_b
  have ne_o_b : o ≠ b := cj_nn k11_o z12_b
  have y_c : G c = none := cj_fr.none r11 z12_c (cj_ni1 (Ne.symm (cj_nn k11_x z12_c)))
  have ne_x_c : x ≠ c := cj_nn k11_x z12_c
  have ne_wt_c : wt ≠ c := cj_nn k11_wt z12_c
  have ne_rd_c : rd ≠ c := cj_nn k11_rd z12_c
  have ne_rt_c : rt ≠ c := cj_nn k11_rt z12_c
  have ne_nb_c : nb ≠ c := cj_nn k11_nb z12_c
  have ne_pg_c : pg ≠ c := cj_nn k11_pg z12_c
  have ne_pa_c : pa ≠ c := cj_nn k11_pa z12_c
  have ne_m_c : m ≠ c := cj_nn k11_m z12_c
  have ne_o_c : o ≠ c := cj_nn k11_o z12_c
  have k12_x : G12 x = some (.inr (6, [.ref wt, .int 0, .ref rd, .ref pg, .null])) := f12 _ _ (cj_ni1 ne_x_o) k11_x
  have k12_wt : G12 wt = some (.inl (1, 90, .inl (fun _ => 0))) := f12 _ _ (cj_ni1 ne_wt_o) k11_wt
  have k12_rd : G12 rd = some (.inr (3, [.ref rt, .int 0, .int 0, .ref nb, .int 0, .int (-1)])) := f12 _ _ (cj_ni1 ne_rd_o) k11_rd
  have k12_rt : G12 rt = some (.inl (1, 90, .inl (fun _ => 0))) := f12 _ _ (cj_ni1 ne_rt_o) k11_rt
  have k12_nb : G12 nb = some (.inl (1, 90, .inl (fun _ => 0))) := f12 _ _ (cj_ni1 ne_nb_o) k11_nb
  have k12_pg : G12 pg = some (.inr (0, [.ref pa, .int 0])) := f12 _ _ (cj_ni1 ne_pg_o) k11_pg
  have k12_pa : G12 pa = some (.inl (0, 360, .inl (fun _ => 0))) := f12 _ _ (cj_ni1 ne_pa_o) k11_pa
  have k12_m : G12 m = some (.inr (2, [.null, .null, .null, .int 0, .int 0, .int 0, .int 0, .int 0, .int 0])) := f12 _ _ (cj_ni1 ne_m_o) k11_m
  have k12_o : G12 o = some (.inr (1, [.ref a, .ref b, .ref c, .int 0, .int 0, .int 0])) := c12_q
  have k12_a : G12 a = some (.inl (0, nw w, .inl (fun _ => 0))) := c12_a
  have k12_b : G12 b = some (.inl (0, nw w, .inl (fun _ => 0))) := c12_b
  have k12_c : G12 c = some (.inl (0, nw w, .inl (fun _ => 0))) := c12_c
  have ne_a_b : a ≠ b := d12_a_b
  have ne_a_c : a ≠ c := d12_a_c
  have ne_b_c : b ≠ c := d12_b_c
  have r12 : cj_fr [x] G G12 := cj_frsk r11 y_o f12
  refine cj_st (st' := [.ref o, .ref pg, .ref m, .ref m, .ref x]) rfl ?_
  refine cj_pc (pc' := 69) rfl ?_
  refine cj_callI (M' := mX2_init) (d' := 1) (k' := 1) (n' := 40) (k := 0) (n := 0) (index := 47) (np := 2) (As := [.ref pg, .ref o]) (rest := [.ref m, .ref x]) dX6_init_69 lkX6_47 mwX2_init (t_Machine k12_m) (by decide) rfl rfl (Nat.le_of_ble_eq_true rfl) (fun v9 G13 q9 => ?_)
  obtain ⟨ev13, sk, c13_q, c13_sk, z13_sk, f13⟩ := q9
  subst ev13
  have y_sk : G sk = none := cj_fr.none r12 z13_sk (cj_ni1 (Ne.symm (cj_nn k12_x z13_sk)))
  have ne_x_sk : x ≠ sk := cj_nn k12_x z13_sk
  have ne_wt_sk : wt ≠ sk := cj_nn k12_wt z13_sk
  have ne_rd_sk : rd ≠ sk := cj_nn k12_rd z13_sk
  have ne_rt_sk : rt ≠ sk := cj_nn k12_rt z13_sk
  have ne_nb_sk : nb ≠ sk := cj_nn k12_nb z13_sk
  have ne_pg_sk : pg ≠ sk := cj_nn k12_pg z13_sk
  have ne_pa_sk : pa ≠ sk := cj_nn k12_pa z13_sk
  have ne_m_sk : m ≠ sk := cj_nn k12_m z13_sk
  have ne_o_sk : o ≠ sk := cj_nn k12_o z13_sk
  have ne_a_sk : a ≠ sk := cj_nn k12_a z13_sk
  have ne_b_sk : b ≠ sk := cj_nn k12_b z13_sk
  have ne_c_sk : c ≠ sk := cj_nn k12_c z13_sk
  have k13_x : G13 x = some (.inr (6, [.ref wt, .int 0, .ref rd, .ref pg, .null])) := f13 _ _ (cj_ni1 ne_x_m) k12_x
  have k13_wt : G13 wt = some (.inl (1, 90, .inl (fun _ => 0))) := f13 _ _ (cj_ni1 ne_wt_m) k12_wt
  have k13_rd : G13 rd = some (.inr (3, [.ref rt, .int 0, .int 0, .ref nb, .int 0, .int (-1)])) := f13 _ _ (cj_ni1 ne_rd_m) k12_rd
  have k13_rt : G13 rt = some (.inl (1, 90, .inl (fun _ => 0))) := f13 _ _ (cj_ni1 ne_rt_m) k12_rt
  have k13_nb : G13 nb = some (.inl (1, 90, .inl (fun _ => 0))) := f13 _ _ (cj_ni1 ne_nb_m) k12_nb
  have k13_pg : G13 pg = some (.inr (0, [.ref pa, .int 0])) := f13 _ _ (cj_ni1 ne_pg_m) k12_pg
  have k13_pa : G13 pa = some (.inl (0, 360, .inl (fun _ => 0))) := f13 _ _ (cj_ni1 ne_pa_m) k12_pa
  have k13_m : G13 m = some (.inr (2, [.ref pg, .ref o, .ref sk, .int 0, .int 1, .int 1, .int 0, .int 0, .int 0])) := c13_q
  have k13_o : G13 o = some (.inr (1, [.ref a, .ref b, .ref c, .int 0, .int 0, .int 0])) := f13 _ _ (cj_ni1 (Ne.symm ne_m_o)) k12_o
  have k13_a : G13 a = some (.inl (0, nw w, .inl (fun _ => 0))) := f13 _ _ (cj_ni1 (Ne.symm ne_m_a)) k12_a
  have k13_b : G13 b = some (.inl (0, nw w, .inl (fun _ => 0))) := f13 _ _ (cj_ni1 (Ne.symm ne_m_b)) k12_b
  have k13_c : G13 c = some (.inl (0, nw w, .inl (fun _ => 0))) := f13 _ _ (cj_ni1 (Ne.symm ne_m_c)) k12_c
  have k13_sk : G13 sk = some (.inl (0, 40, .inl (fun _ => 0))) := c13_sk
  have r13 : cj_fr [x] G G13 := cj_frsk r12 y_m f13
  refine cj_st (st' := [.ref m, .ref x]) rfl ?_
  refine cj_pc (pc' := 72) rfl ?_
  refine cj_putF flX6_50 rfl rfl dX6_init_72 k13_x rfl rfl (Nat.le_of_ble_eq_true rfl) ?_
  refine cj_nm (fun G14 e14 => ?_)
  have k14_x : G14 x = some (.inr (6, [.ref wt, .int 0, .ref rd, .ref pg, .ref m])) := by rw [e14]; exact cj_up_s
  have k14_wt : G14 wt = some (.inl (1, 90, .inl (fun _ => 0))) := by rw [e14, cj_up_n (Ne.symm ne_x_wt)]; exact k13_wt
  have k14_rd : G14 rd = some (.inr (3, [.ref rt, .int 0, .int 0, .ref nb, .int 0, .int (-1)])) := by rw [e14, cj_up_n (Ne.symm ne_x_rd)]; exact k13_rd
  have k14_rt : G14 rt = some (.inl (1, 90, .inl (fun _ => 0))) := by rw [e14, cj_up_n (Ne.symm ne_x_rt)]; exact k13_rt
  have k14_nb : G14 nb = some (.inl (1, 90, .inl (fun _ => 0))) := by rw [e14, cj_up_n (Ne.symm ne_x_nb)]; exact k13_nb
  have k14_pg : G14 pg = some (.inr (0, [.ref pa, .int 0])) := by rw [e14, cj_up_n (Ne.symm ne_x_pg)]; exact k13_pg
  have k14_pa : G14 pa = some (.inl (0, 360, .inl (fun _ => 0))) := by rw [e14, cj_up_n (Ne.symm ne_x_pa)]; exact k13_pa
  have k14_m : G14 m = some (.inr (2, [.ref pg, .ref o, .ref sk, .int 0, .int 1, .int 1, .int 0, .int 0, .int 0])) := by rw [e14, cj_up_n (Ne.symm ne_x_m)]; exact k13_m
  have k14_o : G14 o = some (.inr (1, [.ref a, .ref b, .ref c, .int 0, .int 0, .int 0])) := by rw [e14, cj_up_n (Ne.symm ne_x_o)]; exact k13_o
  have k14_a : G14 a = some (.inl (0, nw w, .inl (fun _ => 0))) := by rw [e14, cj_up_n (Ne.symm ne_x_a)]; exact k13_a
  have k14_b : G14 b = some (.inl (0, nw w, .inl (fun _ => 0))) := by rw [e14, cj_up_n (Ne.symm ne_x_b)]; exact k13_b
  have k14_c : G14 c = some (.inl (0, nw w, .inl (fun _ => 0))) := by rw [e14, cj_up_n (Ne.symm ne_x_c)]; exact k13_c
  have k14_sk : G14 sk = some (.inl (0, 40, .inl (fun _ => 0))) := by rw [e14, cj_up_n (Ne.symm ne_x_sk)]; exact k13_sk
  have r14 : cj_fr [x] G G14 := by rw [e14]; exact cj_fr.up r13 (by simp)
  refine cj_vret rfl dX6_init_75 ?_
  have nd : [x, wt, rd, rt, nb, pg, pa, m, o, sk, a, b, c].Nodup := by
    refine List.nodup_cons.mpr ⟨by simp only [List.mem_cons, List.not_mem_nil, or_false, not_or]; exact ⟨ne_x_wt, ne_x_rd, ne_x_rt, ne_x_nb, ne_x_pg, ne_x_pa, ne_x_m, ne_x_o, ne_x_sk, ne_x_a, ne_x_b, ne_x_c⟩, ?_⟩
    refine List.nodup_cons.mpr ⟨by simp only [List.mem_cons, List.not_mem_nil, or_false, not_or]; exact ⟨ne_wt_rd, ne_wt_rt, ne_wt_nb, ne_wt_pg, ne_wt_pa, ne_wt_m, ne_wt_o, ne_wt_sk, ne_wt_a, ne_wt_b, ne_wt_c⟩, ?_⟩
    refine List.nodup_cons.mpr ⟨by simp only [List.mem_cons, List.not_mem_nil, or_false, not_or]; exact ⟨ne_rd_rt, ne_rd_nb, ne_rd_pg, ne_rd_pa, ne_rd_m, ne_rd_o, ne_rd_sk, ne_rd_a, ne_rd_b, ne_rd_c⟩, ?_⟩
    refine List.nodup_cons.mpr ⟨by simp only [List.mem_cons, List.not_mem_nil, or_false, not_or]; exact ⟨ne_rt_nb, ne_rt_pg, ne_rt_pa, ne_rt_m, ne_rt_o, ne_rt_sk, ne_rt_a, ne_rt_b, ne_rt_c⟩, ?_⟩
    refine List.nodup_cons.mpr ⟨by simp only [List.mem_cons, List.not_mem_nil, or_false, not_or]; exact ⟨ne_nb_pg, ne_nb_pa, ne_nb_m, ne_nb_o, ne_nb_sk, ne_nb_a, ne_nb_b, ne_nb_c⟩, ?_⟩
    refine List.nodup_cons.mpr ⟨by simp only [List.mem_cons, List.not_mem_nil, or_false, not_or]; exact ⟨ne_pg_pa, ne_pg_m, ne_pg_o, ne_pg_sk, ne_pg_a, ne_pg_b, ne_pg_c⟩, ?_⟩
    refine List.nodup_cons.mpr ⟨by simp only [List.mem_cons, List.not_mem_nil, or_false, not_or]; exact ⟨ne_pa_m, ne_pa_o, ne_pa_sk, ne_pa_a, ne_pa_b, ne_pa_c⟩, ?_⟩
    refine List.nodup_cons.mpr ⟨by simp only [List.mem_cons, List.not_mem_nil, or_false, not_or]; exact ⟨ne_m_o, ne_m_sk, ne_m_a, ne_m_b, ne_m_c⟩, ?_⟩
    refine List.nodup_cons.mpr ⟨by simp only [List.mem_cons, List.not_mem_nil, or_false, not_or]; exact ⟨ne_o_sk, ne_o_a, ne_o_b, ne_o_c⟩, ?_⟩
    refine List.nodup_cons.mpr ⟨by simp only [List.mem_cons, List.not_mem_nil, or_false, not_or]; exact ⟨(Ne.symm ne_a_sk), (Ne.symm ne_b_sk), (Ne.symm ne_c_sk)⟩, ?_⟩
    refine List.nodup_cons.mpr ⟨by simp only [List.mem_cons, List.not_mem_nil, or_false, not_or]; exact ⟨ne_a_b, ne_a_c⟩, ?_⟩
    refine List.nodup_cons.mpr ⟨by simp only [List.mem_cons, List.not_mem_nil, or_false, not_or]; exact ne_b_c, ?_⟩
    exact List.nodup_cons.mpr ⟨List.not_mem_nil, List.nodup_nil⟩
  exact ⟨rfl, wt, rd, rt, nb, pg, pa, m, o, sk, a, b, c, k14_x, k14_wt, k14_rd, k14_rt, k14_nb, k14_pg, k14_pa, k14_m, k14_o, k14_sk, k14_a, k14_b, k14_c, ne_rt_nb, ne_wt_rt, ne_wt_nb, ne_a_b, ne_a_c, ne_b_c, ne_a_sk, ne_b_sk, ne_c_sk, ne_pa_a, ne_pa_b, ne_pa_c, ne_pa_sk, y_wt, y_rd, y_rt, y_nb, y_pg, y_pa, y_m, y_o, y_sk, y_a, y_b, y_c, r14, nd⟩
/-! the reference's: L what has been made: field, address, kind, length -/
abbrev il_T : Type := List (Nat × Nat × Nat × Nat)
def il (L : il_T) (j : Nat) : Nat := match L.find? (fun q => q.1 == j) with
  | some q => q.2.1
  | none => 0
def IN (q : Nat) (fs : List Value) (L : il_T) (G0 G : cj_G) : Prop := G q = some (.inr (7, fs)) ∧ fs.length = 57 ∧ (∀ z ∈ L, G z.2.1 = some (.inl (z.2.2.1, z.2.2.2, .inl (fun _ => 0))) ∧ G0 z.2.1 = none ∧ z.2.1 ≠ q) ∧ (L.map (fun z => z.2.1)).Nodup ∧ cj_fr [q] G0 G ∧ G0 q ≠ none
section INS
variable {d k0 n0 k n pc q : Nat} {Qr : Option Value → cj_G → Prop} {Qx : String → cj_G → Prop} {lv : List (Nat × Value)} {fs : List Value} {L : il_T} {G0 G : cj_G}
theorem in_up {fs' : List Value} (h : IN q fs L G0 G) (hl : fs'.length = 57) : IN q fs' L G0 (cj_up G q (.inr (7, fs'))) := by
  obtain ⟨h1, h2, h3, h4, h5, h6⟩ := h
  refine ⟨cj_up_s, hl, fun z hz => ?_, h4, cj_fr.up h5 (by simp), h6⟩
  obtain ⟨a1, a2, a3⟩ := h3 z hz
  exact ⟨by rw [cj_up_n a3]; exact a1, a2, a3⟩
theorem in_arr {at0 : ArrayType} {t z idx kf : Nat} {ty : FieldType} {a0 : vp_A} (h : IN q fs L G0 G) (ha0 : a0 = (z, .inl (fun _ => 0))) (hty : newarray.typeOf at0 = ty) (hp : ∀ C : String, ty ≠ .object C) (ht : cj_tl[t]? = some ty) (h1 : Cond.arrayClass ty ∈ cj_all) (ha : ∀ cA : ClassId, vp_cell cA a0 = arrV cA z (fun _ => defaultValue ty)) (hz : z ≤ 1000) (hby : z * componentBytes ty ≤ 536870912) (hd : decode mX7_init.2.1 pc = .ok (.newarray at0, 2)) (hd2 : decode mX7_init.2.1 (pc + 2) = .ok (.putfield idx, 3)) (hf : cj_fl RX7 idx 7 kf (tyX7 kf) true) (hnw : ∀ a : Nat, narrow (tyX7 kf) (.ref a) = .ref a ∧ fits (tyX7 kf) (.ref a) = true) (hk : kf < 57)
    (kk : ∀ (a : Nat) (G' : cj_G), IN q (fs.set kf (.ref a)) ((kf, a, t, z) :: L) G0 G' → cj_J mX7_init d k0 n0 Qr Qx k n (pc + 2 + 3) lv [] G') : cj_J mX7_init d k0 n0 Qr Qx (k + 1) (n + z) pc lv [.int (nI z), .ref q] G := by
  subst ha0
  refine cj_newa (t := t) (N := z) (a0 := (z, .inl (fun _ => 0))) hty hp ht h1 ha (nI_pos (by omega)) (nI_clamp (by omega)) hby hd (fun a ga => ?_)
  obtain ⟨i1, i2, i3, i4, i5, i6⟩ := h
  have hq : q ≠ a := cj_nn i1 ga
  have g0 : G0 a = none := cj_fr.none i5 ga (cj_ni1 (Ne.symm hq))
  refine cj_putF hf rfl rfl hd2 (show cj_up G a _ q = some (.inr (7, fs)) from cj_up_ne i1 ga) (hnw a).1 (hnw a).2 (by rw [i2]; exact hk) ?_
  refine kk a _ (in_up (fs := fs) ⟨cj_up_ne i1 ga, i2, fun z9 hz9 => ?_, ?_, cj_fr.new i5 ga, i6⟩ (by rw [List.length_set]; exact i2))
  · rcases List.mem_cons.mp hz9 with rfl | hz9
    · exact ⟨cj_up_s, g0, Ne.symm hq⟩
    · obtain ⟨a1, a2, a3⟩ := i3 z9 hz9
      exact ⟨cj_up_ne a1 ga, a2, a3⟩
  · refine List.nodup_cons.mpr ⟨fun h9 => ?_, i4⟩
    obtain ⟨z9, h8, e9⟩ := List.mem_map.mp h9
    have := (i3 z9 h8).1
    have e9 : z9.2.1 = a := e9
    rw [e9, ga] at this; cases this
theorem il_at : ∀ {L : il_T}, (L.map (fun z => z.1)).Nodup → ∀ z ∈ L, il L z.1 = z.2.1 := by
  intro L
  induction L with
  | nil => intro _ z hz; exact absurd hz List.not_mem_nil
  | cons y t ih =>
    intro hn z hz
    obtain ⟨h1, h2⟩ := List.nodup_cons.mp hn
    rcases List.mem_cons.mp hz with rfl | hz
    · unfold il; rw [List.find?_cons_of_pos (by simp)]
    · have hne : ¬ (y.1 == z.1) = true := fun e => h1 (by show y.1 ∈ _; rw [beq_iff_eq.mp e]; exact List.mem_map.mpr ⟨z, hz, rfl⟩)
      have := ih h2 z hz
      unfold il at this ⊢
      rw [show List.find? (fun q => q.1 == z.1) (y :: t) = List.find? (fun q => q.1 == z.1) t from List.find?_cons_of_neg hne]; exact this
theorem nd_inj : ∀ {L : il_T}, (L.map (fun z => z.2.1)).Nodup → ∀ y ∈ L, ∀ z ∈ L, y.2.1 = z.2.1 → y = z := by
  intro L
  induction L with
  | nil => intro _ y hy; exact absurd hy List.not_mem_nil
  | cons x t ih =>
    intro hn y hy z hz e
    obtain ⟨h1, h2⟩ := List.nodup_cons.mp hn
    rcases List.mem_cons.mp hy with rfl | hy2
    · rcases List.mem_cons.mp hz with rfl | hz2
      · rfl
      · exact absurd (show y.2.1 ∈ t.map (fun z => z.2.1) from List.mem_map.mpr ⟨z, hz2, e.symm⟩) h1
    · rcases List.mem_cons.mp hz with rfl | hz2
      · exact absurd (show z.2.1 ∈ t.map (fun z => z.2.1) from List.mem_map.mpr ⟨y, hy2, e⟩) h1
      · exact ih h2 y hy2 z hz2 e
def RMD (mo : Nat) (ad : Nat → Nat) (S : rm_S) (G : cj_G) : Prop := G mo = some (.inr (7, rm_fs ad S.1)) ∧ ∀ j ∈ rm_js, ∀ t n : Nat, rm_ar j = some (t, n) → G (ad j) = some (.inl (t, n, .inl (S.2 j)))
def il_K : List (Nat × Nat × Nat) := rm_js.map (fun j => (j, ((rm_ar j).getD (0, 0)).1, ((rm_ar j).getD (0, 0)).2))
theorem il_mem : ∀ j ∈ rm_js, ∃ t n : Nat, rm_ar j = some (t, n) ∧ (j, t, n) ∈ il_K := fun j hj => by
  obtain ⟨t, n, h⟩ := rm_js_some hj
  exact ⟨t, n, h, List.mem_map.mpr ⟨j, hj, by rw [h]; rfl⟩⟩
/-- all is made -/
theorem in_end (h : IN q fs L G0 G) (hL : (L.map (fun z => (z.1, z.2.2))).reverse = il_K) {S : rm_S} (hfs : fs = rm_fs (il L) S.1) (hS : ∀ j, S.2 j = fun _ => 0) : rm_A q (il L) ∧ RMD q (il L) S G ∧ (∀ j ∈ rm_js, G0 (il L j) = none) := by
  obtain ⟨h1, h2, h3, h4, h5, h6⟩ := h
  have hm : L.map (fun z => z.1) = rm_js.reverse := by
    have e : (L.map (fun z => (z.1, z.2.2))).map (fun y => y.1) = L.map (fun z => z.1) := by rw [List.map_map]; rfl
    rw [← e, ← List.reverse_reverse (L.map (fun z => (z.1, z.2.2))), hL]; rfl
  have hnd : (L.map (fun z => z.1)).Nodup := by rw [hm]; decide
  have hz : ∀ j ∈ rm_js, ∃ (a t n : Nat), rm_ar j = some (t, n) ∧ (j, a, t, n) ∈ L := fun j hj => by
    obtain ⟨t, n, e1, e2⟩ := il_mem j hj
    rw [← hL] at e2
    obtain ⟨z, z1, z2⟩ := List.mem_map.mp (List.mem_reverse.mp e2)
    have e3 : z = (j, z.2.1, t, n) := Prod.ext (Prod.mk.inj z2).1 (Prod.ext rfl (Prod.mk.inj z2).2)
    exact ⟨z.2.1, t, n, e1, by rw [← e3]; exact z1⟩
  refine ⟨⟨fun i hi j hj e => ?_, fun j hj => ?_⟩, ⟨by rw [h1, hfs], fun j hj t n ht => ?_⟩, fun j hj => ?_⟩
  · obtain ⟨a, t, n, _, z1⟩ := hz i hi
    obtain ⟨a', t', n', _, z2⟩ := hz j hj
    have e1 := il_at hnd _ z1
    have e2 := il_at hnd _ z2
    have e3 := nd_inj h4 _ z1 _ z2 (by show a = a'; rw [← show il L i = a from e1, ← show il L j = a' from e2]; exact e)
    exact (Prod.mk.inj e3).1
  · obtain ⟨a, t, n, _, z1⟩ := hz j hj
    rw [show il L j = a from il_at hnd _ z1]
    exact (h3 _ z1).2.2
  · obtain ⟨a, t', n', e1, z1⟩ := hz j hj
    rw [show il L j = a from il_at hnd _ z1, hS j]
    rw [e1] at ht
    obtain ⟨rfl, rfl⟩ := Prod.mk.inj (Option.some.inj ht)
    exact (h3 _ z1).1
  · obtain ⟨a, t, n, _, z1⟩ := hz j hj
    rw [show il L j = a from il_at hnd _ z1]
    exact (h3 _ z1).2.1
end INS
def rm_S0 (N : Nat) : rm_S := (fun j => if j = 7 then -1 else if j = 43 then nI N else if j = 49 then 1 else if j = 50 then 1 else 0, fun _ _ => 0)
set_option maxHeartbeats 8000000 in
set_option maxRecDepth 100000 in
theorem t_init7 {G : cj_G} {q : Nat} {w : Int32} (k_q : G q = some (.inr (7, [.int 0, .int 0, .null, .int 0, .null, .int 0, .int 0, .int 0, .int 0, .null, .null, .null, .null, .null, .null, .int 0, .null, .int 0, .null, .null, .null, .null, .null, .null, .null, .null, .int 0, .null, .null, .int 0, .null, .int 0, .null, .int 0, .int 0, .int 0, .null, .int 0, .null, .int 0, .null, .null, .null, .int 0, .null, .int 0, .int 0, .int 0, .null, .int 0, .int 0, .int 0, .null, .int 0, .int 0, .int 0, .int 0]))) : cj_T mX7_init 1 29 5848 [.ref q, .int w] G (fun v G' => v = none ∧ ∃ ad : Nat → Nat, rm_A q ad ∧ RMD q ad (rm_S0 (nw w)) G' ∧ (∀ j ∈ rm_js, G (ad j) = none) ∧ cj_fr [q] G G') cj_no := by
  refine cj_T_of (by decide) (Nat.le_of_ble_eq_true rfl) ?_
  refine cj_lvs (lv' := [(0, .ref q), (1, .int w)]) rfl ?_
  refine cj_fewer (k' := 0 + 1 + 1 + 1 + 1 + 1 + 1 + 1 + 1 + 1 + 1 + 1 + 1 + 1 + 1 + 1 + 1 + 1 + 1 + 1 + 1 + 1 + 1 + 1 + 1 + 1 + 1 + 1 + 1 + 1) (n' := 0 + 40 + 400 + 400 + 600 + 600 + 600 + 372 + 372 + 100 + 100 + 60 + 60 + 8 + 8 + 8 + 8 + 8 + 8 + 8 + 8 + 100 + 300 + 300 + 300 + 300 + 300 + 300 + 90 + 90) (by decide) (by decide) ?_
  have I0 : IN q [.int 0, .int 0, .null, .int 0, .null, .int 0, .int 0, .int 0, .int 0, .null, .null, .null, .null, .null, .null, .int 0, .null, .int 0, .null, .null, .null, .null, .null, .null, .null, .null, .int 0, .null, .null, .int 0, .null, .int 0, .null, .int 0, .int 0, .int 0, .null, .int 0, .null, .int 0, .null, .null, .null, .int 0, .null, .int 0, .int 0, .int 0, .null, .int 0, .int 0, .int 0, .null, .int 0, .int 0, .int 0, .int 0] [] G G := ⟨k_q, rfl, fun z hz => absurd hz List.not_mem_nil, List.nodup_nil, cj_fr.rf, by rw [k_q]; simp⟩
  refine cj_aload_n dX7_init_0 rfl ?_
  refine cj_obj dX7_init_1 lkX7_1 (by decide) (by decide) ?_
  refine cj_aload_n dX7_init_4 rfl ?_
  refine cj_bipush (v := nI 90) dX7_init_5 (by decide) ?_
  refine cj_pc (pc' := 7) rfl ?_
  refine in_arr (t := 1) (z := 90) (kf := 2) (a0 := (90, .inl (fun _ => 0))) (k := 0 + 1 + 1 + 1 + 1 + 1 + 1 + 1 + 1 + 1 + 1 + 1 + 1 + 1 + 1 + 1 + 1 + 1 + 1 + 1 + 1 + 1 + 1 + 1 + 1 + 1 + 1 + 1 + 1) (n := 0 + 40 + 400 + 400 + 600 + 600 + 600 + 372 + 372 + 100 + 100 + 60 + 60 + 8 + 8 + 8 + 8 + 8 + 8 + 8 + 8 + 100 + 300 + 300 + 300 + 300 + 300 + 300 + 90) I0 rfl (ty := .char) rfl (by intro C h; cases h) rfl ac_char (fun cA => rfl) (by decide) (by decide) dX7_init_7 dX7_init_9 flX7_7 (fun a => ⟨rfl, rfl⟩) (by decide) (fun a2 G1 I1 => ?_)
  have I1 : IN q [.int 0, .int 0, .ref a2, .int 0, .null, .int 0, .int 0, .int 0, .int 0, .null, .null, .null, .null, .null, .null, .int 0, .null, .int 0, .null, .null, .null, .null, .null, .null, .null, .null, .int 0, .null, .null, .int 0, .null, .int 0, .null, .int 0, .int 0, .int 0, .null, .int 0, .null, .int 0, .null, .null, .null, .int 0, .null, .int 0, .int 0, .int 0, .null, .int 0, .int 0, .int 0, .null, .int 0, .int 0, .int 0, .int 0] [(2, a2, 1, 90)] G G1 := I1
  refine cj_pc (pc' := 12) rfl ?_
  refine cj_aload_n dX7_init_12 rfl ?_
  refine cj_bipush (v := nI 90) dX7_init_13 (by decide) ?_
  refine cj_pc (pc' := 15) rfl ?_
  refine in_arr (t := 1) (z := 90) (kf := 4) (a0 := (90, .inl (fun _ => 0))) (k := 0 + 1 + 1 + 1 + 1 + 1 + 1 + 1 + 1 + 1 + 1 + 1 + 1 + 1 + 1 + 1 + 1 + 1 + 1 + 1 + 1 + 1 + 1 + 1 + 1 + 1 + 1 + 1) (n := 0 + 40 + 400 + 400 + 600 + 600 + 600 + 372 + 372 + 100 + 100 + 60 + 60 + 8 + 8 + 8 + 8 + 8 + 8 + 8 + 8 + 100 + 300 + 300 + 300 + 300 + 300 + 300) I1 rfl (ty := .char) rfl (by intro C h; cases h) rfl ac_char (fun cA => rfl) (by decide) (by decide) dX7_init_15 dX7_init_17 flX7_13 (fun a => ⟨rfl, rfl⟩) (by decide) (fun a4 G2 I2 => ?_)
  have I2 : IN q [.int 0, .int 0, .ref a2, .int 0, .ref a4, .int 0, .int 0, .int 0, .int 0, .null, .null, .null, .null, .null, .null, .int 0, .null, .int 0, .null, .null, .null, .null, .null, .null, .null, .null, .int 0, .null, .null, .int 0, .null, .int 0, .null, .int 0, .int 0, .int 0, .null, .int 0, .null, .int 0, .null, .null, .null, .int 0, .null, .int 0, .int 0, .int 0, .null, .int 0, .int 0, .int 0, .null, .int 0, .int 0, .int 0, .int 0] [(4, a4, 1, 90), (2, a2, 1, 90)] G G2 := I2
  refine cj_pc (pc' := 20) rfl ?_
  refine cj_aload_n dX7_init_20 rfl ?_
  refine cj_iconst (v := (-1)) dX7_init_21 (by decide) ?_
  refine cj_pc (pc' := 22) rfl ?_
  refine cj_put flX7_16 dX7_init_22 I2.1 rfl rfl (Nat.le_of_ble_eq_true rfl) ?_
  refine cj_nm (fun G3 e3 => ?_)
  have I3 : IN q [.int 0, .int 0, .ref a2, .int 0, .ref a4, .int 0, .int 0, .int (-1), .int 0, .null, .null, .null, .null, .null, .null, .int 0, .null, .int 0, .null, .null, .null, .null, .null, .null, .null, .null, .int 0, .null, .null, .int 0, .null, .int 0, .null, .int 0, .int 0, .int 0, .null, .int 0, .null, .int 0, .null, .null, .null, .int 0, .null, .int 0, .int 0, .int 0, .null, .int 0, .int 0, .int 0, .null, .int 0, .int 0, .int 0, .int 0] [(4, a4, 1, 90), (2, a2, 1, 90)] G G3 := by rw [e3]; exact in_up I2 rfl
  refine cj_pc (pc' := 25) rfl ?_
  refine cj_aload_n dX7_init_25 rfl ?_
  refine cj_sipush (v := nI 300) dX7_init_26 (by decide) ?_
  refine cj_pc (pc' := 29) rfl ?_
  refine in_arr (t := 0) (z := 300) (kf := 9) (a0 := (300, .inl (fun _ => 0))) (k := 0 + 1 + 1 + 1 + 1 + 1 + 1 + 1 + 1 + 1 + 1 + 1 + 1 + 1 + 1 + 1 + 1 + 1 + 1 + 1 + 1 + 1 + 1 + 1 + 1 + 1 + 1) (n := 0 + 40 + 400 + 400 + 600 + 600 + 600 + 372 + 372 + 100 + 100 + 60 + 60 + 8 + 8 + 8 + 8 + 8 + 8 + 8 + 8 + 100 + 300 + 300 + 300 + 300 + 300) I3 rfl (ty := .int) rfl (by intro C h; cases h) rfl ac_int (fun cA => rfl) (by decide) (by decide) dX7_init_29 dX7_init_31 flX7_20 (fun a => ⟨rfl, rfl⟩) (by decide) (fun a9 G4 I4 => ?_)
  have I4 : IN q [.int 0, .int 0, .ref a2, .int 0, .ref a4, .int 0, .int 0, .int (-1), .int 0, .ref a9, .null, .null, .null, .null, .null, .int 0, .null, .int 0, .null, .null, .null, .null, .null, .null, .null, .null, .int 0, .null, .null, .int 0, .null, .int 0, .null, .int 0, .int 0, .int 0, .null, .int 0, .null, .int 0, .null, .null, .null, .int 0, .null, .int 0, .int 0, .int 0, .null, .int 0, .int 0, .int 0, .null, .int 0, .int 0, .int 0, .int 0] [(9, a9, 0, 300), (4, a4, 1, 90), (2, a2, 1, 90)] G G4 := I4
  refine cj_pc (pc' := 34) rfl ?_
  refine cj_aload_n dX7_init_34 rfl ?_
  refine cj_sipush (v := nI 300) dX7_init_35 (by decide) ?_
  refine cj_pc (pc' := 38) rfl ?_
  refine in_arr (t := 0) (z := 300) (kf := 10) (a0 := (300, .inl (fun _ => 0))) (k := 0 + 1 + 1 + 1 + 1 + 1 + 1 + 1 + 1 + 1 + 1 + 1 + 1 + 1 + 1 + 1 + 1 + 1 + 1 + 1 + 1 + 1 + 1 + 1 + 1 + 1) (n := 0 + 40 + 400 + 400 + 600 + 600 + 600 + 372 + 372 + 100 + 100 + 60 + 60 + 8 + 8 + 8 + 8 + 8 + 8 + 8 + 8 + 100 + 300 + 300 + 300 + 300) I4 rfl (ty := .int) rfl (by intro C h; cases h) rfl ac_int (fun cA => rfl) (by decide) (by decide) dX7_init_38 dX7_init_40 flX7_24 (fun a => ⟨rfl, rfl⟩) (by decide) (fun a10 G5 I5 => ?_)
  have I5 : IN q [.int 0, .int 0, .ref a2, .int 0, .ref a4, .int 0, .int 0, .int (-1), .int 0, .ref a9, .ref a10, .null, .null, .null, .null, .int 0, .null, .int 0, .null, .null, .null, .null, .null, .null, .null, .null, .int 0, .null, .null, .int 0, .null, .int 0, .null, .int 0, .int 0, .int 0, .null, .int 0, .null, .int 0, .null, .null, .null, .int 0, .null, .int 0, .int 0, .int 0, .null, .int 0, .int 0, .int 0, .null, .int 0, .int 0, .int 0, .int 0] [(10, a10, 0, 300), (9, a9, 0, 300), (4, a4, 1, 90), (2, a2, 1, 90)] G G5 := I5
  refine cj_pc (pc' := 43) rfl ?_
  refine cj_aload_n dX7_init_43 rfl ?_
  refine cj_sipush (v := nI 300) dX7_init_44 (by decide) ?_
  refine cj_pc (pc' := 47) rfl ?_
  refine in_arr (t := 0) (z := 300) (kf := 11) (a0 := (300, .inl (fun _ => 0))) (k := 0 + 1 + 1 + 1 + 1 + 1 + 1 + 1 + 1 + 1 + 1 + 1 + 1 + 1 + 1 + 1 + 1 + 1 + 1 + 1 + 1 + 1 + 1 + 1 + 1) (n := 0 + 40 + 400 + 400 + 600 + 600 + 600 + 372 + 372 + 100 + 100 + 60 + 60 + 8 + 8 + 8 + 8 + 8 + 8 + 8 + 8 + 100 + 300 + 300 + 300) I5 rfl (ty := .int) rfl (by intro C h; cases h) rfl ac_int (fun cA => rfl) (by decide) (by decide) dX7_init_47 dX7_init_49 flX7_27 (fun a => ⟨rfl, rfl⟩) (by decide) (fun a11 G6 I6 => ?_)
  have I6 : IN q [.int 0, .int 0, .ref a2, .int 0, .ref a4, .int 0, .int 0, .int (-1), .int 0, .ref a9, .ref a10, .ref a11, .null, .null, .null, .int 0, .null, .int 0, .null, .null, .null, .null, .null, .null, .null, .null, .int 0, .null, .null, .int 0, .null, .int 0, .null, .int 0, .int 0, .int 0, .null, .int 0, .null, .int 0, .null, .null, .null, .int 0, .null, .int 0, .int 0, .int 0, .null, .int 0, .int 0, .int 0, .null, .int 0, .int 0, .int 0, .int 0] [(11, a11, 0, 300), (10, a10, 0, 300), (9, a9, 0, 300), (4, a4, 1, 90), (2, a2, 1, 90)] G G6 := I6
  refine cj_pc (pc' := 52) rfl ?_
  refine cj_aload_n dX7_init_52 rfl ?_
  refine cj_sipush (v := nI 300) dX7_init_53 (by decide) ?_
  refine cj_pc (pc' := 56) rfl ?_
  refine in_arr (t := 0) (z := 300) (kf := 12) (a0 := (300, .inl (fun _ => 0))) (k := 0 + 1 + 1 + 1 + 1 + 1 + 1 + 1 + 1 + 1 + 1 + 1 + 1 + 1 + 1 + 1 + 1 + 1 + 1 + 1 + 1 + 1 + 1 + 1) (n := 0 + 40 + 400 + 400 + 600 + 600 + 600 + 372 + 372 + 100 + 100 + 60 + 60 + 8 + 8 + 8 + 8 + 8 + 8 + 8 + 8 + 100 + 300 + 300) I6 rfl (ty := .int) rfl (by intro C h; cases h) rfl ac_int (fun cA => rfl) (by decide) (by decide) dX7_init_56 dX7_init_58 flX7_30 (fun a => ⟨rfl, rfl⟩) (by decide) (fun a12 G7 I7 => ?_)
  have I7 : IN q [.int 0, .int 0, .ref a2, .int 0, .ref a4, .int 0, .int 0, .int (-1), .int 0, .ref a9, .ref a10, .ref a11, .ref a12, .null, .null, .int 0, .null, .int 0, .null, .null, .null, .null, .null, .null, .null, .null, .int 0, .null, .null, .int 0, .null, .int 0, .null, .int 0, .int 0, .int 0, .null, .int 0, .null, .int 0, .null, .null, .null, .int 0, .null, .int 0, .int 0, .int 0, .null, .int 0, .int 0, .int 0, .null, .int 0, .int 0, .int 0, .int 0] [(12, a12, 0, 300), (11, a11, 0, 300), (10, a10, 0, 300), (9, a9, 0, 300), (4, a4, 1, 90), (2, a2, 1, 90)] G G7 := I7
  refine cj_pc (pc' := 61) rfl ?_
  refine cj_aload_n dX7_init_61 rfl ?_
  refine cj_sipush (v := nI 300) dX7_init_62 (by decide) ?_
  refine cj_pc (pc' := 65) rfl ?_
  refine in_arr (t := 0) (z := 300) (kf := 13) (a0 := (300, .inl (fun _ => 0))) (k := 0 + 1 + 1 + 1 + 1 + 1 + 1 + 1 + 1 + 1 + 1 + 1 + 1 + 1 + 1 + 1 + 1 + 1 + 1 + 1 + 1 + 1 + 1) (n := 0 + 40 + 400 + 400 + 600 + 600 + 600 + 372 + 372 + 100 + 100 + 60 + 60 + 8 + 8 + 8 + 8 + 8 + 8 + 8 + 8 + 100 + 300) I7 rfl (ty := .int) rfl (by intro C h; cases h) rfl ac_int (fun cA => rfl) (by decide) (by decide) dX7_init_65 dX7_init_67 flX7_33 (fun a => ⟨rfl, rfl⟩) (by decide) (fun a13 G8 I8 => ?_)
  have I8 : IN q [.int 0, .int 0, .ref a2, .int 0, .ref a4, .int 0, .int 0, .int (-1), .int 0, .ref a9, .ref a10, .ref a11, .ref a12, .ref a13, .null, .int 0, .null, .int 0, .null, .null, .null, .null, .null, .null, .null, .null, .int 0, .null, .null, .int 0, .null, .int 0, .null, .int 0, .int 0, .int 0, .null, .int 0, .null, .int 0, .null, .null, .null, .int 0, .null, .int 0, .int 0, .int 0, .null, .int 0, .int 0, .int 0, .null, .int 0, .int 0, .int 0, .int 0] [(13, a13, 0, 300), (12, a12, 0, 300), (11, a11, 0, 300), (10, a10, 0, 300), (9, a9, 0, 300), (4, a4, 1, 90), (2, a2, 1, 90)] G G8 := I8
  refine cj_pc (pc' := 70) rfl ?_
  refine cj_aload_n dX7_init_70 rfl ?_
  refine cj_sipush (v := nI 300) dX7_init_71 (by decide) ?_
  refine cj_pc (pc' := 74) rfl ?_
  refine in_arr (t := 2) (z := 300) (kf := 14) (a0 := (300, .inl (fun _ => 0))) (k := 0 + 1 + 1 + 1 + 1 + 1 + 1 + 1 + 1 + 1 + 1 + 1 + 1 + 1 + 1 + 1 + 1 + 1 + 1 + 1 + 1 + 1) (n := 0 + 40 + 400 + 400 + 600 + 600 + 600 + 372 + 372 + 100 + 100 + 60 + 60 + 8 + 8 + 8 + 8 + 8 + 8 + 8 + 8 + 100) I8 rfl (ty := .boolean) rfl (by intro C h; cases h) rfl ac_boolean (fun cA => rfl) (by decide) (by decide) dX7_init_74 dX7_init_76 flX7_36 (fun a => ⟨rfl, rfl⟩) (by decide) (fun a14 G9 I9 => ?_)
  have I9 : IN q [.int 0, .int 0, .ref a2, .int 0, .ref a4, .int 0, .int 0, .int (-1), .int 0, .ref a9, .ref a10, .ref a11, .ref a12, .ref a13, .ref a14, .int 0, .null, .int 0, .null, .null, .null, .null, .null, .null, .null, .null, .int 0, .null, .null, .int 0, .null, .int 0, .null, .int 0, .int 0, .int 0, .null, .int 0, .null, .int 0, .null, .null, .null, .int 0, .null, .int 0, .int 0, .int 0, .null, .int 0, .int 0, .int 0, .null, .int 0, .int 0, .int 0, .int 0] [(14, a14, 2, 300), (13, a13, 0, 300), (12, a12, 0, 300), (11, a11, 0, 300), (10, a10, 0, 300), (9, a9, 0, 300), (4, a4, 1, 90), (2, a2, 1, 90)] G G9 := I9
  refine cj_pc (pc' := 79) rfl ?_
  refine cj_aload_n dX7_init_79 rfl ?_
  refine cj_bipush (v := nI 100) dX7_init_80 (by decide) ?_
  refine cj_pc (pc' := 82) rfl ?_
  refine in_arr (t := 1) (z := 100) (kf := 16) (a0 := (100, .inl (fun _ => 0))) (k := 0 + 1 + 1 + 1 + 1 + 1 + 1 + 1 + 1 + 1 + 1 + 1 + 1 + 1 + 1 + 1 + 1 + 1 + 1 + 1 + 1) (n := 0 + 40 + 400 + 400 + 600 + 600 + 600 + 372 + 372 + 100 + 100 + 60 + 60 + 8 + 8 + 8 + 8 + 8 + 8 + 8 + 8) I9 rfl (ty := .char) rfl (by intro C h; cases h) rfl ac_char (fun cA => rfl) (by decide) (by decide) dX7_init_82 dX7_init_84 flX7_40 (fun a => ⟨rfl, rfl⟩) (by decide) (fun a16 G10 I10 => ?_)
  have I10 : IN q [.int 0, .int 0, .ref a2, .int 0, .ref a4, .int 0, .int 0, .int (-1), .int 0, .ref a9, .ref a10, .ref a11, .ref a12, .ref a13, .ref a14, .int 0, .ref a16, .int 0, .null, .null, .null, .null, .null, .null, .null, .null, .int 0, .null, .null, .int 0, .null, .int 0, .null, .int 0, .int 0, .int 0, .null, .int 0, .null, .int 0, .null, .null, .null, .int 0, .null, .int 0, .int 0, .int 0, .null, .int 0, .int 0, .int 0, .null, .int 0, .int 0, .int 0, .int 0] [(16, a16, 1, 100), (14, a14, 2, 300), (13, a13, 0, 300), (12, a12, 0, 300), (11, a11, 0, 300), (10, a10, 0, 300), (9, a9, 0, 300), (4, a4, 1, 90), (2, a2, 1, 90)] G G10 := I10
  refine cj_pc (pc' := 87) rfl ?_
  refine cj_aload_n dX7_init_87 rfl ?_
  refine cj_bipush (v := nI 8) dX7_init_88 (by decide) ?_
  refine cj_pc (pc' := 90) rfl ?_
  refine in_arr (t := 0) (z := 8) (kf := 18) (a0 := (8, .inl (fun _ => 0))) (k := 0 + 1 + 1 + 1 + 1 + 1 + 1 + 1 + 1 + 1 + 1 + 1 + 1 + 1 + 1 + 1 + 1 + 1 + 1 + 1) (n := 0 + 40 + 400 + 400 + 600 + 600 + 600 + 372 + 372 + 100 + 100 + 60 + 60 + 8 + 8 + 8 + 8 + 8 + 8 + 8) I10 rfl (ty := .int) rfl (by intro C h; cases h) rfl ac_int (fun cA => rfl) (by decide) (by decide) dX7_init_90 dX7_init_92 flX7_43 (fun a => ⟨rfl, rfl⟩) (by decide) (fun a18 G11 I11 => ?_)
  have I11 : IN q [.int 0, .int 0, .ref a2, .int 0, .ref a4, .int 0, .int 0, .int (-1), .int 0, .ref a9, .ref a10, .ref a11, .ref a12, .ref a13, .ref a14, .int 0, .ref a16, .int 0, .ref a18, .null, .null, .null, .null, .null, .null, .null, .int 0, .null, .null, .int 0, .null, .int 0, .null, .int 0, .int 0, .int 0, .null, .int 0, .null, .int 0, .null, .null, .null, .int 0, .null, .int 0, .int 0, .int 0, .null, .int 0, .int 0, .int 0, .null, .int 0, .int 0, .int 0, .int 0] [(18, a18, 0, 8), (16, a16, 1, 100), (14, a14, 2, 300), (13, a13, 0, 300), (12, a12, 0, 300), (11, a11, 0, 300), (10, a10, 0, 300), (9, a9, 0, 300), (4, a4, 1, 90), (2, a2, 1, 90)] G G11 := I11
  refine cj_pc (pc' := 95) rfl ?_
  refine cj_aload_n dX7_init_95 rfl ?_
  refine cj_bipush (v := nI 8) dX7_init_96 (by decide) ?_
  refine cj_pc (pc' := 98) rfl ?_
  refine in_arr (t := 0) (z := 8) (kf := 19) (a0 := (8, .inl (fun _ => 0))) (k := 0 + 1 + 1 + 1 + 1 + 1 + 1 + 1 + 1 + 1 + 1 + 1 + 1 + 1 + 1 + 1 + 1 + 1 + 1) (n := 0 + 40 + 400 + 400 + 600 + 600 + 600 + 372 + 372 + 100 + 100 + 60 + 60 + 8 + 8 + 8 + 8 + 8 + 8) I11 rfl (ty := .int) rfl (by intro C h; cases h) rfl ac_int (fun cA => rfl) (by decide) (by decide) dX7_init_98 dX7_init_100 flX7_46 (fun a => ⟨rfl, rfl⟩) (by decide) (fun a19 G12 I12 => ?_)
  have I12 : IN q [.int 0, .int 0, .ref a2, .int 0, .ref a4, .int 0, .int 0, .int (-1), .int 0, .ref a9, .ref a10, .ref a11, .ref a12, .ref a13, .ref a14, .int 0, .ref a16, .int 0, .ref a18, .ref a19, .null, .null, .null, .null, .null, .null, .int 0, .null, .null, .int 0, .null, .int 0, .null, .int 0, .int 0, .int 0, .null, .int 0, .null, .int 0, .null, .null, .null, .int 0, .null, .int 0, .int 0, .int 0, .null, .int 0, .int 0, .int 0, .null, .int 0, .int 0, .int 0, .int 0] [(19, a19, 0, 8), (18, a18, 0, 8), (16, a16, 1, 100), (14, a14, 2, 300), (13, a13, 0, 300), (12, a12, 0, 300), (11, a11, 0, 300), (10, a10, 0, 300), (9, a9, 0, 300), (4, a4, 1, 90), (2, a2, 1, 90)] G G12 := I12
  refine cj_pc (pc' := 103) rfl ?_
  refine cj_aload_n dX7_init_103 rfl ?_
  refine cj_bipush (v := nI 8) dX7_init_104 (by decide) ?_
  refine cj_pc (pc' := 106) rfl ?_
  refine in_arr (t := 0) (z := 8) (kf := 20) (a0 := (8, .inl (fun _ => 0))) (k := 0 + 1 + 1 + 1 + 1 + 1 + 1 + 1 + 1 + 1 + 1 + 1 + 1 + 1 + 1 + 1 + 1 + 1) (n := 0 + 40 + 400 + 400 + 600 + 600 + 600 + 372 + 372 + 100 + 100 + 60 + 60 + 8 + 8 + 8 + 8 + 8) I12 rfl (ty := .int) rfl (by intro C h; cases h) rfl ac_int (fun cA => rfl) (by decide) (by decide) dX7_init_106 dX7_init_108 flX7_49 (fun a => ⟨rfl, rfl⟩) (by decide) (fun a20 G13 I13 => ?_)
  have I13 : IN q [.int 0, .int 0, .ref a2, .int 0, .ref a4, .int 0, .int 0, .int (-1), .int 0, .ref a9, .ref a10, .ref a11, .ref a12, .ref a13, .ref a14, .int 0, .ref a16, .int 0, .ref a18, .ref a19, .ref a20, .null, .null, .null, .null, .null, .int 0, .null, .null, .int 0, .null, .int 0, .null, .int 0, .int 0, .int 0, .null, .int 0, .null, .int 0, .null, .null, .null, .int 0, .null, .int 0, .int 0, .int 0, .null, .int 0, .int 0, .int 0, .null, .int 0, .int 0, .int 0, .int 0] [(20, a20, 0, 8), (19, a19, 0, 8), (18, a18, 0, 8), (16, a16, 1, 100), (14, a14, 2, 300), (13, a13, 0, 300), (12, a12, 0, 300), (11, a11, 0, 300), (10, a10, 0, 300), (9, a9, 0, 300), (4, a4, 1, 90), (2, a2, 1, 90)] G G13 := I13
  refine cj_pc (pc' := 111) rfl ?_
  refine cj_aload_n dX7_init_111 rfl ?_
  refine cj_bipush (v := nI 8) dX7_init_112 (by decide) ?_
  refine cj_pc (pc' := 114) rfl ?_
  refine in_arr (t := 0) (z := 8) (kf := 21) (a0 := (8, .inl (fun _ => 0))) (k := 0 + 1 + 1 + 1 + 1 + 1 + 1 + 1 + 1 + 1 + 1 + 1 + 1 + 1 + 1 + 1 + 1) (n := 0 + 40 + 400 + 400 + 600 + 600 + 600 + 372 + 372 + 100 + 100 + 60 + 60 + 8 + 8 + 8 + 8) I13 rfl (ty := .int) rfl (by intro C h; cases h) rfl ac_int (fun cA => rfl) (by decide) (by decide) dX7_init_114 dX7_init_116 flX7_52 (fun a => ⟨rfl, rfl⟩) (by decide) (fun a21 G14 I14 => ?_)
  have I14 : IN q [.int 0, .int 0, .ref a2, .int 0, .ref a4, .int 0, .int 0, .int (-1), .int 0, .ref a9, .ref a10, .ref a11, .ref a12, .ref a13, .ref a14, .int 0, .ref a16, .int 0, .ref a18, .ref a19, .ref a20, .ref a21, .null, .null, .null, .null, .int 0, .null, .null, .int 0, .null, .int 0, .null, .int 0, .int 0, .int 0, .null, .int 0, .null, .int 0, .null, .null, .null, .int 0, .null, .int 0, .int 0, .int 0, .null, .int 0, .int 0, .int 0, .null, .int 0, .int 0, .int 0, .int 0] [(21, a21, 0, 8), (20, a20, 0, 8), (19, a19, 0, 8), (18, a18, 0, 8), (16, a16, 1, 100), (14, a14, 2, 300), (13, a13, 0, 300), (12, a12, 0, 300), (11, a11, 0, 300), (10, a10, 0, 300), (9, a9, 0, 300), (4, a4, 1, 90), (2, a2, 1, 90)] G G14 := I14
  refine cj_pc (pc' := 119) rfl ?_
  refine cj_aload_n dX7_init_119 rfl ?_
  refine cj_bipush (v := nI 8) dX7_init_120 (by decide) ?_
  refine cj_pc (pc' := 122) rfl ?_
  refine in_arr (t := 0) (z := 8) (kf := 22) (a0 := (8, .inl (fun _ => 0))) (k := 0 + 1 + 1 + 1 + 1 + 1 + 1 + 1 + 1 + 1 + 1 + 1 + 1 + 1 + 1 + 1) (n := 0 + 40 + 400 + 400 + 600 + 600 + 600 + 372 + 372 + 100 + 100 + 60 + 60 + 8 + 8 + 8) I14 rfl (ty := .int) rfl (by intro C h; cases h) rfl ac_int (fun cA => rfl) (by decide) (by decide) dX7_init_122 dX7_init_124 flX7_55 (fun a => ⟨rfl, rfl⟩) (by decide) (fun a22 G15 I15 => ?_)
  have I15 : IN q [.int 0, .int 0, .ref a2, .int 0, .ref a4, .int 0, .int 0, .int (-1), .int 0, .ref a9, .ref a10, .ref a11, .ref a12, .ref a13, .ref a14, .int 0, .ref a16, .int 0, .ref a18, .ref a19, .ref a20, .ref a21, .ref a22, .null, .null, .null, .int 0, .null, .null, .int 0, .null, .int 0, .null, .int 0, .int 0, .int 0, .null, .int 0, .null, .int 0, .null, .null, .null, .int 0, .null, .int 0, .int 0, .int 0, .null, .int 0, .int 0, .int 0, .null, .int 0, .int 0, .int 0, .int 0] [(22, a22, 0, 8), (21, a21, 0, 8), (20, a20, 0, 8), (19, a19, 0, 8), (18, a18, 0, 8), (16, a16, 1, 100), (14, a14, 2, 300), (13, a13, 0, 300), (12, a12, 0, 300), (11, a11, 0, 300), (10, a10, 0, 300), (9, a9, 0, 300), (4, a4, 1, 90), (2, a2, 1, 90)] G G15 := I15
  refine cj_pc (pc' := 127) rfl ?_
  refine cj_aload_n dX7_init_127 rfl ?_
  refine cj_bipush (v := nI 8) dX7_init_128 (by decide) ?_
  refine cj_pc (pc' := 130) rfl ?_
  refine in_arr (t := 1) (z := 8) (kf := 23) (a0 := (8, .inl (fun _ => 0))) (k := 0 + 1 + 1 + 1 + 1 + 1 + 1 + 1 + 1 + 1 + 1 + 1 + 1 + 1 + 1) (n := 0 + 40 + 400 + 400 + 600 + 600 + 600 + 372 + 372 + 100 + 100 + 60 + 60 + 8 + 8) I15 rfl (ty := .char) rfl (by intro C h; cases h) rfl ac_char (fun cA => rfl) (by decide) (by decide) dX7_init_130 dX7_init_132 flX7_58 (fun a => ⟨rfl, rfl⟩) (by decide) (fun a23 G16 I16 => ?_)
  have I16 : IN q [.int 0, .int 0, .ref a2, .int 0, .ref a4, .int 0, .int 0, .int (-1), .int 0, .ref a9, .ref a10, .ref a11, .ref a12, .ref a13, .ref a14, .int 0, .ref a16, .int 0, .ref a18, .ref a19, .ref a20, .ref a21, .ref a22, .ref a23, .null, .null, .int 0, .null, .null, .int 0, .null, .int 0, .null, .int 0, .int 0, .int 0, .null, .int 0, .null, .int 0, .null, .null, .null, .int 0, .null, .int 0, .int 0, .int 0, .null, .int 0, .int 0, .int 0, .null, .int 0, .int 0, .int 0, .int 0] [(23, a23, 1, 8), (22, a22, 0, 8), (21, a21, 0, 8), (20, a20, 0, 8), (19, a19, 0, 8), (18, a18, 0, 8), (16, a16, 1, 100), (14, a14, 2, 300), (13, a13, 0, 300), (12, a12, 0, 300), (11, a11, 0, 300), (10, a10, 0, 300), (9, a9, 0, 300), (4, a4, 1, 90), (2, a2, 1, 90)] G G16 := I16
  refine cj_pc (pc' := 135) rfl ?_
  refine cj_aload_n dX7_init_135 rfl ?_
  refine cj_bipush (v := nI 8) dX7_init_136 (by decide) ?_
  refine cj_pc (pc' := 138) rfl ?_
  refine in_arr (t := 2) (z := 8) (kf := 24) (a0 := (8, .inl (fun _ => 0))) (k := 0 + 1 + 1 + 1 + 1 + 1 + 1 + 1 + 1 + 1 + 1 + 1 + 1 + 1) (n := 0 + 40 + 400 + 400 + 600 + 600 + 600 + 372 + 372 + 100 + 100 + 60 + 60 + 8) I16 rfl (ty := .boolean) rfl (by intro C h; cases h) rfl ac_boolean (fun cA => rfl) (by decide) (by decide) dX7_init_138 dX7_init_140 flX7_61 (fun a => ⟨rfl, rfl⟩) (by decide) (fun a24 G17 I17 => ?_)
  have I17 : IN q [.int 0, .int 0, .ref a2, .int 0, .ref a4, .int 0, .int 0, .int (-1), .int 0, .ref a9, .ref a10, .ref a11, .ref a12, .ref a13, .ref a14, .int 0, .ref a16, .int 0, .ref a18, .ref a19, .ref a20, .ref a21, .ref a22, .ref a23, .ref a24, .null, .int 0, .null, .null, .int 0, .null, .int 0, .null, .int 0, .int 0, .int 0, .null, .int 0, .null, .int 0, .null, .null, .null, .int 0, .null, .int 0, .int 0, .int 0, .null, .int 0, .int 0, .int 0, .null, .int 0, .int 0, .int 0, .int 0] [(24, a24, 2, 8), (23, a23, 1, 8), (22, a22, 0, 8), (21, a21, 0, 8), (20, a20, 0, 8), (19, a19, 0, 8), (18, a18, 0, 8), (16, a16, 1, 100), (14, a14, 2, 300), (13, a13, 0, 300), (12, a12, 0, 300), (11, a11, 0, 300), (10, a10, 0, 300), (9, a9, 0, 300), (4, a4, 1, 90), (2, a2, 1, 90)] G G17 := I17
  refine cj_pc (pc' := 143) rfl ?_
  refine cj_aload_n dX7_init_143 rfl ?_
  refine cj_bipush (v := nI 8) dX7_init_144 (by decide) ?_
  refine cj_pc (pc' := 146) rfl ?_
  refine in_arr (t := 0) (z := 8) (kf := 25) (a0 := (8, .inl (fun _ => 0))) (k := 0 + 1 + 1 + 1 + 1 + 1 + 1 + 1 + 1 + 1 + 1 + 1 + 1) (n := 0 + 40 + 400 + 400 + 600 + 600 + 600 + 372 + 372 + 100 + 100 + 60 + 60) I17 rfl (ty := .int) rfl (by intro C h; cases h) rfl ac_int (fun cA => rfl) (by decide) (by decide) dX7_init_146 dX7_init_148 flX7_64 (fun a => ⟨rfl, rfl⟩) (by decide) (fun a25 G18 I18 => ?_)
  have I18 : IN q [.int 0, .int 0, .ref a2, .int 0, .ref a4, .int 0, .int 0, .int (-1), .int 0, .ref a9, .ref a10, .ref a11, .ref a12, .ref a13, .ref a14, .int 0, .ref a16, .int 0, .ref a18, .ref a19, .ref a20, .ref a21, .ref a22, .ref a23, .ref a24, .ref a25, .int 0, .null, .null, .int 0, .null, .int 0, .null, .int 0, .int 0, .int 0, .null, .int 0, .null, .int 0, .null, .null, .null, .int 0, .null, .int 0, .int 0, .int 0, .null, .int 0, .int 0, .int 0, .null, .int 0, .int 0, .int 0, .int 0] [(25, a25, 0, 8), (24, a24, 2, 8), (23, a23, 1, 8), (22, a22, 0, 8), (21, a21, 0, 8), (20, a20, 0, 8), (19, a19, 0, 8), (18, a18, 0, 8), (16, a16, 1, 100), (14, a14, 2, 300), (13, a13, 0, 300), (12, a12, 0, 300), (11, a11, 0, 300), (10, a10, 0, 300), (9, a9, 0, 300), (4, a4, 1, 90), (2, a2, 1, 90)] G G18 := I18
  refine cj_pc (pc' := 151) rfl ?_
  refine cj_aload_n dX7_init_151 rfl ?_
  refine cj_bipush (v := nI 60) dX7_init_152 (by decide) ?_
  refine cj_pc (pc' := 154) rfl ?_
  refine in_arr (t := 0) (z := 60) (kf := 27) (a0 := (60, .inl (fun _ => 0))) (k := 0 + 1 + 1 + 1 + 1 + 1 + 1 + 1 + 1 + 1 + 1 + 1) (n := 0 + 40 + 400 + 400 + 600 + 600 + 600 + 372 + 372 + 100 + 100 + 60) I18 rfl (ty := .int) rfl (by intro C h; cases h) rfl ac_int (fun cA => rfl) (by decide) (by decide) dX7_init_154 dX7_init_156 flX7_67 (fun a => ⟨rfl, rfl⟩) (by decide) (fun a27 G19 I19 => ?_)
  have I19 : IN q [.int 0, .int 0, .ref a2, .int 0, .ref a4, .int 0, .int 0, .int (-1), .int 0, .ref a9, .ref a10, .ref a11, .ref a12, .ref a13, .ref a14, .int 0, .ref a16, .int 0, .ref a18, .ref a19, .ref a20, .ref a21, .ref a22, .ref a23, .ref a24, .ref a25, .int 0, .ref a27, .null, .int 0, .null, .int 0, .null, .int 0, .int 0, .int 0, .null, .int 0, .null, .int 0, .null, .null, .null, .int 0, .null, .int 0, .int 0, .int 0, .null, .int 0, .int 0, .int 0, .null, .int 0, .int 0, .int 0, .int 0] [(27, a27, 0, 60), (25, a25, 0, 8), (24, a24, 2, 8), (23, a23, 1, 8), (22, a22, 0, 8), (21, a21, 0, 8), (20, a20, 0, 8), (19, a19, 0, 8), (18, a18, 0, 8), (16, a16, 1, 100), (14, a14, 2, 300), (13, a13, 0, 300), (12, a12, 0, 300), (11, a11, 0, 300), (10, a10, 0, 300), (9, a9, 0, 300), (4, a4, 1, 90), (2, a2, 1, 90)] G G19 := I19
  refine cj_pc (pc' := 159) rfl ?_
  refine cj_aload_n dX7_init_159 rfl ?_
  refine cj_bipush (v := nI 60) dX7_init_160 (by decide) ?_
  refine cj_pc (pc' := 162) rfl ?_
  refine in_arr (t := 0) (z := 60) (kf := 28) (a0 := (60, .inl (fun _ => 0))) (k := 0 + 1 + 1 + 1 + 1 + 1 + 1 + 1 + 1 + 1 + 1) (n := 0 + 40 + 400 + 400 + 600 + 600 + 600 + 372 + 372 + 100 + 100) I19 rfl (ty := .int) rfl (by intro C h; cases h) rfl ac_int (fun cA => rfl) (by decide) (by decide) dX7_init_162 dX7_init_164 flX7_70 (fun a => ⟨rfl, rfl⟩) (by decide) (fun a28 G20 I20 => ?_)
  have I20 : IN q [.int 0, .int 0, .ref a2, .int 0, .ref a4, .int 0, .int 0, .int (-1), .int 0, .ref a9, .ref a10, .ref a11, .ref a12, .ref a13, .ref a14, .int 0, .ref a16, .int 0, .ref a18, .ref a19, .ref a20, .ref a21, .ref a22, .ref a23, .ref a24, .ref a25, .int 0, .ref a27, .ref a28, .int 0, .null, .int 0, .null, .int 0, .int 0, .int 0, .null, .int 0, .null, .int 0, .null, .null, .null, .int 0, .null, .int 0, .int 0, .int 0, .null, .int 0, .int 0, .int 0, .null, .int 0, .int 0, .int 0, .int 0] [(28, a28, 0, 60), (27, a27, 0, 60), (25, a25, 0, 8), (24, a24, 2, 8), (23, a23, 1, 8), (22, a22, 0, 8), (21, a21, 0, 8), (20, a20, 0, 8), (19, a19, 0, 8), (18, a18, 0, 8), (16, a16, 1, 100), (14, a14, 2, 300), (13, a13, 0, 300), (12, a12, 0, 300), (11, a11, 0, 300), (10, a10, 0, 300), (9, a9, 0, 300), (4, a4, 1, 90), (2, a2, 1, 90)] G G20 := I20
  refine cj_pc (pc' := 167) rfl ?_
  refine cj_aload_n dX7_init_167 rfl ?_
  refine cj_bipush (v := nI 100) dX7_init_168 (by decide) ?_
  refine cj_pc (pc' := 170) rfl ?_
  refine in_arr (t := 0) (z := 100) (kf := 30) (a0 := (100, .inl (fun _ => 0))) (k := 0 + 1 + 1 + 1 + 1 + 1 + 1 + 1 + 1 + 1) (n := 0 + 40 + 400 + 400 + 600 + 600 + 600 + 372 + 372 + 100) I20 rfl (ty := .int) rfl (by intro C h; cases h) rfl ac_int (fun cA => rfl) (by decide) (by decide) dX7_init_170 dX7_init_172 flX7_73 (fun a => ⟨rfl, rfl⟩) (by decide) (fun a30 G21 I21 => ?_)
  have I21 : IN q [.int 0, .int 0, .ref a2, .int 0, .ref a4, .int 0, .int 0, .int (-1), .int 0, .ref a9, .ref a10, .ref a11, .ref a12, .ref a13, .ref a14, .int 0, .ref a16, .int 0, .ref a18, .ref a19, .ref a20, .ref a21, .ref a22, .ref a23, .ref a24, .ref a25, .int 0, .ref a27, .ref a28, .int 0, .ref a30, .int 0, .null, .int 0, .int 0, .int 0, .null, .int 0, .null, .int 0, .null, .null, .null, .int 0, .null, .int 0, .int 0, .int 0, .null, .int 0, .int 0, .int 0, .null, .int 0, .int 0, .int 0, .int 0] [(30, a30, 0, 100), (28, a28, 0, 60), (27, a27, 0, 60), (25, a25, 0, 8), (24, a24, 2, 8), (23, a23, 1, 8), (22, a22, 0, 8), (21, a21, 0, 8), (20, a20, 0, 8), (19, a19, 0, 8), (18, a18, 0, 8), (16, a16, 1, 100), (14, a14, 2, 300), (13, a13, 0, 300), (12, a12, 0, 300), (11, a11, 0, 300), (10, a10, 0, 300), (9, a9, 0, 300), (4, a4, 1, 90), (2, a2, 1, 90)] G G21 := I21
  refine cj_pc (pc' := 175) rfl ?_
  refine cj_aload_n dX7_init_175 rfl ?_
  refine cj_bipush (v := nI 100) dX7_init_176 (by decide) ?_
  refine cj_pc (pc' := 178) rfl ?_
  refine in_arr (t := 1) (z := 100) (kf := 32) (a0 := (100, .inl (fun _ => 0))) (k := 0 + 1 + 1 + 1 + 1 + 1 + 1 + 1 + 1) (n := 0 + 40 + 400 + 400 + 600 + 600 + 600 + 372 + 372) I21 rfl (ty := .char) rfl (by intro C h; cases h) rfl ac_char (fun cA => rfl) (by decide) (by decide) dX7_init_178 dX7_init_180 flX7_76 (fun a => ⟨rfl, rfl⟩) (by decide) (fun a32 G22 I22 => ?_)
  have I22 : IN q [.int 0, .int 0, .ref a2, .int 0, .ref a4, .int 0, .int 0, .int (-1), .int 0, .ref a9, .ref a10, .ref a11, .ref a12, .ref a13, .ref a14, .int 0, .ref a16, .int 0, .ref a18, .ref a19, .ref a20, .ref a21, .ref a22, .ref a23, .ref a24, .ref a25, .int 0, .ref a27, .ref a28, .int 0, .ref a30, .int 0, .ref a32, .int 0, .int 0, .int 0, .null, .int 0, .null, .int 0, .null, .null, .null, .int 0, .null, .int 0, .int 0, .int 0, .null, .int 0, .int 0, .int 0, .null, .int 0, .int 0, .int 0, .int 0] [(32, a32, 1, 100), (30, a30, 0, 100), (28, a28, 0, 60), (27, a27, 0, 60), (25, a25, 0, 8), (24, a24, 2, 8), (23, a23, 1, 8), (22, a22, 0, 8), (21, a21, 0, 8), (20, a20, 0, 8), (19, a19, 0, 8), (18, a18, 0, 8), (16, a16, 1, 100), (14, a14, 2, 300), (13, a13, 0, 300), (12, a12, 0, 300), (11, a11, 0, 300), (10, a10, 0, 300), (9, a9, 0, 300), (4, a4, 1, 90), (2, a2, 1, 90)] G G22 := I22
  refine cj_pc (pc' := 183) rfl ?_
  refine cj_aload_n dX7_init_183 rfl ?_
  refine cj_sipush (v := nI 372) dX7_init_184 (by decide) ?_
  refine cj_pc (pc' := 187) rfl ?_
  refine in_arr (t := 0) (z := 372) (kf := 36) (a0 := (372, .inl (fun _ => 0))) (k := 0 + 1 + 1 + 1 + 1 + 1 + 1 + 1) (n := 0 + 40 + 400 + 400 + 600 + 600 + 600 + 372) I22 rfl (ty := .int) rfl (by intro C h; cases h) rfl ac_int (fun cA => rfl) (by decide) (by decide) dX7_init_187 dX7_init_189 flX7_79 (fun a => ⟨rfl, rfl⟩) (by decide) (fun a36 G23 I23 => ?_)
  have I23 : IN q [.int 0, .int 0, .ref a2, .int 0, .ref a4, .int 0, .int 0, .int (-1), .int 0, .ref a9, .ref a10, .ref a11, .ref a12, .ref a13, .ref a14, .int 0, .ref a16, .int 0, .ref a18, .ref a19, .ref a20, .ref a21, .ref a22, .ref a23, .ref a24, .ref a25, .int 0, .ref a27, .ref a28, .int 0, .ref a30, .int 0, .ref a32, .int 0, .int 0, .int 0, .ref a36, .int 0, .null, .int 0, .null, .null, .null, .int 0, .null, .int 0, .int 0, .int 0, .null, .int 0, .int 0, .int 0, .null, .int 0, .int 0, .int 0, .int 0] [(36, a36, 0, 372), (32, a32, 1, 100), (30, a30, 0, 100), (28, a28, 0, 60), (27, a27, 0, 60), (25, a25, 0, 8), (24, a24, 2, 8), (23, a23, 1, 8), (22, a22, 0, 8), (21, a21, 0, 8), (20, a20, 0, 8), (19, a19, 0, 8), (18, a18, 0, 8), (16, a16, 1, 100), (14, a14, 2, 300), (13, a13, 0, 300), (12, a12, 0, 300), (11, a11, 0, 300), (10, a10, 0, 300), (9, a9, 0, 300), (4, a4, 1, 90), (2, a2, 1, 90)] G G23 := I23
  refine cj_pc (pc' := 192) rfl ?_
  refine cj_aload_n dX7_init_192 rfl ?_
  refine cj_sipush (v := nI 372) dX7_init_193 (by decide) ?_
  refine cj_pc (pc' := 196) rfl ?_
  refine in_arr (t := 0) (z := 372) (kf := 38) (a0 := (372, .inl (fun _ => 0))) (k := 0 + 1 + 1 + 1 + 1 + 1 + 1) (n := 0 + 40 + 400 + 400 + 600 + 600 + 600) I23 rfl (ty := .int) rfl (by intro C h; cases h) rfl ac_int (fun cA => rfl) (by decide) (by decide) dX7_init_196 dX7_init_198 flX7_82 (fun a => ⟨rfl, rfl⟩) (by decide) (fun a38 G24 I24 => ?_)
  have I24 : IN q [.int 0, .int 0, .ref a2, .int 0, .ref a4, .int 0, .int 0, .int (-1), .int 0, .ref a9, .ref a10, .ref a11, .ref a12, .ref a13, .ref a14, .int 0, .ref a16, .int 0, .ref a18, .ref a19, .ref a20, .ref a21, .ref a22, .ref a23, .ref a24, .ref a25, .int 0, .ref a27, .ref a28, .int 0, .ref a30, .int 0, .ref a32, .int 0, .int 0, .int 0, .ref a36, .int 0, .ref a38, .int 0, .null, .null, .null, .int 0, .null, .int 0, .int 0, .int 0, .null, .int 0, .int 0, .int 0, .null, .int 0, .int 0, .int 0, .int 0] [(38, a38, 0, 372), (36, a36, 0, 372), (32, a32, 1, 100), (30, a30, 0, 100), (28, a28, 0, 60), (27, a27, 0, 60), (25, a25, 0, 8), (24, a24, 2, 8), (23, a23, 1, 8), (22, a22, 0, 8), (21, a21, 0, 8), (20, a20, 0, 8), (19, a19, 0, 8), (18, a18, 0, 8), (16, a16, 1, 100), (14, a14, 2, 300), (13, a13, 0, 300), (12, a12, 0, 300), (11, a11, 0, 300), (10, a10, 0, 300), (9, a9, 0, 300), (4, a4, 1, 90), (2, a2, 1, 90)] G G24 := I24
  refine cj_pc (pc' := 201) rfl ?_
  refine cj_aload_n dX7_init_201 rfl ?_
  refine cj_sipush (v := nI 600) dX7_init_202 (by decide) ?_
  refine cj_pc (pc' := 205) rfl ?_
  refine in_arr (t := 0) (z := 600) (kf := 40) (a0 := (600, .inl (fun _ => 0))) (k := 0 + 1 + 1 + 1 + 1 + 1) (n := 0 + 40 + 400 + 400 + 600 + 600) I24 rfl (ty := .int) rfl (by intro C h; cases h) rfl ac_int (fun cA => rfl) (by decide) (by decide) dX7_init_205 dX7_init_207 flX7_85 (fun a => ⟨rfl, rfl⟩) (by decide) (fun a40 G25 I25 => ?_)
  have I25 : IN q [.int 0, .int 0, .ref a2, .int 0, .ref a4, .int 0, .int 0, .int (-1), .int 0, .ref a9, .ref a10, .ref a11, .ref a12, .ref a13, .ref a14, .int 0, .ref a16, .int 0, .ref a18, .ref a19, .ref a20, .ref a21, .ref a22, .ref a23, .ref a24, .ref a25, .int 0, .ref a27, .ref a28, .int 0, .ref a30, .int 0, .ref a32, .int 0, .int 0, .int 0, .ref a36, .int 0, .ref a38, .int 0, .ref a40, .null, .null, .int 0, .null, .int 0, .int 0, .int 0, .null, .int 0, .int 0, .int 0, .null, .int 0, .int 0, .int 0, .int 0] [(40, a40, 0, 600), (38, a38, 0, 372), (36, a36, 0, 372), (32, a32, 1, 100), (30, a30, 0, 100), (28, a28, 0, 60), (27, a27, 0, 60), (25, a25, 0, 8), (24, a24, 2, 8), (23, a23, 1, 8), (22, a22, 0, 8), (21, a21, 0, 8), (20, a20, 0, 8), (19, a19, 0, 8), (18, a18, 0, 8), (16, a16, 1, 100), (14, a14, 2, 300), (13, a13, 0, 300), (12, a12, 0, 300), (11, a11, 0, 300), (10, a10, 0, 300), (9, a9, 0, 300), (4, a4, 1, 90), (2, a2, 1, 90)] G G25 := I25
  refine cj_pc (pc' := 210) rfl ?_
  refine cj_aload_n dX7_init_210 rfl ?_
  refine cj_sipush (v := nI 600) dX7_init_211 (by decide) ?_
  refine cj_pc (pc' := 214) rfl ?_
  refine in_arr (t := 0) (z := 600) (kf := 41) (a0 := (600, .inl (fun _ => 0))) (k := 0 + 1 + 1 + 1 + 1) (n := 0 + 40 + 400 + 400 + 600) I25 rfl (ty := .int) rfl (by intro C h; cases h) rfl ac_int (fun cA => rfl) (by decide) (by decide) dX7_init_214 dX7_init_216 flX7_88 (fun a => ⟨rfl, rfl⟩) (by decide) (fun a41 G26 I26 => ?_)
  have I26 : IN q [.int 0, .int 0, .ref a2, .int 0, .ref a4, .int 0, .int 0, .int (-1), .int 0, .ref a9, .ref a10, .ref a11, .ref a12, .ref a13, .ref a14, .int 0, .ref a16, .int 0, .ref a18, .ref a19, .ref a20, .ref a21, .ref a22, .ref a23, .ref a24, .ref a25, .int 0, .ref a27, .ref a28, .int 0, .ref a30, .int 0, .ref a32, .int 0, .int 0, .int 0, .ref a36, .int 0, .ref a38, .int 0, .ref a40, .ref a41, .null, .int 0, .null, .int 0, .int 0, .int 0, .null, .int 0, .int 0, .int 0, .null, .int 0, .int 0, .int 0, .int 0] [(41, a41, 0, 600), (40, a40, 0, 600), (38, a38, 0, 372), (36, a36, 0, 372), (32, a32, 1, 100), (30, a30, 0, 100), (28, a28, 0, 60), (27, a27, 0, 60), (25, a25, 0, 8), (24, a24, 2, 8), (23, a23, 1, 8), (22, a22, 0, 8), (21, a21, 0, 8), (20, a20, 0, 8), (19, a19, 0, 8), (18, a18, 0, 8), (16, a16, 1, 100), (14, a14, 2, 300), (13, a13, 0, 300), (12, a12, 0, 300), (11, a11, 0, 300), (10, a10, 0, 300), (9, a9, 0, 300), (4, a4, 1, 90), (2, a2, 1, 90)] G G26 := I26
  refine cj_pc (pc' := 219) rfl ?_
  refine cj_aload_n dX7_init_219 rfl ?_
  refine cj_sipush (v := nI 600) dX7_init_220 (by decide) ?_
  refine cj_pc (pc' := 223) rfl ?_
  refine in_arr (t := 0) (z := 600) (kf := 42) (a0 := (600, .inl (fun _ => 0))) (k := 0 + 1 + 1 + 1) (n := 0 + 40 + 400 + 400) I26 rfl (ty := .int) rfl (by intro C h; cases h) rfl ac_int (fun cA => rfl) (by decide) (by decide) dX7_init_223 dX7_init_225 flX7_91 (fun a => ⟨rfl, rfl⟩) (by decide) (fun a42 G27 I27 => ?_)
  have I27 : IN q [.int 0, .int 0, .ref a2, .int 0, .ref a4, .int 0, .int 0, .int (-1), .int 0, .ref a9, .ref a10, .ref a11, .ref a12, .ref a13, .ref a14, .int 0, .ref a16, .int 0, .ref a18, .ref a19, .ref a20, .ref a21, .ref a22, .ref a23, .ref a24, .ref a25, .int 0, .ref a27, .ref a28, .int 0, .ref a30, .int 0, .ref a32, .int 0, .int 0, .int 0, .ref a36, .int 0, .ref a38, .int 0, .ref a40, .ref a41, .ref a42, .int 0, .null, .int 0, .int 0, .int 0, .null, .int 0, .int 0, .int 0, .null, .int 0, .int 0, .int 0, .int 0] [(42, a42, 0, 600), (41, a41, 0, 600), (40, a40, 0, 600), (38, a38, 0, 372), (36, a36, 0, 372), (32, a32, 1, 100), (30, a30, 0, 100), (28, a28, 0, 60), (27, a27, 0, 60), (25, a25, 0, 8), (24, a24, 2, 8), (23, a23, 1, 8), (22, a22, 0, 8), (21, a21, 0, 8), (20, a20, 0, 8), (19, a19, 0, 8), (18, a18, 0, 8), (16, a16, 1, 100), (14, a14, 2, 300), (13, a13, 0, 300), (12, a12, 0, 300), (11, a11, 0, 300), (10, a10, 0, 300), (9, a9, 0, 300), (4, a4, 1, 90), (2, a2, 1, 90)] G G27 := I27
  refine cj_pc (pc' := 228) rfl ?_
  refine cj_aload_n dX7_init_228 rfl ?_
  refine cj_sipush (v := nI 400) dX7_init_229 (by decide) ?_
  refine cj_pc (pc' := 232) rfl ?_
  refine in_arr (t := 0) (z := 400) (kf := 44) (a0 := (400, .inl (fun _ => 0))) (k := 0 + 1 + 1) (n := 0 + 40 + 400) I27 rfl (ty := .int) rfl (by intro C h; cases h) rfl ac_int (fun cA => rfl) (by decide) (by decide) dX7_init_232 dX7_init_234 flX7_94 (fun a => ⟨rfl, rfl⟩) (by decide) (fun a44 G28 I28 => ?_)
  have I28 : IN q [.int 0, .int 0, .ref a2, .int 0, .ref a4, .int 0, .int 0, .int (-1), .int 0, .ref a9, .ref a10, .ref a11, .ref a12, .ref a13, .ref a14, .int 0, .ref a16, .int 0, .ref a18, .ref a19, .ref a20, .ref a21, .ref a22, .ref a23, .ref a24, .ref a25, .int 0, .ref a27, .ref a28, .int 0, .ref a30, .int 0, .ref a32, .int 0, .int 0, .int 0, .ref a36, .int 0, .ref a38, .int 0, .ref a40, .ref a41, .ref a42, .int 0, .ref a44, .int 0, .int 0, .int 0, .null, .int 0, .int 0, .int 0, .null, .int 0, .int 0, .int 0, .int 0] [(44, a44, 0, 400), (42, a42, 0, 600), (41, a41, 0, 600), (40, a40, 0, 600), (38, a38, 0, 372), (36, a36, 0, 372), (32, a32, 1, 100), (30, a30, 0, 100), (28, a28, 0, 60), (27, a27, 0, 60), (25, a25, 0, 8), (24, a24, 2, 8), (23, a23, 1, 8), (22, a22, 0, 8), (21, a21, 0, 8), (20, a20, 0, 8), (19, a19, 0, 8), (18, a18, 0, 8), (16, a16, 1, 100), (14, a14, 2, 300), (13, a13, 0, 300), (12, a12, 0, 300), (11, a11, 0, 300), (10, a10, 0, 300), (9, a9, 0, 300), (4, a4, 1, 90), (2, a2, 1, 90)] G G28 := I28
  refine cj_pc (pc' := 237) rfl ?_
  refine cj_aload_n dX7_init_237 rfl ?_
  refine cj_sipush (v := nI 400) dX7_init_238 (by decide) ?_
  refine cj_pc (pc' := 241) rfl ?_
  refine in_arr (t := 0) (z := 400) (kf := 48) (a0 := (400, .inl (fun _ => 0))) (k := 0 + 1) (n := 0 + 40) I28 rfl (ty := .int) rfl (by intro C h; cases h) rfl ac_int (fun cA => rfl) (by decide) (by decide) dX7_init_241 dX7_init_243 flX7_97 (fun a => ⟨rfl, rfl⟩) (by decide) (fun a48 G29 I29 => ?_)
  have I29 : IN q [.int 0, .int 0, .ref a2, .int 0, .ref a4, .int 0, .int 0, .int (-1), .int 0, .ref a9, .ref a10, .ref a11, .ref a12, .ref a13, .ref a14, .int 0, .ref a16, .int 0, .ref a18, .ref a19, .ref a20, .ref a21, .ref a22, .ref a23, .ref a24, .ref a25, .int 0, .ref a27, .ref a28, .int 0, .ref a30, .int 0, .ref a32, .int 0, .int 0, .int 0, .ref a36, .int 0, .ref a38, .int 0, .ref a40, .ref a41, .ref a42, .int 0, .ref a44, .int 0, .int 0, .int 0, .ref a48, .int 0, .int 0, .int 0, .null, .int 0, .int 0, .int 0, .int 0] [(48, a48, 0, 400), (44, a44, 0, 400), (42, a42, 0, 600), (41, a41, 0, 600), (40, a40, 0, 600), (38, a38, 0, 372), (36, a36, 0, 372), (32, a32, 1, 100), (30, a30, 0, 100), (28, a28, 0, 60), (27, a27, 0, 60), (25, a25, 0, 8), (24, a24, 2, 8), (23, a23, 1, 8), (22, a22, 0, 8), (21, a21, 0, 8), (20, a20, 0, 8), (19, a19, 0, 8), (18, a18, 0, 8), (16, a16, 1, 100), (14, a14, 2, 300), (13, a13, 0, 300), (12, a12, 0, 300), (11, a11, 0, 300), (10, a10, 0, 300), (9, a9, 0, 300), (4, a4, 1, 90), (2, a2, 1, 90)] G G29 := I29
  refine cj_pc (pc' := 246) rfl ?_
  refine cj_aload_n dX7_init_246 rfl ?_
  refine cj_iconst (v := 1) dX7_init_247 (by decide) ?_
  refine cj_pc (pc' := 248) rfl ?_
  refine cj_put flX7_100 dX7_init_248 I29.1 rfl rfl (Nat.le_of_ble_eq_true rfl) ?_
  refine cj_nm (fun G30 e30 => ?_)
  have I30 : IN q [.int 0, .int 0, .ref a2, .int 0, .ref a4, .int 0, .int 0, .int (-1), .int 0, .ref a9, .ref a10, .ref a11, .ref a12, .ref a13, .ref a14, .int 0, .ref a16, .int 0, .ref a18, .ref a19, .ref a20, .ref a21, .ref a22, .ref a23, .ref a24, .ref a25, .int 0, .ref a27, .ref a28, .int 0, .ref a30, .int 0, .ref a32, .int 0, .int 0, .int 0, .ref a36, .int 0, .ref a38, .int 0, .ref a40, .ref a41, .ref a42, .int 0, .ref a44, .int 0, .int 0, .int 0, .ref a48, .int 1, .int 0, .int 0, .null, .int 0, .int 0, .int 0, .int 0] [(48, a48, 0, 400), (44, a44, 0, 400), (42, a42, 0, 600), (41, a41, 0, 600), (40, a40, 0, 600), (38, a38, 0, 372), (36, a36, 0, 372), (32, a32, 1, 100), (30, a30, 0, 100), (28, a28, 0, 60), (27, a27, 0, 60), (25, a25, 0, 8), (24, a24, 2, 8), (23, a23, 1, 8), (22, a22, 0, 8), (21, a21, 0, 8), (20, a20, 0, 8), (19, a19, 0, 8), (18, a18, 0, 8), (16, a16, 1, 100), (14, a14, 2, 300), (13, a13, 0, 300), (12, a12, 0, 300), (11, a11, 0, 300), (10, a10, 0, 300), (9, a9, 0, 300), (4, a4, 1, 90), (2, a2, 1, 90)] G G30 := by rw [e30]; exact in_up I29 rfl
  refine cj_pc (pc' := 251) rfl ?_
  refine cj_aload_n dX7_init_251 rfl ?_
  refine cj_iconst (v := 1) dX7_init_252 (by decide) ?_
  refine cj_pc (pc' := 253) rfl ?_
  refine cj_put flX7_103 dX7_init_253 I30.1 rfl rfl (Nat.le_of_ble_eq_true rfl) ?_
  refine cj_nm (fun G31 e31 => ?_)
  have I31 : IN q [.int 0, .int 0, .ref a2, .int 0, .ref a4, .int 0, .int 0, .int (-1), .int 0, .ref a9, .ref a10, .ref a11, .ref a12, .ref a13, .ref a14, .int 0, .ref a16, .int 0, .ref a18, .ref a19, .ref a20, .ref a21, .ref a22, .ref a23, .ref a24, .ref a25, .int 0, .ref a27, .ref a28, .int 0, .ref a30, .int 0, .ref a32, .int 0, .int 0, .int 0, .ref a36, .int 0, .ref a38, .int 0, .ref a40, .ref a41, .ref a42, .int 0, .ref a44, .int 0, .int 0, .int 0, .ref a48, .int 1, .int 1, .int 0, .null, .int 0, .int 0, .int 0, .int 0] [(48, a48, 0, 400), (44, a44, 0, 400), (42, a42, 0, 600), (41, a41, 0, 600), (40, a40, 0, 600), (38, a38, 0, 372), (36, a36, 0, 372), (32, a32, 1, 100), (30, a30, 0, 100), (28, a28, 0, 60), (27, a27, 0, 60), (25, a25, 0, 8), (24, a24, 2, 8), (23, a23, 1, 8), (22, a22, 0, 8), (21, a21, 0, 8), (20, a20, 0, 8), (19, a19, 0, 8), (18, a18, 0, 8), (16, a16, 1, 100), (14, a14, 2, 300), (13, a13, 0, 300), (12, a12, 0, 300), (11, a11, 0, 300), (10, a10, 0, 300), (9, a9, 0, 300), (4, a4, 1, 90), (2, a2, 1, 90)] G G31 := by rw [e31]; exact in_up I30 rfl
  refine cj_pc (pc' := 256) rfl ?_
  refine cj_aload_n dX7_init_256 rfl ?_
  refine cj_bipush (v := nI 40) dX7_init_257 (by decide) ?_
  refine cj_pc (pc' := 259) rfl ?_
  refine in_arr (t := 0) (z := 40) (kf := 52) (a0 := (40, .inl (fun _ => 0))) (k := 0) (n := 0) I31 rfl (ty := .int) rfl (by intro C h; cases h) rfl ac_int (fun cA => rfl) (by decide) (by decide) dX7_init_259 dX7_init_261 flX7_106 (fun a => ⟨rfl, rfl⟩) (by decide) (fun a52 G32 I32 => ?_)
  have I32 : IN q [.int 0, .int 0, .ref a2, .int 0, .ref a4, .int 0, .int 0, .int (-1), .int 0, .ref a9, .ref a10, .ref a11, .ref a12, .ref a13, .ref a14, .int 0, .ref a16, .int 0, .ref a18, .ref a19, .ref a20, .ref a21, .ref a22, .ref a23, .ref a24, .ref a25, .int 0, .ref a27, .ref a28, .int 0, .ref a30, .int 0, .ref a32, .int 0, .int 0, .int 0, .ref a36, .int 0, .ref a38, .int 0, .ref a40, .ref a41, .ref a42, .int 0, .ref a44, .int 0, .int 0, .int 0, .ref a48, .int 1, .int 1, .int 0, .ref a52, .int 0, .int 0, .int 0, .int 0] [(52, a52, 0, 40), (48, a48, 0, 400), (44, a44, 0, 400), (42, a42, 0, 600), (41, a41, 0, 600), (40, a40, 0, 600), (38, a38, 0, 372), (36, a36, 0, 372), (32, a32, 1, 100), (30, a30, 0, 100), (28, a28, 0, 60), (27, a27, 0, 60), (25, a25, 0, 8), (24, a24, 2, 8), (23, a23, 1, 8), (22, a22, 0, 8), (21, a21, 0, 8), (20, a20, 0, 8), (19, a19, 0, 8), (18, a18, 0, 8), (16, a16, 1, 100), (14, a14, 2, 300), (13, a13, 0, 300), (12, a12, 0, 300), (11, a11, 0, 300), (10, a10, 0, 300), (9, a9, 0, 300), (4, a4, 1, 90), (2, a2, 1, 90)] G G32 := I32
  refine cj_pc (pc' := 264) rfl ?_
  have fin : ∀ G9 : cj_G, IN q [.int 0, .int 0, .ref a2, .int 0, .ref a4, .int 0, .int 0, .int (-1), .int 0, .ref a9, .ref a10, .ref a11, .ref a12, .ref a13, .ref a14, .int 0, .ref a16, .int 0, .ref a18, .ref a19, .ref a20, .ref a21, .ref a22, .ref a23, .ref a24, .ref a25, .int 0, .ref a27, .ref a28, .int 0, .ref a30, .int 0, .ref a32, .int 0, .int 0, .int 0, .ref a36, .int 0, .ref a38, .int 0, .ref a40, .ref a41, .ref a42, .int (nI (nw w)), .ref a44, .int 0, .int 0, .int 0, .ref a48, .int 1, .int 1, .int 0, .ref a52, .int 0, .int 0, .int 0, .int 0] [(52, a52, 0, 40), (48, a48, 0, 400), (44, a44, 0, 400), (42, a42, 0, 600), (41, a41, 0, 600), (40, a40, 0, 600), (38, a38, 0, 372), (36, a36, 0, 372), (32, a32, 1, 100), (30, a30, 0, 100), (28, a28, 0, 60), (27, a27, 0, 60), (25, a25, 0, 8), (24, a24, 2, 8), (23, a23, 1, 8), (22, a22, 0, 8), (21, a21, 0, 8), (20, a20, 0, 8), (19, a19, 0, 8), (18, a18, 0, 8), (16, a16, 1, 100), (14, a14, 2, 300), (13, a13, 0, 300), (12, a12, 0, 300), (11, a11, 0, 300), (10, a10, 0, 300), (9, a9, 0, 300), (4, a4, 1, 90), (2, a2, 1, 90)] G G9 → (none : Option Value) = none ∧ ∃ ad : Nat → Nat, rm_A q ad ∧ RMD q ad (rm_S0 (nw w)) G9 ∧ (∀ j ∈ rm_js, G (ad j) = none) ∧ cj_fr [q] G G9 := fun G9 I9 => by
    obtain ⟨z1, z2, z3⟩ := in_end (S := rm_S0 (nw w)) I9 rfl rfl (fun _ => rfl)
    exact ⟨rfl, _, z1, z2, z3, I9.2.2.2.2.1⟩
  have store : ∀ v9 : Int32, v9 = nI (nw w) → cj_J mX7_init 1 29 5848 (fun v G' => v = none ∧ ∃ ad : Nat → Nat, rm_A q ad ∧ RMD q ad (rm_S0 (nw w)) G' ∧ (∀ j ∈ rm_js, G (ad j) = none) ∧ cj_fr [q] G G') cj_no 0 0 290 [(0, .ref q), (1, .int w)] [.int v9, .ref q] G32 := fun v9 e9 => by
    subst e9
    refine cj_putF flX7_109 rfl rfl dX7_init_290 I32.1 rfl rfl (Nat.le_of_ble_eq_true rfl) ?_
    refine cj_pc (pc' := 293) rfl ?_
    refine cj_vret rfl dX7_init_293 ?_
    exact fin _ (in_up I32 rfl)
  refine cj_aload_n dX7_init_264 rfl ?_
  refine cj_iload_n dX7_init_265 rfl ?_
  refine cj_pc (pc' := 266) rfl ?_
  refine cj_bipush (v := 20) dX7_init_266 (by decide) ?_
  refine cj_pc (pc' := 268) rfl ?_
  refine cj_icmp_ge (tgt := 276) dX7_init_268 (by decide) (fun h1 => ?_) (fun h1 => ?_)
  · refine cj_iload_n dX7_init_276 rfl ?_
    refine cj_sipush (v := 200) dX7_init_277 (by decide) ?_
    refine cj_pc (pc' := 280) rfl ?_
    refine cj_icmp_le (tgt := 289) dX7_init_280 (by decide) (fun h2 => ?_) (fun h2 => ?_)
    · refine cj_iload_n dX7_init_289 rfl ?_
      exact store _ (nw_nI (Int32.not_lt.mpr h1) h2).symm
    · refine cj_sipush (v := 200) dX7_init_283 (by decide) ?_
      refine cj_pc (pc' := 286) rfl ?_
      refine cj_goto (tgt := 290) dX7_init_286 (by decide) ?_
      refine store _ ?_
      unfold nw; rw [if_neg (Int32.not_lt.mpr h1), if_neg h2]; rfl
  · refine cj_bipush (v := 20) dX7_init_271 (by decide) ?_
    refine cj_pc (pc' := 273) rfl ?_
    refine cj_goto (tgt := 290) dX7_init_273 (by decide) ?_
    refine store _ ?_
    unfold nw; rw [if_pos (Int32.not_le.mp h1)]; rfl
