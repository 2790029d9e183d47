/-! Code.store: a step into the code; Row.countPlaces -/
def cd_put (pf : Nat → Int32) (p : Nat) (x y z : Int32) : Nat → Int32 := upd (upd (upd pf (3 * p) x) (3 * p + 1) y) (3 * p + 2) z
set_option maxHeartbeats 4000000 in
set_option maxRecDepth 100000 in
theorem t_store_np {G : cj_G} {pg pa s p : Nat} {ln kd av : Int32} {fo : Value} {pf : Nat → Int32} (k_pg : G pg = some (.inr (0, [.ref pa, .int ln]))) (k_pa : G pa = some (.inl (0, 360, .inl pf))) (k_s : G s = some (.inr (5, [.int kd, .int av, .null, .int (nI p), fo]))) (hp : p < 120) (hk : ¬ kd = 19) : cj_T mX0_store 0 0 0 [.ref pg, .ref s] G (fun v G' => v = none ∧ G' pa = some (.inl (0, 360, .inl (cd_put pf p kd av 0))) ∧ cj_fr [pa] G G') (cj_no) := by
  refine cj_T_of (by decide) (Nat.le_of_ble_eq_true rfl) ?_
  refine cj_lvs (lv' := [(0, .ref pg), (1, .ref s)]) rfl ?_
  refine cj_iconst (v := 3) dX0_store_0 (by decide) ?_
  refine cj_aload_n dX0_store_1 rfl ?_
  refine cj_get flX0_41 dX0_store_2 k_s rfl ?_
  refine cj_imul dX0_store_5 ?_
  refine cj_st (st' := [.int (nI (3 * p))]) (by rw [show (3 : Int32) = nI 3 from rfl, pk_mul]) ?_
  refine cj_pc (pc' := 6) rfl ?_
  refine cj_istore_n (lv' := [(2, .int (nI (3 * p))), (0, .ref pg), (1, .ref s)]) dX0_store_6 (by decide) rfl ?_
  refine cj_iload_n dX0_store_7 rfl ?_
  refine cj_if_lt (tgt := 22) dX0_store_8 (by decide) (fun h1 => absurd h1 (nI_pos (by omega))) (fun h1 => ?_)
  refine cj_iload_n dX0_store_11 rfl ?_
  refine cj_pc (pc' := 12) rfl ?_
  refine cj_iconst (v := 2) dX0_store_12 (by decide) ?_
  refine cj_iadd dX0_store_13 ?_
  refine cj_st (st' := [.int (nI ((3 * p) + 2))]) (by rw [show (2 : Int32) = nI 2 from rfl, nI_add]) ?_
  refine cj_aload_n dX0_store_14 rfl ?_
  refine cj_get flX0_11 dX0_store_15 k_pg rfl ?_
  refine cj_pc (pc' := 18) rfl ?_
  refine cj_alen (v := nI 360) dX0_store_18 k_pa rfl rfl ?_
  refine cj_icmp_lt (tgt := 23) dX0_store_19 (by decide) (fun h2 => ?_) (fun h2 => absurd h2 (Classical.not_not.mpr (nI_lt (b := 360) (by omega) (by decide))))
  refine cj_aload_n dX0_store_23 rfl ?_
  refine cj_get flX0_44 dX0_store_24 k_s rfl ?_
  refine cj_pc (pc' := 27) rfl ?_
  refine cj_ifnonnullN dX0_store_27 ?_
  refine cj_iconst (v := 0) dX0_store_30 (by decide) ?_
  refine cj_goto (tgt := 41) dX0_store_31 (by decide) ?_
  refine cj_istore_n (lv' := [(3, .int 0), (2, .int (nI (3 * p))), (0, .ref pg), (1, .ref s)]) dX0_store_41 (by decide) rfl ?_
  refine cj_pc (pc' := 42) rfl ?_
  refine cj_aload_n dX0_store_42 rfl ?_
  refine cj_get flX0_29 dX0_store_43 k_s rfl ?_
  refine cj_bipush (v := 19) dX0_store_46 (by decide) ?_
  refine cj_icmp_ne (tgt := 55) dX0_store_48 (by decide) (fun h3 => ?_) (fun h3 => absurd h3 (hk))
  refine cj_pc (pc' := 55) rfl ?_
  refine cj_iconst (v := 0) dX0_store_55 (by decide) ?_
  refine cj_istore (lv' := [(4, .int 0), (3, .int 0), (2, .int (nI (3 * p))), (0, .ref pg), (1, .ref s)]) dX0_store_56 (by decide) rfl ?_
  refine cj_aload_n dX0_store_58 rfl ?_
  refine cj_get flX0_11 dX0_store_59 k_pg rfl ?_
  refine cj_pc (pc' := 62) rfl ?_
  refine cj_iload_n dX0_store_62 rfl ?_
  refine cj_aload_n dX0_store_63 rfl ?_
  refine cj_get flX0_29 dX0_store_64 k_s rfl ?_
  have i4 : vp_in (nI (3 * p)) 360 := by
    exact vp_in_nI (by omega) (by decide)
  refine cj_iast dX0_store_67 k_pa i4 ?_
  refine cj_eqG (G' := cj_up G pa (.inl (0, 360, .inl (upd pf (3 * p) kd)))) (by rw [nI_clamp (by omega)]) ?_
  refine cj_nm (fun G5 e6 => ?_)
  have k7 : G5 pg = some (.inr (0, [.ref pa, .int ln])) := by rw [e6, cj_up_n (cj_noa k_pg k_pa)]; exact k_pg
  have k8 : G5 pa = some (.inl (0, 360, .inl (upd pf (3 * p) kd))) := by rw [e6]; exact cj_up_s
  have k9 : G5 s = some (.inr (5, [.int kd, .int av, .null, .int (nI p), fo])) := by rw [e6, cj_up_n (cj_noa k_s k_pa)]; exact k_s
  have r10 : cj_fr [pa] G G5 := by rw [e6]; exact cj_fr.up (cj_fr.rf (S := [pa]) (G := G)) (by simp)
  refine cj_pc (pc' := 68) rfl ?_
  refine cj_aload_n dX0_store_68 rfl ?_
  refine cj_get flX0_11 dX0_store_69 k7 rfl ?_
  refine cj_iload_n dX0_store_72 rfl ?_
  refine cj_iconst (v := 1) dX0_store_73 (by decide) ?_
  refine cj_pc (pc' := 74) rfl ?_
  refine cj_iadd dX0_store_74 ?_
  refine cj_st (st' := [.int (nI ((3 * p) + 1)), .ref pa]) (by rw [nI_1]) ?_
  refine cj_aload_n dX0_store_75 rfl ?_
  refine cj_get flX0_44 dX0_store_76 k9 rfl ?_
  refine cj_ifnullN (tgt := 87) dX0_store_79 (by decide) ?_
  refine cj_pc (pc' := 87) rfl ?_
  refine cj_aload_n dX0_store_87 rfl ?_
  refine cj_get flX0_47 dX0_store_88 k9 rfl ?_
  refine cj_goto (tgt := 95) dX0_store_91 (by decide) ?_
  have i11 : vp_in (nI ((3 * p) + 1)) 360 := by
    exact vp_in_nI (by omega) (by decide)
  refine cj_iast dX0_store_95 k8 i11 ?_
  refine cj_eqG (G' := cj_up G5 pa (.inl (0, 360, .inl (upd (upd pf (3 * p) kd) ((3 * p) + 1) av)))) (by rw [nI_clamp (by omega)]) ?_
  refine cj_nm (fun G12 e13 => ?_)
  have k14 : G12 pg = some (.inr (0, [.ref pa, .int ln])) := by rw [e13, cj_up_n (cj_noa k7 k8)]; exact k7
  have k15 : G12 pa = some (.inl (0, 360, .inl (upd (upd pf (3 * p) kd) ((3 * p) + 1) av))) := by rw [e13]; exact cj_up_s
  have k16 : G12 s = some (.inr (5, [.int kd, .int av, .null, .int (nI p), fo])) := by rw [e13, cj_up_n (cj_noa k9 k8)]; exact k9
  have r17 : cj_fr [pa] G G12 := by rw [e13]; exact cj_fr.up r10 (by simp)
  refine cj_pc (pc' := 96) rfl ?_
  refine cj_aload_n dX0_store_96 rfl ?_
  refine cj_get flX0_11 dX0_store_97 k14 rfl ?_
  refine cj_iload_n dX0_store_100 rfl ?_
  refine cj_iconst (v := 2) dX0_store_101 (by decide) ?_
  refine cj_pc (pc' := 102) rfl ?_
  refine cj_iadd dX0_store_102 ?_
  refine cj_st (st' := [.int (nI ((3 * p) + 2)), .ref pa]) (by rw [show (2 : Int32) = nI 2 from rfl, nI_add]) ?_
  refine cj_iload dX0_store_103 rfl ?_
  refine cj_if_eq (tgt := 112) dX0_store_105 (by decide) (fun h18 => ?_) (fun h18 => absurd h18 (by decide))
  refine cj_iconst (v := 0) dX0_store_112 (by decide) ?_
  refine cj_pc (pc' := 113) rfl ?_
  have i19 : vp_in (nI ((3 * p) + 2)) 360 := by
    exact vp_in_nI (by omega) (by decide)
  refine cj_iast dX0_store_113 k15 i19 ?_
  refine cj_eqG (G' := cj_up G12 pa (.inl (0, 360, .inl (upd (upd (upd pf (3 * p) kd) ((3 * p) + 1) av) ((3 * p) + 2) 0)))) (by rw [nI_clamp (by omega)]) ?_
  refine cj_nm (fun G20 e21 => ?_)
  have k22 : G20 pg = some (.inr (0, [.ref pa, .int ln])) := by rw [e21, cj_up_n (cj_noa k14 k15)]; exact k14
  have k23 : G20 pa = some (.inl (0, 360, .inl (upd (upd (upd pf (3 * p) kd) ((3 * p) + 1) av) ((3 * p) + 2) 0))) := by rw [e21]; exact cj_up_s
  have k24 : G20 s = some (.inr (5, [.int kd, .int av, .null, .int (nI p), fo])) := by rw [e21, cj_up_n (cj_noa k16 k15)]; exact k16
  have r25 : cj_fr [pa] G G20 := by rw [e21]; exact cj_fr.up r17 (by simp)
  refine cj_vret rfl dX0_store_114 ?_
  exact ⟨rfl, k23, r25⟩
set_option maxHeartbeats 4000000 in
set_option maxRecDepth 100000 in
theorem t_store_nc {G : cj_G} {pg pa s p : Nat} {ln av : Int32} {fo : Value} {pf : Nat → Int32} (k_pg : G pg = some (.inr (0, [.ref pa, .int ln]))) (k_pa : G pa = some (.inl (0, 360, .inl pf))) (k_s : G s = some (.inr (5, [.int 19, .int av, .null, .int (nI p), fo]))) (hp : p < 120) : cj_T mX0_store 0 0 0 [.ref pg, .ref s] G (fun v G' => v = none ∧ G' pa = some (.inl (0, 360, .inl (cd_put pf p 19 av 0))) ∧ cj_fr [pa] G G') (cj_no) := by
  refine cj_T_of (by decide) (Nat.le_of_ble_eq_true rfl) ?_
  refine cj_lvs (lv' := [(0, .ref pg), (1, .ref s)]) rfl ?_
  refine cj_iconst (v := 3) dX0_store_0 (by decide) ?_
  refine cj_aload_n dX0_store_1 rfl ?_
  refine cj_get flX0_41 dX0_store_2 k_s rfl ?_
  refine cj_imul dX0_store_5 ?_
  refine cj_st (st' := [.int (nI (3 * p))]) (by rw [show (3 : Int32) = nI 3 from rfl, pk_mul]) ?_
  refine cj_pc (pc' := 6) rfl ?_
  refine cj_istore_n (lv' := [(2, .int (nI (3 * p))), (0, .ref pg), (1, .ref s)]) dX0_store_6 (by decide) rfl ?_
  refine cj_iload_n dX0_store_7 rfl ?_
  refine cj_if_lt (tgt := 22) dX0_store_8 (by decide) (fun h1 => absurd h1 (nI_pos (by omega))) (fun h1 => ?_)
  refine cj_iload_n dX0_store_11 rfl ?_
  refine cj_pc (pc' := 12) rfl ?_
  refine cj_iconst (v := 2) dX0_store_12 (by decide) ?_
  refine cj_iadd dX0_store_13 ?_
  refine cj_st (st' := [.int (nI ((3 * p) + 2))]) (by rw [show (2 : Int32) = nI 2 from rfl, nI_add]) ?_
  refine cj_aload_n dX0_store_14 rfl ?_
  refine cj_get flX0_11 dX0_store_15 k_pg rfl ?_
  refine cj_pc (pc' := 18) rfl ?_
  refine cj_alen (v := nI 360) dX0_store_18 k_pa rfl rfl ?_
  refine cj_icmp_lt (tgt := 23) dX0_store_19 (by decide) (fun h2 => ?_) (fun h2 => absurd h2 (Classical.not_not.mpr (nI_lt (b := 360) (by omega) (by decide))))
  refine cj_aload_n dX0_store_23 rfl ?_
  refine cj_get flX0_44 dX0_store_24 k_s rfl ?_
  refine cj_pc (pc' := 27) rfl ?_
  refine cj_ifnonnullN dX0_store_27 ?_
  refine cj_iconst (v := 0) dX0_store_30 (by decide) ?_
  refine cj_goto (tgt := 41) dX0_store_31 (by decide) ?_
  refine cj_istore_n (lv' := [(3, .int 0), (2, .int (nI (3 * p))), (0, .ref pg), (1, .ref s)]) dX0_store_41 (by decide) rfl ?_
  refine cj_pc (pc' := 42) rfl ?_
  refine cj_aload_n dX0_store_42 rfl ?_
  refine cj_get flX0_29 dX0_store_43 k_s rfl ?_
  refine cj_bipush (v := 19) dX0_store_46 (by decide) ?_
  refine cj_icmp_ne (tgt := 55) dX0_store_48 (by decide) (fun h3 => absurd h3 (by decide)) (fun h3 => ?_)
  refine cj_pc (pc' := 51) rfl ?_
  refine cj_iconst (v := 1) dX0_store_51 (by decide) ?_
  refine cj_goto (tgt := 56) dX0_store_52 (by decide) ?_
  refine cj_istore (lv' := [(4, .int 1), (3, .int 0), (2, .int (nI (3 * p))), (0, .ref pg), (1, .ref s)]) dX0_store_56 (by decide) rfl ?_
  refine cj_aload_n dX0_store_58 rfl ?_
  refine cj_pc (pc' := 59) rfl ?_
  refine cj_get flX0_11 dX0_store_59 k_pg rfl ?_
  refine cj_iload_n dX0_store_62 rfl ?_
  refine cj_aload_n dX0_store_63 rfl ?_
  refine cj_get flX0_29 dX0_store_64 k_s rfl ?_
  refine cj_pc (pc' := 67) rfl ?_
  have i4 : vp_in (nI (3 * p)) 360 := by
    exact vp_in_nI (by omega) (by decide)
  refine cj_iast dX0_store_67 k_pa i4 ?_
  refine cj_eqG (G' := cj_up G pa (.inl (0, 360, .inl (upd pf (3 * p) 19)))) (by rw [nI_clamp (by omega)]) ?_
  refine cj_nm (fun G5 e6 => ?_)
  have k7 : G5 pg = some (.inr (0, [.ref pa, .int ln])) := by rw [e6, cj_up_n (cj_noa k_pg k_pa)]; exact k_pg
  have k8 : G5 pa = some (.inl (0, 360, .inl (upd pf (3 * p) 19))) := by rw [e6]; exact cj_up_s
  have k9 : G5 s = some (.inr (5, [.int 19, .int av, .null, .int (nI p), fo])) := by rw [e6, cj_up_n (cj_noa k_s k_pa)]; exact k_s
  have r10 : cj_fr [pa] G G5 := by rw [e6]; exact cj_fr.up (cj_fr.rf (S := [pa]) (G := G)) (by simp)
  refine cj_aload_n dX0_store_68 rfl ?_
  refine cj_get flX0_11 dX0_store_69 k7 rfl ?_
  refine cj_iload_n dX0_store_72 rfl ?_
  refine cj_pc (pc' := 73) rfl ?_
  refine cj_iconst (v := 1) dX0_store_73 (by decide) ?_
  refine cj_iadd dX0_store_74 ?_
  refine cj_st (st' := [.int (nI ((3 * p) + 1)), .ref pa]) (by rw [nI_1]) ?_
  refine cj_aload_n dX0_store_75 rfl ?_
  refine cj_get flX0_44 dX0_store_76 k9 rfl ?_
  refine cj_pc (pc' := 79) rfl ?_
  refine cj_ifnullN (tgt := 87) dX0_store_79 (by decide) ?_
  refine cj_aload_n dX0_store_87 rfl ?_
  refine cj_get flX0_47 dX0_store_88 k9 rfl ?_
  refine cj_goto (tgt := 95) dX0_store_91 (by decide) ?_
  refine cj_pc (pc' := 95) rfl ?_
  have i11 : vp_in (nI ((3 * p) + 1)) 360 := by
    exact vp_in_nI (by omega) (by decide)
  refine cj_iast dX0_store_95 k8 i11 ?_
  refine cj_eqG (G' := cj_up G5 pa (.inl (0, 360, .inl (upd (upd pf (3 * p) 19) ((3 * p) + 1) av)))) (by rw [nI_clamp (by omega)]) ?_
  refine cj_nm (fun G12 e13 => ?_)
  have k14 : G12 pg = some (.inr (0, [.ref pa, .int ln])) := by rw [e13, cj_up_n (cj_noa k7 k8)]; exact k7
  have k15 : G12 pa = some (.inl (0, 360, .inl (upd (upd pf (3 * p) 19) ((3 * p) + 1) av))) := by rw [e13]; exact cj_up_s
  have k16 : G12 s = some (.inr (5, [.int 19, .int av, .null, .int (nI p), fo])) := by rw [e13, cj_up_n (cj_noa k9 k8)]; exact k9
  have r17 : cj_fr [pa] G G12 := by rw [e13]; exact cj_fr.up r10 (by simp)
  refine cj_aload_n dX0_store_96 rfl ?_
  refine cj_get flX0_11 dX0_store_97 k14 rfl ?_
  refine cj_iload_n dX0_store_100 rfl ?_
  refine cj_pc (pc' := 101) rfl ?_
  refine cj_iconst (v := 2) dX0_store_101 (by decide) ?_
  refine cj_iadd dX0_store_102 ?_
  refine cj_st (st' := [.int (nI ((3 * p) + 2)), .ref pa]) (by rw [show (2 : Int32) = nI 2 from rfl, nI_add]) ?_
  refine cj_iload dX0_store_103 rfl ?_
  refine cj_if_eq (tgt := 112) dX0_store_105 (by decide) (fun h18 => absurd h18 (by decide)) (fun h18 => ?_)
  refine cj_pc (pc' := 108) rfl ?_
  refine cj_iload_n dX0_store_108 rfl ?_
  refine cj_goto (tgt := 113) dX0_store_109 (by decide) ?_
  have i19 : vp_in (nI ((3 * p) + 2)) 360 := by
    exact vp_in_nI (by omega) (by decide)
  refine cj_iast dX0_store_113 k15 i19 ?_
  refine cj_eqG (G' := cj_up G12 pa (.inl (0, 360, .inl (upd (upd (upd pf (3 * p) 19) ((3 * p) + 1) av) ((3 * p) + 2) 0)))) (by rw [nI_clamp (by omega)]) ?_
  refine cj_nm (fun G20 e21 => ?_)
  have k22 : G20 pg = some (.inr (0, [.ref pa, .int ln])) := by rw [e21, cj_up_n (cj_noa k14 k15)]; exact k14
  have k23 : G20 pa = some (.inl (0, 360, .inl (upd (upd (upd pf (3 * p) 19) ((3 * p) + 1) av) ((3 * p) + 2) 0))) := by rw [e21]; exact cj_up_s
  have k24 : G20 s = some (.inr (5, [.int 19, .int av, .null, .int (nI p), fo])) := by rw [e21, cj_up_n (cj_noa k16 k15)]; exact k16
  have r25 : cj_fr [pa] G G20 := by rw [e21]; exact cj_fr.up r17 (by simp)
  refine cj_vret rfl dX0_store_114 ?_
  exact ⟨rfl, k23, r25⟩
set_option maxHeartbeats 4000000 in
set_option maxRecDepth 100000 in
theorem t_store_tp {G : cj_G} {pg pa s p g : Nat} {ln kd av gk ga gp : Int32} {fo gt gf : Value} {pf : Nat → Int32} (k_pg : G pg = some (.inr (0, [.ref pa, .int ln]))) (k_pa : G pa = some (.inl (0, 360, .inl pf))) (k_s : G s = some (.inr (5, [.int kd, .int av, .ref g, .int (nI p), fo]))) (k_g : G g = some (.inr (5, [.int gk, .int ga, gt, .int gp, gf]))) (hp : p < 120) (hk : ¬ kd = 19) (n_s_g : s ≠ g) : cj_T mX0_store 0 0 0 [.ref pg, .ref s] G (fun v G' => v = none ∧ G' pa = some (.inl (0, 360, .inl (cd_put pf p kd gp 0))) ∧ cj_fr [pa] G G') (cj_no) := by
  refine cj_T_of (by decide) (Nat.le_of_ble_eq_true rfl) ?_
  refine cj_lvs (lv' := [(0, .ref pg), (1, .ref s)]) rfl ?_
  refine cj_iconst (v := 3) dX0_store_0 (by decide) ?_
  refine cj_aload_n dX0_store_1 rfl ?_
  refine cj_get flX0_41 dX0_store_2 k_s rfl ?_
  refine cj_imul dX0_store_5 ?_
  refine cj_st (st' := [.int (nI (3 * p))]) (by rw [show (3 : Int32) = nI 3 from rfl, pk_mul]) ?_
  refine cj_pc (pc' := 6) rfl ?_
  refine cj_istore_n (lv' := [(2, .int (nI (3 * p))), (0, .ref pg), (1, .ref s)]) dX0_store_6 (by decide) rfl ?_
  refine cj_iload_n dX0_store_7 rfl ?_
  refine cj_if_lt (tgt := 22) dX0_store_8 (by decide) (fun h1 => absurd h1 (nI_pos (by omega))) (fun h1 => ?_)
  refine cj_iload_n dX0_store_11 rfl ?_
  refine cj_pc (pc' := 12) rfl ?_
  refine cj_iconst (v := 2) dX0_store_12 (by decide) ?_
  refine cj_iadd dX0_store_13 ?_
  refine cj_st (st' := [.int (nI ((3 * p) + 2))]) (by rw [show (2 : Int32) = nI 2 from rfl, nI_add]) ?_
  refine cj_aload_n dX0_store_14 rfl ?_
  refine cj_get flX0_11 dX0_store_15 k_pg rfl ?_
  refine cj_pc (pc' := 18) rfl ?_
  refine cj_alen (v := nI 360) dX0_store_18 k_pa rfl rfl ?_
  refine cj_icmp_lt (tgt := 23) dX0_store_19 (by decide) (fun h2 => ?_) (fun h2 => absurd h2 (Classical.not_not.mpr (nI_lt (b := 360) (by omega) (by decide))))
  refine cj_aload_n dX0_store_23 rfl ?_
  refine cj_get flX0_44 dX0_store_24 k_s rfl ?_
  refine cj_pc (pc' := 27) rfl ?_
  refine cj_ifnonnull (tgt := 34) dX0_store_27 (by decide) ?_
  refine cj_aload_n dX0_store_34 rfl ?_
  refine cj_get flX0_44 dX0_store_35 k_s rfl ?_
  refine cj_get flX0_41 dX0_store_38 k_g rfl ?_
  refine cj_pc (pc' := 41) rfl ?_
  refine cj_istore_n (lv' := [(3, .int gp), (2, .int (nI (3 * p))), (0, .ref pg), (1, .ref s)]) dX0_store_41 (by decide) rfl ?_
  refine cj_aload_n dX0_store_42 rfl ?_
  refine cj_get flX0_29 dX0_store_43 k_s rfl ?_
  refine cj_bipush (v := 19) dX0_store_46 (by decide) ?_
  refine cj_pc (pc' := 48) rfl ?_
  refine cj_icmp_ne (tgt := 55) dX0_store_48 (by decide) (fun h3 => ?_) (fun h3 => absurd h3 (hk))
  refine cj_iconst (v := 0) dX0_store_55 (by decide) ?_
  refine cj_istore (lv' := [(4, .int 0), (3, .int gp), (2, .int (nI (3 * p))), (0, .ref pg), (1, .ref s)]) dX0_store_56 (by decide) rfl ?_
  refine cj_aload_n dX0_store_58 rfl ?_
  refine cj_pc (pc' := 59) rfl ?_
  refine cj_get flX0_11 dX0_store_59 k_pg rfl ?_
  refine cj_iload_n dX0_store_62 rfl ?_
  refine cj_aload_n dX0_store_63 rfl ?_
  refine cj_get flX0_29 dX0_store_64 k_s rfl ?_
  refine cj_pc (pc' := 67) rfl ?_
  have i4 : vp_in (nI (3 * p)) 360 := by
    exact vp_in_nI (by omega) (by decide)
  refine cj_iast dX0_store_67 k_pa i4 ?_
  refine cj_eqG (G' := cj_up G pa (.inl (0, 360, .inl (upd pf (3 * p) kd)))) (by rw [nI_clamp (by omega)]) ?_
  refine cj_nm (fun G5 e6 => ?_)
  have k7 : G5 pg = some (.inr (0, [.ref pa, .int ln])) := by rw [e6, cj_up_n (cj_noa k_pg k_pa)]; exact k_pg
  have k8 : G5 pa = some (.inl (0, 360, .inl (upd pf (3 * p) kd))) := by rw [e6]; exact cj_up_s
  have k9 : G5 s = some (.inr (5, [.int kd, .int av, .ref g, .int (nI p), fo])) := by rw [e6, cj_up_n (cj_noa k_s k_pa)]; exact k_s
  have k10 : G5 g = some (.inr (5, [.int gk, .int ga, gt, .int gp, gf])) := by rw [e6, cj_up_n (cj_noa k_g k_pa)]; exact k_g
  have r11 : cj_fr [pa] G G5 := by rw [e6]; exact cj_fr.up (cj_fr.rf (S := [pa]) (G := G)) (by simp)
  refine cj_aload_n dX0_store_68 rfl ?_
  refine cj_get flX0_11 dX0_store_69 k7 rfl ?_
  refine cj_iload_n dX0_store_72 rfl ?_
  refine cj_pc (pc' := 73) rfl ?_
  refine cj_iconst (v := 1) dX0_store_73 (by decide) ?_
  refine cj_iadd dX0_store_74 ?_
  refine cj_st (st' := [.int (nI ((3 * p) + 1)), .ref pa]) (by rw [nI_1]) ?_
  refine cj_aload_n dX0_store_75 rfl ?_
  refine cj_get flX0_44 dX0_store_76 k9 rfl ?_
  refine cj_pc (pc' := 79) rfl ?_
  refine cj_ifnull dX0_store_79 ?_
  refine cj_iload dX0_store_82 rfl ?_
  refine cj_if_eq (tgt := 94) dX0_store_84 (by decide) (fun h12 => ?_) (fun h12 => absurd h12 (by decide))
  refine cj_iload_n dX0_store_94 rfl ?_
  refine cj_pc (pc' := 95) rfl ?_
  have i13 : vp_in (nI ((3 * p) + 1)) 360 := by
    exact vp_in_nI (by omega) (by decide)
  refine cj_iast dX0_store_95 k8 i13 ?_
  refine cj_eqG (G' := cj_up G5 pa (.inl (0, 360, .inl (upd (upd pf (3 * p) kd) ((3 * p) + 1) gp)))) (by rw [nI_clamp (by omega)]) ?_
  refine cj_nm (fun G14 e15 => ?_)
  have k16 : G14 pg = some (.inr (0, [.ref pa, .int ln])) := by rw [e15, cj_up_n (cj_noa k7 k8)]; exact k7
  have k17 : G14 pa = some (.inl (0, 360, .inl (upd (upd pf (3 * p) kd) ((3 * p) + 1) gp))) := by rw [e15]; exact cj_up_s
  have k18 : G14 s = some (.inr (5, [.int kd, .int av, .ref g, .int (nI p), fo])) := by rw [e15, cj_up_n (cj_noa k9 k8)]; exact k9
  have k19 : G14 g = some (.inr (5, [.int gk, .int ga, gt, .int gp, gf])) := by rw [e15, cj_up_n (cj_noa k10 k8)]; exact k10
  have r20 : cj_fr [pa] G G14 := by rw [e15]; exact cj_fr.up r11 (by simp)
  refine cj_aload_n dX0_store_96 rfl ?_
  refine cj_get flX0_11 dX0_store_97 k16 rfl ?_
  refine cj_iload_n dX0_store_100 rfl ?_
  refine cj_pc (pc' := 101) rfl ?_
  refine cj_iconst (v := 2) dX0_store_101 (by decide) ?_
  refine cj_iadd dX0_store_102 ?_
  refine cj_st (st' := [.int (nI ((3 * p) + 2)), .ref pa]) (by rw [show (2 : Int32) = nI 2 from rfl, nI_add]) ?_
  refine cj_iload dX0_store_103 rfl ?_
  refine cj_if_eq (tgt := 112) dX0_store_105 (by decide) (fun h21 => ?_) (fun h21 => absurd h21 (by decide))
  refine cj_pc (pc' := 112) rfl ?_
  refine cj_iconst (v := 0) dX0_store_112 (by decide) ?_
  have i22 : vp_in (nI ((3 * p) + 2)) 360 := by
    exact vp_in_nI (by omega) (by decide)
  refine cj_iast dX0_store_113 k17 i22 ?_
  refine cj_eqG (G' := cj_up G14 pa (.inl (0, 360, .inl (upd (upd (upd pf (3 * p) kd) ((3 * p) + 1) gp) ((3 * p) + 2) 0)))) (by rw [nI_clamp (by omega)]) ?_
  refine cj_nm (fun G23 e24 => ?_)
  have k25 : G23 pg = some (.inr (0, [.ref pa, .int ln])) := by rw [e24, cj_up_n (cj_noa k16 k17)]; exact k16
  have k26 : G23 pa = some (.inl (0, 360, .inl (upd (upd (upd pf (3 * p) kd) ((3 * p) + 1) gp) ((3 * p) + 2) 0))) := by rw [e24]; exact cj_up_s
  have k27 : G23 s = some (.inr (5, [.int kd, .int av, .ref g, .int (nI p), fo])) := by rw [e24, cj_up_n (cj_noa k18 k17)]; exact k18
  have k28 : G23 g = some (.inr (5, [.int gk, .int ga, gt, .int gp, gf])) := by rw [e24, cj_up_n (cj_noa k19 k17)]; exact k19
  have r29 : cj_fr [pa] G G23 := by rw [e24]; exact cj_fr.up r20 (by simp)
  refine cj_vret rfl dX0_store_114 ?_
  exact ⟨rfl, k26, r29⟩
set_option maxHeartbeats 4000000 in
set_option maxRecDepth 100000 in
theorem t_store_tc {G : cj_G} {pg pa s p g : Nat} {ln av gk ga gp : Int32} {fo gt gf : Value} {pf : Nat → Int32} (k_pg : G pg = some (.inr (0, [.ref pa, .int ln]))) (k_pa : G pa = some (.inl (0, 360, .inl pf))) (k_s : G s = some (.inr (5, [.int 19, .int av, .ref g, .int (nI p), fo]))) (k_g : G g = some (.inr (5, [.int gk, .int ga, gt, .int gp, gf]))) (hp : p < 120) (n_s_g : s ≠ g) : cj_T mX0_store 0 0 0 [.ref pg, .ref s] G (fun v G' => v = none ∧ G' pa = some (.inl (0, 360, .inl (cd_put pf p 19 av gp))) ∧ cj_fr [pa] G G') (cj_no) := by
  refine cj_T_of (by decide) (Nat.le_of_ble_eq_true rfl) ?_
  refine cj_lvs (lv' := [(0, .ref pg), (1, .ref s)]) rfl ?_
  refine cj_iconst (v := 3) dX0_store_0 (by decide) ?_
  refine cj_aload_n dX0_store_1 rfl ?_
  refine cj_get flX0_41 dX0_store_2 k_s rfl ?_
  refine cj_imul dX0_store_5 ?_
  refine cj_st (st' := [.int (nI (3 * p))]) (by rw [show (3 : Int32) = nI 3 from rfl, pk_mul]) ?_
  refine cj_pc (pc' := 6) rfl ?_
  refine cj_istore_n (lv' := [(2, .int (nI (3 * p))), (0, .ref pg), (1, .ref s)]) dX0_store_6 (by decide) rfl ?_
  refine cj_iload_n dX0_store_7 rfl ?_
  refine cj_if_lt (tgt := 22) dX0_store_8 (by decide) (fun h1 => absurd h1 (nI_pos (by omega))) (fun h1 => ?_)
  refine cj_iload_n dX0_store_11 rfl ?_
  refine cj_pc (pc' := 12) rfl ?_
  refine cj_iconst (v := 2) dX0_store_12 (by decide) ?_
  refine cj_iadd dX0_store_13 ?_
  refine cj_st (st' := [.int (nI ((3 * p) + 2))]) (by rw [show (2 : Int32) = nI 2 from rfl, nI_add]) ?_
  refine cj_aload_n dX0_store_14 rfl ?_
  refine cj_get flX0_11 dX0_store_15 k_pg rfl ?_
  refine cj_pc (pc' := 18) rfl ?_
  refine cj_alen (v := nI 360) dX0_store_18 k_pa rfl rfl ?_
  refine cj_icmp_lt (tgt := 23) dX0_store_19 (by decide) (fun h2 => ?_) (fun h2 => absurd h2 (Classical.not_not.mpr (nI_lt (b := 360) (by omega) (by decide))))
  refine cj_aload_n dX0_store_23 rfl ?_
  refine cj_get flX0_44 dX0_store_24 k_s rfl ?_
  refine cj_pc (pc' := 27) rfl ?_
  refine cj_ifnonnull (tgt := 34) dX0_store_27 (by decide) ?_
  refine cj_aload_n dX0_store_34 rfl ?_
  refine cj_get flX0_44 dX0_store_35 k_s rfl ?_
  refine cj_get flX0_41 dX0_store_38 k_g rfl ?_
  refine cj_pc (pc' := 41) rfl ?_
  refine cj_istore_n (lv' := [(3, .int gp), (2, .int (nI (3 * p))), (0, .ref pg), (1, .ref s)]) dX0_store_41 (by decide) rfl ?_
  refine cj_aload_n dX0_store_42 rfl ?_
  refine cj_get flX0_29 dX0_store_43 k_s rfl ?_
  refine cj_bipush (v := 19) dX0_store_46 (by decide) ?_
  refine cj_pc (pc' := 48) rfl ?_
  refine cj_icmp_ne (tgt := 55) dX0_store_48 (by decide) (fun h3 => absurd h3 (by decide)) (fun h3 => ?_)
  refine cj_iconst (v := 1) dX0_store_51 (by decide) ?_
  refine cj_goto (tgt := 56) dX0_store_52 (by decide) ?_
  refine cj_istore (lv' := [(4, .int 1), (3, .int gp), (2, .int (nI (3 * p))), (0, .ref pg), (1, .ref s)]) dX0_store_56 (by decide) rfl ?_
  refine cj_pc (pc' := 58) rfl ?_
  refine cj_aload_n dX0_store_58 rfl ?_
  refine cj_get flX0_11 dX0_store_59 k_pg rfl ?_
  refine cj_iload_n dX0_store_62 rfl ?_
  refine cj_aload_n dX0_store_63 rfl ?_
  refine cj_pc (pc' := 64) rfl ?_
  refine cj_get flX0_29 dX0_store_64 k_s rfl ?_
  have i4 : vp_in (nI (3 * p)) 360 := by
    exact vp_in_nI (by omega) (by decide)
  refine cj_iast dX0_store_67 k_pa i4 ?_
  refine cj_eqG (G' := cj_up G pa (.inl (0, 360, .inl (upd pf (3 * p) 19)))) (by rw [nI_clamp (by omega)]) ?_
  refine cj_nm (fun G5 e6 => ?_)
  have k7 : G5 pg = some (.inr (0, [.ref pa, .int ln])) := by rw [e6, cj_up_n (cj_noa k_pg k_pa)]; exact k_pg
  have k8 : G5 pa = some (.inl (0, 360, .inl (upd pf (3 * p) 19))) := by rw [e6]; exact cj_up_s
  have k9 : G5 s = some (.inr (5, [.int 19, .int av, .ref g, .int (nI p), fo])) := by rw [e6, cj_up_n (cj_noa k_s k_pa)]; exact k_s
  have k10 : G5 g = some (.inr (5, [.int gk, .int ga, gt, .int gp, gf])) := by rw [e6, cj_up_n (cj_noa k_g k_pa)]; exact k_g
  have r11 : cj_fr [pa] G G5 := by rw [e6]; exact cj_fr.up (cj_fr.rf (S := [pa]) (G := G)) (by simp)
  refine cj_aload_n dX0_store_68 rfl ?_
  refine cj_get flX0_11 dX0_store_69 k7 rfl ?_
  refine cj_pc (pc' := 72) rfl ?_
  refine cj_iload_n dX0_store_72 rfl ?_
  refine cj_iconst (v := 1) dX0_store_73 (by decide) ?_
  refine cj_iadd dX0_store_74 ?_
  refine cj_st (st' := [.int (nI ((3 * p) + 1)), .ref pa]) (by rw [nI_1]) ?_
  refine cj_aload_n dX0_store_75 rfl ?_
  refine cj_pc (pc' := 76) rfl ?_
  refine cj_get flX0_44 dX0_store_76 k9 rfl ?_
  refine cj_ifnull dX0_store_79 ?_
  refine cj_iload dX0_store_82 rfl ?_
  refine cj_if_eq (tgt := 94) dX0_store_84 (by decide) (fun h12 => absurd h12 (by decide)) (fun h12 => ?_)
  refine cj_pc (pc' := 87) rfl ?_
  refine cj_aload_n dX0_store_87 rfl ?_
  refine cj_get flX0_47 dX0_store_88 k9 rfl ?_
  refine cj_goto (tgt := 95) dX0_store_91 (by decide) ?_
  have i13 : vp_in (nI ((3 * p) + 1)) 360 := by
    exact vp_in_nI (by omega) (by decide)
  refine cj_iast dX0_store_95 k8 i13 ?_
  refine cj_eqG (G' := cj_up G5 pa (.inl (0, 360, .inl (upd (upd pf (3 * p) 19) ((3 * p) + 1) av)))) (by rw [nI_clamp (by omega)]) ?_
  refine cj_nm (fun G14 e15 => ?_)
  have k16 : G14 pg = some (.inr (0, [.ref pa, .int ln])) := by rw [e15, cj_up_n (cj_noa k7 k8)]; exact k7
  have k17 : G14 pa = some (.inl (0, 360, .inl (upd (upd pf (3 * p) 19) ((3 * p) + 1) av))) := by rw [e15]; exact cj_up_s
  have k18 : G14 s = some (.inr (5, [.int 19, .int av, .ref g, .int (nI p), fo])) := by rw [e15, cj_up_n (cj_noa k9 k8)]; exact k9
  have k19 : G14 g = some (.inr (5, [.int gk, .int ga, gt, .int gp, gf])) := by rw [e15, cj_up_n (cj_noa k10 k8)]; exact k10
  have r20 : cj_fr [pa] G G14 := by rw [e15]; exact cj_fr.up r11 (by simp)
  refine cj_pc (pc' := 96) rfl ?_
  refine cj_aload_n dX0_store_96 rfl ?_
  refine cj_get flX0_11 dX0_store_97 k16 rfl ?_
  refine cj_iload_n dX0_store_100 rfl ?_
  refine cj_iconst (v := 2) dX0_store_101 (by decide) ?_
  refine cj_pc (pc' := 102) rfl ?_
  refine cj_iadd dX0_store_102 ?_
  refine cj_st (st' := [.int (nI ((3 * p) + 2)), .ref pa]) (by rw [show (2 : Int32) = nI 2 from rfl, nI_add]) ?_
  refine cj_iload dX0_store_103 rfl ?_
  refine cj_if_eq (tgt := 112) dX0_store_105 (by decide) (fun h21 => absurd h21 (by decide)) (fun h21 => ?_)
  refine cj_iload_n dX0_store_108 rfl ?_
  refine cj_pc (pc' := 109) rfl ?_
  refine cj_goto (tgt := 113) dX0_store_109 (by decide) ?_
  have i22 : vp_in (nI ((3 * p) + 2)) 360 := by
    exact vp_in_nI (by omega) (by decide)
  refine cj_iast dX0_store_113 k17 i22 ?_
  refine cj_eqG (G' := cj_up G14 pa (.inl (0, 360, .inl (upd (upd (upd pf (3 * p) 19) ((3 * p) + 1) av) ((3 * p) + 2) gp)))) (by rw [nI_clamp (by omega)]) ?_
  refine cj_nm (fun G23 e24 => ?_)
  have k25 : G23 pg = some (.inr (0, [.ref pa, .int ln])) := by rw [e24, cj_up_n (cj_noa k16 k17)]; exact k16
  have k26 : G23 pa = some (.inl (0, 360, .inl (upd (upd (upd pf (3 * p) 19) ((3 * p) + 1) av) ((3 * p) + 2) gp))) := by rw [e24]; exact cj_up_s
  have k27 : G23 s = some (.inr (5, [.int 19, .int av, .ref g, .int (nI p), fo])) := by rw [e24, cj_up_n (cj_noa k18 k17)]; exact k18
  have k28 : G23 g = some (.inr (5, [.int gk, .int ga, gt, .int gp, gf])) := by rw [e24, cj_up_n (cj_noa k19 k17)]; exact k19
  have r29 : cj_fr [pa] G G23 := by rw [e24]; exact cj_fr.up r20 (by simp)
  refine cj_vret rfl dX0_store_114 ?_
  exact ⟨rfl, k26, r29⟩
/-! the places: a chain whose steps know theirs -/
def rw_p (x : rw_I) (c : Nat) (fo : Option Nat) : cj_E := .inr (5, [.int x.2.1, .int x.2.2.1, va_rf x.2.2.2, .int (nI c), va_rf fo])
def rw_n (x : rw_I) : Nat := if x.2.1 = 21 then 0 else 1
def rw_cnt : List rw_I → Nat
  | [] => 0
  | x :: t => rw_n x + rw_cnt t
def rw_sp (G : cj_G) : List rw_I → Option Nat → Nat → Prop
  | [], _, _ => True
  | x :: t, e, c => G x.1 = some (rw_p x c (rw_nx t e)) ∧ rw_sp G t e (c + rw_n x)
theorem rw_sp_fr {S : List Nat} {G G' : cj_G} (h : cj_fr S G G') : ∀ {L : List rw_I} {e : Option Nat} {c : Nat}, (∀ x ∈ rw_ad L, x ∉ S) → rw_sp G L e c → rw_sp G' L e c := by
  intro L
  induction L with
  | nil => intro e c _ _; trivial
  | cons x t ih =>
    intro e c hd hs
    exact ⟨h _ _ (hd x.1 (by simp [rw_ad])) hs.1, ih (fun y hy => hd y (by simp only [rw_ad, List.map_cons]; exact List.mem_cons_of_mem _ hy)) hs.2⟩
set_option maxHeartbeats 4000000 in
set_option maxRecDepth 100000 in
theorem l_count {d k0 n0 k n : Nat} {Qr : Option Value → cj_G → Prop} {Qx : String → cj_G → Prop} : ∀ (T : List rw_I) (c : Nat) (G : cj_G), rw_sg G T none → (rw_ad T).Nodup → (∀ G' : cj_G, rw_sp G' T none c → cj_fr (rw_ad T) G G' → cj_J mX4_countPlaces d k0 n0 Qr Qx k n 36 [(1, .int (nI (c + rw_cnt T)))] [] G') → cj_J mX4_countPlaces d k0 n0 Qr Qx k n 7 [(2, va_rf (rw_nx T none)), (1, .int (nI c))] [] G := by
  intro T
  induction T with
  | nil =>
    intro c G hs hn kk
    refine cj_lvs (lv' := [(2, .null), (1, .int (nI c))]) rfl ?_
    refine cj_aload_nN dX4_countPlaces_7 rfl ?_
    refine cj_ifnullN (tgt := 36) dX4_countPlaces_8 (by decide) ?_
    exact cj_sub (lv' := [(1, .int (nI c))]) (by simp) (kk G trivial cj_fr.rf)
  | cons x t ih =>
    intro c G hs hn kk
    obtain ⟨hx, hs⟩ := hs
    have hnx : x.1 ∉ rw_ad t := (List.nodup_cons.mp hn).1
    refine cj_lvs (lv' := [(2, .ref x.1), (1, .int (nI c))]) rfl ?_
    refine cj_aload_n dX4_countPlaces_7 rfl ?_
    refine cj_ifnull dX4_countPlaces_8 ?_
    refine cj_aload_n dX4_countPlaces_11 rfl ?_
    refine cj_iload_n dX4_countPlaces_12 rfl ?_
    refine cj_put flX4_37 dX4_countPlaces_13 hx rfl rfl (Nat.le_of_ble_eq_true rfl) ?_
    refine cj_nm (fun G1 e1 => ?_)
    have k1 : G1 x.1 = some (.inr (5, [.int x.2.1, .int x.2.2.1, va_rf x.2.2.2, .int (nI c), va_rf (rw_nx t none)])) := by rw [e1]; exact cj_up_s
    have f1 : cj_fr [x.1] G G1 := by rw [e1]; exact cj_fr.up cj_fr.rf (by simp)
    have hs1 : rw_sg G1 t none := rw_sg_fr f1 (fun y hy => cj_ni1 (fun e => hnx (e ▸ hy))) hs
    refine cj_pc (pc' := 16) rfl ?_
    refine cj_aload_n dX4_countPlaces_16 rfl ?_
    refine cj_get flX4_41 dX4_countPlaces_17 k1 rfl ?_
    refine cj_bipush (v := 21) dX4_countPlaces_20 (by decide) ?_
    have step : ∀ c2 : Nat, c2 = c + rw_n x → cj_J mX4_countPlaces d k0 n0 Qr Qx k n 28 [(2, .ref x.1), (1, .int (nI c2))] [] G1 := by
      intro c2 hc2
      refine cj_aload_n dX4_countPlaces_28 rfl ?_
      refine cj_get flX4_18 dX4_countPlaces_29 k1 rfl ?_
      have fin : cj_J mX4_countPlaces d k0 n0 Qr Qx k n 7 [(2, va_rf (rw_nx t none)), (1, .int (nI c2))] [] G1 := by
        refine ih c2 G1 hs1 (List.nodup_cons.mp hn).2 (fun G' g1 g2 => ?_)
        have hx' : G' x.1 = some (rw_p x c (rw_nx t none)) := g2 _ _ hnx k1
        have := kk G' ⟨hx', by rw [← hc2]; exact g1⟩ (fun q y hq hy => g2 q y (fun e => hq (List.mem_cons_of_mem _ e)) (f1 q y (cj_ni1 (fun e => hq (by rw [e]; exact List.mem_cons_self))) hy))
        rw [show c + rw_cnt (x :: t) = c2 + rw_cnt t by rw [hc2]; show c + (rw_n x + rw_cnt t) = _; omega] at this
        exact this
      cases t with
      | nil =>
        refine cj_st (st' := [.null]) rfl ?_
        refine cj_astore_nN (lv' := [(2, .null), (1, .int (nI c2))]) dX4_countPlaces_32 (by decide) rfl ?_
        refine cj_goto (tgt := 7) dX4_countPlaces_33 (by decide) ?_
        exact fin
      | cons z t2 =>
        refine cj_st (st' := [.ref z.1]) rfl ?_
        refine cj_astore_n (lv' := [(2, .ref z.1), (1, .int (nI c2))]) dX4_countPlaces_32 (by decide) rfl ?_
        refine cj_goto (tgt := 7) dX4_countPlaces_33 (by decide) ?_
        exact fin
    refine cj_icmp_eq (tgt := 28) dX4_countPlaces_22 (by decide) (fun h9 => ?_) (fun h9 => ?_)
    · exact step c (by unfold rw_n; rw [if_pos h9]; rfl)
    · refine cj_iinc (v := nI (c + 1)) (lv' := [(1, .int (nI (c + 1))), (2, .ref x.1)]) dX4_countPlaces_25 rfl (nI_1 _) (by decide) rfl ?_
      exact cj_sub (lv' := [(2, .ref x.1), (1, .int (nI (c + 1)))]) (by simp) (step (c + 1) (by unfold rw_n; rw [if_neg h9]))
set_option maxHeartbeats 4000000 in
set_option maxRecDepth 100000 in
/-- Row.countPlaces() -/
theorem t_countPlaces {G : cj_G} {r : Nat} {L : List rw_I} (h : rw_at G r L) : cj_T mX4_countPlaces 0 0 0 [.ref r] G (fun v G' => v = some (.int (nI (rw_cnt L))) ∧ rw_sp G' L none 0 ∧ cj_fr (rw_ad L) G G') cj_no := by
  refine cj_T_of (by decide) (Nat.le_of_ble_eq_true rfl) ?_
  refine cj_lvs (lv' := [(0, .ref r)]) rfl ?_
  refine cj_iconst (v := 0) dX4_countPlaces_0 (by decide) ?_
  refine cj_istore_n (lv' := [(1, .int 0), (0, .ref r)]) dX4_countPlaces_1 (by decide) rfl ?_
  refine cj_aload_n dX4_countPlaces_2 rfl ?_
  refine cj_get flX4_9 dX4_countPlaces_3 h.1 rfl ?_
  have fin : cj_J mX4_countPlaces 0 0 0 (fun v G' => v = some (.int (nI (rw_cnt L))) ∧ rw_sp G' L none 0 ∧ cj_fr (rw_ad L) G G') cj_no 0 0 7 [(2, va_rf (rw_nx L none)), (1, .int (nI 0))] [] G := by
    refine l_count L 0 G h.2.1 h.2.2 (fun G' g1 g2 => ?_)
    refine cj_iload_n dX4_countPlaces_36 rfl ?_
    exact cj_iret rfl dX4_countPlaces_37 ⟨by rw [Nat.zero_add], g1, g2⟩
  cases L with
  | nil =>
    refine cj_st (st' := [.null]) rfl ?_
    refine cj_astore_nN (lv' := [(2, .null), (1, .int 0), (0, .ref r)]) dX4_countPlaces_6 (by decide) rfl ?_
    exact cj_sub (lv' := [(2, .null), (1, .int (nI 0))]) (by simp [nI_0]) fin
  | cons z t2 =>
    refine cj_st (st' := [.ref z.1]) rfl ?_
    refine cj_astore_n (lv' := [(2, .ref z.1), (1, .int 0), (0, .ref r)]) dX4_countPlaces_6 (by decide) rfl ?_
    exact cj_sub (lv' := [(2, .ref z.1), (1, .int (nI 0))]) (by simp [nI_0]) fin
