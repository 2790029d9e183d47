/-! THE REFERENCE, by program: wp_<method>: what must hold so that it comes to its end with Q; tR_<method>: its contract -/
def wl_make_46 (v1 : Int32) (v2 : Int32) (Q : rm_S → Prop) (K : Int32 → rm_S → Prop) : Nat → Int32 → rm_S → Prop
  | 0, _, _ => False
  | n + 1, v3, S => (((v1 - 1) ≤ v3 → K v3 S) ∧ (¬ (v1 - 1) ≤ v3 → (vp_in ((S.1 51) + v3) 40 ∧ (vp_in ((v2 + 1) + v3) 400 ∧ wl_make_46 v1 v2 Q K n (v3 + 1) (rm_pa S 44 (((v2 + 1) + v3).toNatClampNeg) ((S.2 52) (((S.1 51) + v3).toNatClampNeg)))))))
def wp_make (S : rm_S) (Q : rm_S → Prop) : Prop := wp_a S (fun x2 S3 => wp_a S3 (fun x5 S6 => (vp_in ((S3.1 45) + (S3.1 46)) 400 ∧ (∃ n9 : Nat, wl_make_46 (x2 - x2 / 4 * 4) ((S3.1 45) + (S3.1 46)) Q (fun w12 S11 => (vp_in (((S3.1 45) + (S3.1 46)) + (x2 - x2 / 4 * 4)) 400 ∧ Q (rm_pf (rm_pf (rm_pa S11 44 ((((S3.1 45) + (S3.1 46)) + (x2 - x2 / 4 * 4)).toNatClampNeg) (S11.1 49)) 46 ((S11.1 46) + (1 + (x2 - x2 / 4 * 4)))) 49 (4 * ((S3.1 45) + (S3.1 46)))))) n9 0 (rm_pf (rm_pa S6 44 (((S3.1 45) + (S3.1 46)).toNatClampNeg) ((16 * (x2 - x2 / 4 * 4)) + x5)) 51 ((S6.1 51) - ((x2 - x2 / 4 * 4) - 1)))))))
set_option maxHeartbeats 4000000 in
set_option maxRecDepth 100000 in
theorem wl_make_46_ok {mo : Nat} {ad : Nat → Nat} (hA : rm_A mo ad) {G0 : cj_G} {d k0 n0 k n9 : Nat} (hd9 : 1 ≤ d) (v1 : Int32) (v2 : Int32) {Q : rm_S → Prop} {K : Int32 → rm_S → Prop} (hK : ∀ (v3 : Int32) (S : rm_S), K v3 S → cj_J mX7_make d k0 n0 (rm_post mo ad G0 Q) cj_no k n9 80 [(1, .int v1), (2, .int v2), (3, .int v3), (0, .ref mo)] [] (rm_md mo ad S G0)) : ∀ (n : Nat) (v3 : Int32) (S : rm_S), wl_make_46 v1 v2 Q K n v3 S → cj_J mX7_make d k0 n0 (rm_post mo ad G0 Q) cj_no k n9 46 [(1, .int v1), (2, .int v2), (3, .int v3), (0, .ref mo)] [] (rm_md mo ad S G0) := by
  intro n
  induction n with
  | zero => intro v3 S h; exact absurd h id
  | succ n ih =>
    intro v3 S h
    unfold wl_make_46 at h
    refine cj_iload_n dX7_make_46 rfl ?_
    refine cj_iload_n dX7_make_47 rfl ?_
    refine cj_iconst (v := 1) dX7_make_48 (by decide) ?_
    refine cj_pc (pc' := 49) rfl ?_
    refine cj_isub dX7_make_49 ?_
    refine cj_icmp_ge (tgt := 80) dX7_make_50 (by decide) (fun c8 => ?_) (fun c8 => ?_)
    · replace h := h.1 c8
      refine cj_sub (lv' := [(1, .int v1), (2, .int v2), (3, .int v3), (0, .ref mo)]) (by simp) ?_
      exact hK _ _ h
    · replace h := h.2 c8
      refine cj_aload_n dX7_make_53 rfl ?_
      refine rm_get (.ref (ad 44)) flX7_94 dX7_make_54 rfl ?_
      refine cj_iload_n dX7_make_57 rfl ?_
      refine cj_pc (pc' := 58) rfl ?_
      refine cj_iconst (v := 1) dX7_make_58 (by decide) ?_
      refine cj_iadd dX7_make_59 ?_
      refine cj_iload_n dX7_make_60 rfl ?_
      refine cj_iadd dX7_make_61 ?_
      refine cj_aload_n dX7_make_62 rfl ?_
      refine cj_pc (pc' := 63) rfl ?_
      refine rm_get (.ref (ad 52)) flX7_106 dX7_make_63 rfl ?_
      refine cj_aload_n dX7_make_66 rfl ?_
      refine rm_get (.int (S.1 51)) flX7_306 dX7_make_67 rfl ?_
      refine cj_iload_n dX7_make_70 rfl ?_
      refine cj_iadd dX7_make_71 ?_
      refine cj_pc (pc' := 72) rfl ?_
      have i9 := h.1
      replace h := h.2
      refine rm_iald (j := 52) (x := (S.2 52) (((S.1 51) + v3).toNatClampNeg)) hA rfl dX7_make_72 i9 rfl ?_
      have i10 := h.1
      replace h := h.2
      refine rm_iast (j := 44) hA rfl dX7_make_73 i10 ?_
      refine cj_iinc (v := v3 + 1) (lv' := [(3, .int (v3 + 1)), (1, .int v1), (2, .int v2), (0, .ref mo)]) dX7_make_74 rfl rfl (by decide) rfl ?_
      refine cj_goto (tgt := 46) dX7_make_77 (by decide) ?_
      refine cj_sub (lv' := [(1, .int v1), (2, .int v2), (3, .int (v3 + 1)), (0, .ref mo)]) (by simp) ?_
      exact ih _ _ h
set_option maxHeartbeats 4000000 in
set_option maxRecDepth 100000 in
theorem tR_make {mo : Nat} {ad : Nat → Nat} (hA : rm_A mo ad) {G0 : cj_G} {S : rm_S} {Q : rm_S → Prop} (h : wp_make S Q) : cj_T mX7_make 1 0 0 [.ref mo] (rm_md mo ad S G0) (rm_post mo ad G0 Q) cj_no := by
  refine cj_T_of (by decide +kernel) (Nat.le_of_ble_eq_true rfl) ?_
  refine cj_lvs (lv' := [(0, .ref mo)]) rfl ?_
  unfold wp_make at h
  refine cj_aload_n dX7_make_0 rfl ?_
  refine cj_callV (M' := mX7_a) (d' := 0) (k' := 0) (n' := 0) (index := 340) (np := 0) (As := []) (rest := []) dX7_make_1 lkX7_340 mwX7_a (tR_a hA h) (by omega) rfl rfl (Nat.le_of_ble_eq_true rfl) rm_mo rfl (fun v9 G9 q1 => ?_) (fun _ _ h => absurd h id)
  obtain ⟨x2, S3, e8, e9, h⟩ := q1
  subst e8
  subst e9
  refine cj_st (st' := [.int x2]) rfl ?_
  refine cj_iconst (v := 4) dX7_make_4 (by decide) ?_
  refine cj_irem dX7_make_5 (by decide) ?_
  refine cj_pc (pc' := 6) rfl ?_
  refine cj_istore_n (lv' := [(1, .int (x2 - x2 / 4 * 4)), (0, .ref mo)]) dX7_make_6 (by decide) rfl ?_
  refine cj_aload_n dX7_make_7 rfl ?_
  refine rm_get (.int (S3.1 45)) flX7_300 dX7_make_8 rfl ?_
  refine cj_aload_n dX7_make_11 rfl ?_
  refine rm_get (.int (S3.1 46)) flX7_297 dX7_make_12 rfl ?_
  refine cj_pc (pc' := 15) rfl ?_
  refine cj_iadd dX7_make_15 ?_
  refine cj_istore_n (lv' := [(2, .int ((S3.1 45) + (S3.1 46))), (1, .int (x2 - x2 / 4 * 4)), (0, .ref mo)]) dX7_make_16 (by decide) rfl ?_
  refine cj_aload_n dX7_make_17 rfl ?_
  refine rm_get (.ref (ad 44)) flX7_94 dX7_make_18 rfl ?_
  refine cj_iload_n dX7_make_21 rfl ?_
  refine cj_pc (pc' := 22) rfl ?_
  refine cj_bipush (v := 16) dX7_make_22 (by decide) ?_
  refine cj_iload_n dX7_make_24 rfl ?_
  refine cj_imul dX7_make_25 ?_
  refine cj_aload_n dX7_make_26 rfl ?_
  refine cj_callV (M' := mX7_a) (d' := 0) (k' := 0) (n' := 0) (index := 340) (np := 0) (As := []) (rest := [.int (16 * (x2 - x2 / 4 * 4)), .int ((S3.1 45) + (S3.1 46)), .ref (ad 44)]) dX7_make_27 lkX7_340 mwX7_a (tR_a hA h) (by omega) rfl rfl (Nat.le_of_ble_eq_true rfl) rm_mo rfl (fun v9 G9 q4 => ?_) (fun _ _ h => absurd h id)
  obtain ⟨x5, S6, e8, e9, h⟩ := q4
  subst e8
  subst e9
  refine cj_st (st' := [.int x5, .int (16 * (x2 - x2 / 4 * 4)), .int ((S3.1 45) + (S3.1 46)), .ref (ad 44)]) rfl ?_
  refine cj_pc (pc' := 30) rfl ?_
  refine cj_iadd dX7_make_30 ?_
  have i7 := h.1
  replace h := h.2
  refine rm_iast (j := 44) hA rfl dX7_make_31 i7 ?_
  refine cj_aload_n dX7_make_32 rfl ?_
  refine cj_dup dX7_make_33 rfl ?_
  refine rm_get (.int (S6.1 51)) flX7_306 dX7_make_34 rfl ?_
  refine cj_pc (pc' := 37) rfl ?_
  refine cj_iload_n dX7_make_37 rfl ?_
  refine cj_iconst (v := 1) dX7_make_38 (by decide) ?_
  refine cj_isub dX7_make_39 ?_
  refine cj_isub dX7_make_40 ?_
  refine rm_put flX7_306 dX7_make_41 rmp_51 rfl rfl (by decide) ?_
  refine cj_pc (pc' := 44) rfl ?_
  refine cj_iconst (v := 0) dX7_make_44 (by decide) ?_
  refine cj_istore_n (lv' := [(3, .int 0), (2, .int ((S3.1 45) + (S3.1 46))), (1, .int (x2 - x2 / 4 * 4)), (0, .ref mo)]) dX7_make_45 (by decide) rfl ?_
  obtain ⟨n9, h⟩ := h
  refine cj_sub (lv' := [(1, .int (x2 - x2 / 4 * 4)), (2, .int ((S3.1 45) + (S3.1 46))), (3, .int 0), (0, .ref mo)]) (by simp) ?_
  refine wl_make_46_ok hA (by omega) _ _ ?_ n9 _ _ h
  clear h
  intro w12 S11 h
  refine cj_aload_n dX7_make_80 rfl ?_
  refine cj_pc (pc' := 81) rfl ?_
  refine rm_get (.ref (ad 44)) flX7_94 dX7_make_81 rfl ?_
  refine cj_iload_n dX7_make_84 rfl ?_
  refine cj_iload_n dX7_make_85 rfl ?_
  refine cj_iadd dX7_make_86 ?_
  refine cj_aload_n dX7_make_87 rfl ?_
  refine cj_pc (pc' := 88) rfl ?_
  refine rm_get (.int (S11.1 49)) flX7_100 dX7_make_88 rfl ?_
  have i13 := h.1
  replace h := h.2
  refine rm_iast (j := 44) hA rfl dX7_make_91 i13 ?_
  refine cj_aload_n dX7_make_92 rfl ?_
  refine cj_dup dX7_make_93 rfl ?_
  refine rm_get (.int (S11.1 46)) flX7_297 dX7_make_94 rfl ?_
  refine cj_pc (pc' := 97) rfl ?_
  refine cj_iconst (v := 1) dX7_make_97 (by decide) ?_
  refine cj_iload_n dX7_make_98 rfl ?_
  refine cj_iadd dX7_make_99 ?_
  refine cj_iadd dX7_make_100 ?_
  refine rm_put flX7_297 dX7_make_101 rmp_46 rfl rfl (by decide) ?_
  refine cj_pc (pc' := 104) rfl ?_
  refine cj_aload_n dX7_make_104 rfl ?_
  refine cj_iconst (v := 4) dX7_make_105 (by decide) ?_
  refine cj_iload_n dX7_make_106 rfl ?_
  refine cj_imul dX7_make_107 ?_
  refine rm_put flX7_100 dX7_make_108 rmp_49 rfl rfl (by decide) ?_
  refine cj_pc (pc' := 111) rfl ?_
  refine cj_vret rfl dX7_make_111 ?_
  exact ⟨_, rfl, rfl, h⟩
def wp_apply (S : rm_S) (Q : rm_S → Prop) : Prop := (vp_in ((S.1 51) - 1) 40 ∧ (vp_in ((S.1 51) - 1) 40 ∧ (vp_in (S.1 51) 40 ∧ wp_field (rm_pf (rm_pa (rm_pa S 52 (((S.1 51) - 1).toNatClampNeg) (S.1 50)) 52 ((S.1 51).toNatClampNeg) ((2 * ((S.1 53) + 1)) + 1)) 51 ((S.1 51) + 1)) (S.1 49) 1 (fun x5 S6 => wp_blockKind (rm_pf S6 50 x5) (S.1 49) (fun x8 S9 => ((¬ x8 = 9 → wp_block S9 10 ((S.2 52) (((S.1 51) - 1).toNatClampNeg)) (S9.1 50) (fun x12 S13 => wp_field (rm_pf S13 50 x12) (S.1 49) 0 (fun x15 S16 => Q (rm_pf S16 53 (x15 >>> ((1 : Int32) &&& 31)))))) ∧ (x8 = 9 → wp_block S9 10 (S.1 49) (S9.1 50) (fun x18 S19 => wp_block (rm_pf S19 50 x18) 10 ((S.2 52) (((S.1 51) - 1).toNatClampNeg)) x18 (fun x21 S22 => wp_field (rm_pf S22 50 x21) (S.1 49) 0 (fun x24 S25 => Q (rm_pf S25 53 (x24 >>> ((1 : Int32) &&& 31)))))))))))))
set_option maxHeartbeats 4000000 in
set_option maxRecDepth 100000 in
theorem tR_apply {mo : Nat} {ad : Nat → Nat} (hA : rm_A mo ad) {G0 : cj_G} {S : rm_S} {Q : rm_S → Prop} (h : wp_apply S Q) : cj_T mX7_apply 1 0 0 [.ref mo] (rm_md mo ad S G0) (rm_post mo ad G0 Q) cj_no := by
  refine cj_T_of (by decide +kernel) (Nat.le_of_ble_eq_true rfl) ?_
  refine cj_lvs (lv' := [(0, .ref mo)]) rfl ?_
  unfold wp_apply at h
  refine cj_aload_n dX7_apply_0 rfl ?_
  refine rm_get (.int (S.1 49)) flX7_100 dX7_apply_1 rfl ?_
  refine cj_istore_n (lv' := [(1, .int (S.1 49)), (0, .ref mo)]) dX7_apply_4 (by decide) rfl ?_
  refine cj_aload_n dX7_apply_5 rfl ?_
  refine cj_pc (pc' := 6) rfl ?_
  refine rm_get (.ref (ad 52)) flX7_106 dX7_apply_6 rfl ?_
  refine cj_aload_n dX7_apply_9 rfl ?_
  refine rm_get (.int (S.1 51)) flX7_306 dX7_apply_10 rfl ?_
  refine cj_iconst (v := 1) dX7_apply_13 (by decide) ?_
  refine cj_isub dX7_apply_14 ?_
  refine cj_pc (pc' := 15) rfl ?_
  have i1 := h.1
  replace h := h.2
  refine rm_iald (j := 52) (x := (S.2 52) (((S.1 51) - 1).toNatClampNeg)) hA rfl dX7_apply_15 i1 rfl ?_
  refine cj_istore_n (lv' := [(2, .int ((S.2 52) (((S.1 51) - 1).toNatClampNeg))), (1, .int (S.1 49)), (0, .ref mo)]) dX7_apply_16 (by decide) rfl ?_
  refine cj_aload_n dX7_apply_17 rfl ?_
  refine rm_get (.ref (ad 52)) flX7_106 dX7_apply_18 rfl ?_
  refine cj_aload_n dX7_apply_21 rfl ?_
  refine cj_pc (pc' := 22) rfl ?_
  refine rm_get (.int (S.1 51)) flX7_306 dX7_apply_22 rfl ?_
  refine cj_iconst (v := 1) dX7_apply_25 (by decide) ?_
  refine cj_isub dX7_apply_26 ?_
  refine cj_aload_n dX7_apply_27 rfl ?_
  refine rm_get (.int (S.1 50)) flX7_103 dX7_apply_28 rfl ?_
  refine cj_pc (pc' := 31) rfl ?_
  have i2 := h.1
  replace h := h.2
  refine rm_iast (j := 52) hA rfl dX7_apply_31 i2 ?_
  refine cj_aload_n dX7_apply_32 rfl ?_
  refine rm_get (.ref (ad 52)) flX7_106 dX7_apply_33 rfl ?_
  refine cj_aload_n dX7_apply_36 rfl ?_
  refine rm_get (.int (S.1 51)) flX7_306 dX7_apply_37 rfl ?_
  refine cj_pc (pc' := 40) rfl ?_
  refine cj_iconst (v := 2) dX7_apply_40 (by decide) ?_
  refine cj_aload_n dX7_apply_41 rfl ?_
  refine rm_get (.int (S.1 53)) flX7_309 dX7_apply_42 rfl ?_
  refine cj_iconst (v := 1) dX7_apply_45 (by decide) ?_
  refine cj_iadd dX7_apply_46 ?_
  refine cj_pc (pc' := 47) rfl ?_
  refine cj_imul dX7_apply_47 ?_
  refine cj_iconst (v := 1) dX7_apply_48 (by decide) ?_
  refine cj_iadd dX7_apply_49 ?_
  have i3 := h.1
  replace h := h.2
  refine rm_iast (j := 52) hA rfl dX7_apply_50 i3 ?_
  refine cj_aload_n dX7_apply_51 rfl ?_
  refine cj_pc (pc' := 52) rfl ?_
  refine cj_dup dX7_apply_52 rfl ?_
  refine rm_get (.int (S.1 51)) flX7_306 dX7_apply_53 rfl ?_
  refine cj_iconst (v := 1) dX7_apply_56 (by decide) ?_
  refine cj_iadd dX7_apply_57 ?_
  refine rm_put flX7_306 dX7_apply_58 rmp_51 rfl rfl (by decide) ?_
  refine cj_pc (pc' := 61) rfl ?_
  refine cj_aload_n dX7_apply_61 rfl ?_
  refine cj_aload_n dX7_apply_62 rfl ?_
  refine cj_iload_n dX7_apply_63 rfl ?_
  refine cj_iconst (v := 1) dX7_apply_64 (by decide) ?_
  refine cj_callV (M' := mX7_field) (d' := 0) (k' := 0) (n' := 0) (index := 356) (np := 2) (As := [.int (S.1 49), .int 1]) (rest := [.ref mo]) dX7_apply_65 lkX7_356 mwX7_field (tR_field hA h) (by omega) rfl rfl (Nat.le_of_ble_eq_true rfl) rm_mo rfl (fun v9 G9 q4 => ?_) (fun _ _ h => absurd h id)
  obtain ⟨x5, S6, e8, e9, h⟩ := q4
  subst e8
  subst e9
  refine cj_st (st' := [.int x5, .ref mo]) rfl ?_
  refine cj_pc (pc' := 68) rfl ?_
  refine rm_put flX7_103 dX7_apply_68 rmp_50 rfl rfl (by decide) ?_
  refine cj_aload_n dX7_apply_71 rfl ?_
  refine cj_iload_n dX7_apply_72 rfl ?_
  refine cj_callV (M' := mX7_blockKind) (d' := 0) (k' := 0) (n' := 0) (index := 331) (np := 1) (As := [.int (S.1 49)]) (rest := []) dX7_apply_73 lkX7_331 mwX7_blockKind (tR_blockKind hA h) (by omega) rfl rfl (Nat.le_of_ble_eq_true rfl) rm_mo rfl (fun v9 G9 q7 => ?_) (fun _ _ h => absurd h id)
  obtain ⟨x8, S9, e8, e9, h⟩ := q7
  subst e8
  subst e9
  refine cj_st (st' := [.int x8]) rfl ?_
  refine cj_bipush (v := 9) dX7_apply_76 (by decide) ?_
  refine cj_pc (pc' := 78) rfl ?_
  refine cj_icmp_ne (tgt := 96) dX7_apply_78 (by decide) (fun c10 => ?_) (fun c10 => ?_)
  · replace h := h.1 c10
    refine cj_aload_n dX7_apply_96 rfl ?_
    refine cj_aload_n dX7_apply_97 rfl ?_
    refine cj_bipush (v := 10) dX7_apply_98 (by decide) ?_
    refine cj_iload_n dX7_apply_100 rfl ?_
    refine cj_pc (pc' := 101) rfl ?_
    refine cj_aload_n dX7_apply_101 rfl ?_
    refine rm_get (.int (S9.1 50)) flX7_103 dX7_apply_102 rfl ?_
    refine cj_callV (M' := mX7_block) (d' := 0) (k' := 0) (n' := 0) (index := 359) (np := 3) (As := [.int 10, .int ((S.2 52) (((S.1 51) - 1).toNatClampNeg)), .int (S9.1 50)]) (rest := [.ref mo]) dX7_apply_105 lkX7_359 mwX7_block (tR_block hA h) (by omega) rfl rfl (Nat.le_of_ble_eq_true rfl) rm_mo rfl (fun v9 G9 q11 => ?_) (fun _ _ h => absurd h id)
    obtain ⟨x12, S13, e8, e9, h⟩ := q11
    subst e8
    subst e9
    refine cj_st (st' := [.int x12, .ref mo]) rfl ?_
    refine rm_put flX7_103 dX7_apply_108 rmp_50 rfl rfl (by decide) ?_
    refine cj_aload_n dX7_apply_111 rfl ?_
    refine cj_pc (pc' := 112) rfl ?_
    refine cj_aload_n dX7_apply_112 rfl ?_
    refine cj_iload_n dX7_apply_113 rfl ?_
    refine cj_iconst (v := 0) dX7_apply_114 (by decide) ?_
    refine cj_callV (M' := mX7_field) (d' := 0) (k' := 0) (n' := 0) (index := 356) (np := 2) (As := [.int (S.1 49), .int 0]) (rest := [.ref mo]) dX7_apply_115 lkX7_356 mwX7_field (tR_field hA h) (by omega) rfl rfl (Nat.le_of_ble_eq_true rfl) rm_mo rfl (fun v9 G9 q14 => ?_) (fun _ _ h => absurd h id)
    obtain ⟨x15, S16, e8, e9, h⟩ := q14
    subst e8
    subst e9
    refine cj_st (st' := [.int x15, .ref mo]) rfl ?_
    refine cj_iconst (v := 1) dX7_apply_118 (by decide) ?_
    refine cj_pc (pc' := 119) rfl ?_
    refine cj_ishr dX7_apply_119 ?_
    refine rm_put flX7_309 dX7_apply_120 rmp_53 rfl rfl (by decide) ?_
    refine cj_vret rfl dX7_apply_123 ?_
    exact ⟨_, rfl, rfl, h⟩
  · replace h := h.2 c10
    refine cj_aload_n dX7_apply_81 rfl ?_
    refine cj_aload_n dX7_apply_82 rfl ?_
    refine cj_pc (pc' := 83) rfl ?_
    refine cj_bipush (v := 10) dX7_apply_83 (by decide) ?_
    refine cj_iload_n dX7_apply_85 rfl ?_
    refine cj_aload_n dX7_apply_86 rfl ?_
    refine rm_get (.int (S9.1 50)) flX7_103 dX7_apply_87 rfl ?_
    refine cj_callV (M' := mX7_block) (d' := 0) (k' := 0) (n' := 0) (index := 359) (np := 3) (As := [.int 10, .int (S.1 49), .int (S9.1 50)]) (rest := [.ref mo]) dX7_apply_90 lkX7_359 mwX7_block (tR_block hA h) (by omega) rfl rfl (Nat.le_of_ble_eq_true rfl) rm_mo rfl (fun v9 G9 q17 => ?_) (fun _ _ h => absurd h id)
    obtain ⟨x18, S19, e8, e9, h⟩ := q17
    subst e8
    subst e9
    refine cj_st (st' := [.int x18, .ref mo]) rfl ?_
    refine cj_pc (pc' := 93) rfl ?_
    refine rm_put flX7_103 dX7_apply_93 rmp_50 rfl rfl (by decide) ?_
    refine cj_aload_n dX7_apply_96 rfl ?_
    refine cj_aload_n dX7_apply_97 rfl ?_
    refine cj_bipush (v := 10) dX7_apply_98 (by decide) ?_
    refine cj_iload_n dX7_apply_100 rfl ?_
    refine cj_pc (pc' := 101) rfl ?_
    refine cj_aload_n dX7_apply_101 rfl ?_
    refine rm_get (.int x18) flX7_103 dX7_apply_102 rfl ?_
    refine cj_callV (M' := mX7_block) (d' := 0) (k' := 0) (n' := 0) (index := 359) (np := 3) (As := [.int 10, .int ((S.2 52) (((S.1 51) - 1).toNatClampNeg)), .int x18]) (rest := [.ref mo]) dX7_apply_105 lkX7_359 mwX7_block (tR_block hA h) (by omega) rfl rfl (Nat.le_of_ble_eq_true rfl) rm_mo rfl (fun v9 G9 q20 => ?_) (fun _ _ h => absurd h id)
    obtain ⟨x21, S22, e8, e9, h⟩ := q20
    subst e8
    subst e9
    refine cj_st (st' := [.int x21, .ref mo]) rfl ?_
    refine rm_put flX7_103 dX7_apply_108 rmp_50 rfl rfl (by decide) ?_
    refine cj_aload_n dX7_apply_111 rfl ?_
    refine cj_pc (pc' := 112) rfl ?_
    refine cj_aload_n dX7_apply_112 rfl ?_
    refine cj_iload_n dX7_apply_113 rfl ?_
    refine cj_iconst (v := 0) dX7_apply_114 (by decide) ?_
    refine cj_callV (M' := mX7_field) (d' := 0) (k' := 0) (n' := 0) (index := 356) (np := 2) (As := [.int (S.1 49), .int 0]) (rest := [.ref mo]) dX7_apply_115 lkX7_356 mwX7_field (tR_field hA h) (by omega) rfl rfl (Nat.le_of_ble_eq_true rfl) rm_mo rfl (fun v9 G9 q23 => ?_) (fun _ _ h => absurd h id)
    obtain ⟨x24, S25, e8, e9, h⟩ := q23
    subst e8
    subst e9
    refine cj_st (st' := [.int x24, .ref mo]) rfl ?_
    refine cj_iconst (v := 1) dX7_apply_118 (by decide) ?_
    refine cj_pc (pc' := 119) rfl ?_
    refine cj_ishr dX7_apply_119 ?_
    refine rm_put flX7_309 dX7_apply_120 rmp_53 rfl rfl (by decide) ?_
    refine cj_vret rfl dX7_apply_123 ?_
    exact ⟨_, rfl, rfl, h⟩
def wl_simple_116 (v1 : Int32) (Q : rm_S → Prop) (K : Int32 → Int32 → rm_S → Prop) : Nat → Int32 → Int32 → rm_S → Prop
  | 0, _, _, _ => False
  | n + 1, v2, v3, S => wp_a S (fun x7 S8 => ((x7 ≤ v3 → K v2 v3 S8) ∧ (¬ x7 ≤ v3 → wp_field S8 v2 1 (fun x11 S12 => wl_simple_116 v1 Q K n x11 (v3 + 1) S12))))
def wl_simple_260 (v1 : Int32) (v3 : Int32) (Q : rm_S → Prop) (K : Int32 → rm_S → Prop) : Nat → Int32 → rm_S → Prop
  | 0, _, _ => False
  | n + 1, v4, S => wp_a S (fun x77 S78 => ((x77 ≤ v4 → K v4 S78) ∧ (¬ x77 ≤ v4 → wp_field S78 v3 v4 (fun x81 S82 => wp_block S82 10 x81 (S82.1 50) (fun x84 S85 => wl_simple_260 v1 v3 Q K n (v4 + 1) (rm_pf S85 50 x84))))))
def wp_simple (S : rm_S) (a1 : Int32) (Q : rm_S → Prop) : Prop := ((a1 = 1 → wp_a S (fun x3 S4 => Q (rm_pf S4 49 ((2 * x3) + 1)))) ∧ (¬ a1 = 1 → ((a1 = 2 → (∃ n9 : Nat, wl_simple_116 a1 Q (fun w14 w15 S13 => ((¬ a1 = 2 → Q (rm_pf S13 50 w14)) ∧ (a1 = 2 → wp_field S13 w14 0 (fun x18 S19 => Q (rm_pf S19 49 x18))))) n9 (S.1 50) 0 S)) ∧ (¬ a1 = 2 → ((a1 = 3 → (vp_in (S.1 51) 40 ∧ Q (rm_pf (rm_pa S 52 ((S.1 51).toNatClampNeg) (S.1 49)) 51 ((S.1 51) + 1)))) ∧ (¬ a1 = 3 → ((a1 = 4 → wp_calculate S a1 (fun S24 => Q S24)) ∧ (¬ a1 = 4 → ((a1 = 5 → wp_calculate S a1 (fun S27 => Q S27)) ∧ (¬ a1 = 5 → ((a1 = 6 → wp_calculate S a1 (fun S30 => Q S30)) ∧ (¬ a1 = 6 → ((a1 = 7 → wp_calculate S a1 (fun S33 => Q S33)) ∧ (¬ a1 = 7 → ((a1 = 8 → wp_calculate S a1 (fun S36 => Q S36)) ∧ (¬ a1 = 8 → ((a1 = 9 → wp_a S (fun x39 S40 => wp_block S40 (a1 - 1) ((2 * x39) + 1) (S40.1 50) (fun x42 S43 => Q (rm_pf S43 49 x42)))) ∧ (¬ a1 = 9 → ((a1 = 10 → wp_a S (fun x46 S47 => wp_block S47 (a1 - 1) ((2 * x46) + 1) (S47.1 50) (fun x49 S50 => Q (rm_pf S50 49 x49)))) ∧ (¬ a1 = 10 → ((a1 = 11 → Q S) ∧ (¬ a1 = 11 → ((a1 = 12 → Q S) ∧ (¬ a1 = 12 → ((a1 = 13 → Q S) ∧ (¬ a1 = 13 → ((a1 = 14 → wp_block S 10 (S.1 49) (S.1 50) (fun x56 S57 => Q (rm_pf S57 50 x56))) ∧ (¬ a1 = 14 → ((a1 = 15 → (∃ n9 : Nat, wl_simple_116 a1 Q (fun w60 w61 S59 => ((¬ a1 = 2 → Q (rm_pf S59 50 w60)) ∧ (a1 = 2 → wp_field S59 w60 0 (fun x64 S65 => Q (rm_pf S65 49 x64))))) n9 (S.1 50) 0 S)) ∧ (¬ a1 = 15 → ((a1 = 16 → wp_a S (fun x68 S69 => Q (rm_pf S69 49 ((4 * x68) + 2)))) ∧ (¬ a1 = 16 → ((a1 = 17 → wp_make S (fun S72 => Q S72)) ∧ (¬ a1 = 17 → ((a1 = 18 → Q S) ∧ (¬ a1 = 18 → ((a1 = 19 → Q S) ∧ (¬ a1 = 19 → ((a1 = 20 → (∃ n9 : Nat, wl_simple_260 a1 (S.1 49) Q (fun w87 S86 => Q S86) n9 0 S)) ∧ (¬ a1 = 20 → Q S))))))))))))))))))))))))))))))))))))))))
set_option maxHeartbeats 4000000 in
set_option maxRecDepth 100000 in
theorem wl_simple_116_ok {mo : Nat} {ad : Nat → Nat} (hA : rm_A mo ad) {G0 : cj_G} {d k0 n0 k n9 : Nat} (hd9 : 2 ≤ d) (v1 : Int32) {Q : rm_S → Prop} {K : Int32 → Int32 → rm_S → Prop} (hK : ∀ (v2 : Int32) (v3 : Int32) (S : rm_S), K v2 v3 S → cj_J mX7_simple d k0 n0 (rm_post mo ad G0 Q) cj_no k n9 137 [(1, .int v1), (2, .int v2), (3, .int v3), (0, .ref mo)] [] (rm_md mo ad S G0)) : ∀ (n : Nat) (v2 : Int32) (v3 : Int32) (S : rm_S), wl_simple_116 v1 Q K n v2 v3 S → cj_J mX7_simple d k0 n0 (rm_post mo ad G0 Q) cj_no k n9 116 [(1, .int v1), (2, .int v2), (3, .int v3), (0, .ref mo)] [] (rm_md mo ad S G0) := by
  intro n
  induction n with
  | zero => intro v2 v3 S h; exact absurd h id
  | succ n ih =>
    intro v2 v3 S h
    unfold wl_simple_116 at h
    refine cj_iload_n dX7_simple_116 rfl ?_
    refine cj_aload_n dX7_simple_117 rfl ?_
    refine cj_callV (M' := mX7_a) (d' := 0) (k' := 0) (n' := 0) (index := 340) (np := 0) (As := []) (rest := [.int v3]) dX7_simple_118 lkX7_340 mwX7_a (tR_a hA h) (by omega) rfl rfl (Nat.le_of_ble_eq_true rfl) rm_mo rfl (fun v9 G9 q6 => ?_) (fun _ _ h => absurd h id)
    obtain ⟨x7, S8, e8, e9, h⟩ := q6
    subst e8
    subst e9
    refine cj_st (st' := [.int x7, .int v3]) rfl ?_
    refine cj_pc (pc' := 121) rfl ?_
    refine cj_icmp_ge (tgt := 137) dX7_simple_121 (by decide) (fun c9 => ?_) (fun c9 => ?_)
    · replace h := h.1 c9
      refine cj_sub (lv' := [(1, .int v1), (2, .int v2), (3, .int v3), (0, .ref mo)]) (by simp) ?_
      exact hK _ _ _ h
    · replace h := h.2 c9
      refine cj_aload_n dX7_simple_124 rfl ?_
      refine cj_iload_n dX7_simple_125 rfl ?_
      refine cj_iconst (v := 1) dX7_simple_126 (by decide) ?_
      refine cj_callV (M' := mX7_field) (d' := 0) (k' := 0) (n' := 0) (index := 356) (np := 2) (As := [.int v2, .int 1]) (rest := []) dX7_simple_127 lkX7_356 mwX7_field (tR_field hA h) (by omega) rfl rfl (Nat.le_of_ble_eq_true rfl) rm_mo rfl (fun v9 G9 q10 => ?_) (fun _ _ h => absurd h id)
      obtain ⟨x11, S12, e8, e9, h⟩ := q10
      subst e8
      subst e9
      refine cj_st (st' := [.int x11]) rfl ?_
      refine cj_pc (pc' := 130) rfl ?_
      refine cj_istore_n (lv' := [(2, .int x11), (1, .int v1), (3, .int v3), (0, .ref mo)]) dX7_simple_130 (by decide) rfl ?_
      refine cj_iinc (v := v3 + 1) (lv' := [(3, .int (v3 + 1)), (2, .int x11), (1, .int v1), (0, .ref mo)]) dX7_simple_131 rfl rfl (by decide) rfl ?_
      refine cj_goto (tgt := 116) dX7_simple_134 (by decide) ?_
      refine cj_sub (lv' := [(1, .int v1), (2, .int x11), (3, .int (v3 + 1)), (0, .ref mo)]) (by simp) ?_
      exact ih _ _ _ h
set_option maxHeartbeats 4000000 in
set_option maxRecDepth 100000 in
theorem wl_simple_260_ok {mo : Nat} {ad : Nat → Nat} (hA : rm_A mo ad) {G0 : cj_G} {d k0 n0 k n9 : Nat} (hd9 : 2 ≤ d) (v1 : Int32) (v3 : Int32) {Q : rm_S → Prop} {K : Int32 → rm_S → Prop} (hK : ∀ (v4 : Int32) (S : rm_S), K v4 S → cj_J mX7_simple d k0 n0 (rm_post mo ad G0 Q) cj_no k n9 296 [(1, .int v1), (3, .int v3), (4, .int v4), (0, .ref mo)] [] (rm_md mo ad S G0)) : ∀ (n : Nat) (v4 : Int32) (S : rm_S), wl_simple_260 v1 v3 Q K n v4 S → cj_J mX7_simple d k0 n0 (rm_post mo ad G0 Q) cj_no k n9 260 [(1, .int v1), (3, .int v3), (4, .int v4), (0, .ref mo)] [] (rm_md mo ad S G0) := by
  intro n
  induction n with
  | zero => intro v4 S h; exact absurd h id
  | succ n ih =>
    intro v4 S h
    unfold wl_simple_260 at h
    refine cj_iload dX7_simple_260 rfl ?_
    refine cj_aload_n dX7_simple_262 rfl ?_
    refine cj_pc (pc' := 263) rfl ?_
    refine cj_callV (M' := mX7_a) (d' := 0) (k' := 0) (n' := 0) (index := 340) (np := 0) (As := []) (rest := [.int v4]) dX7_simple_263 lkX7_340 mwX7_a (tR_a hA h) (by omega) rfl rfl (Nat.le_of_ble_eq_true rfl) rm_mo rfl (fun v9 G9 q76 => ?_) (fun _ _ h => absurd h id)
    obtain ⟨x77, S78, e8, e9, h⟩ := q76
    subst e8
    subst e9
    refine cj_st (st' := [.int x77, .int v4]) rfl ?_
    refine cj_icmp_ge (tgt := 296) dX7_simple_266 (by decide) (fun c79 => ?_) (fun c79 => ?_)
    · replace h := h.1 c79
      refine cj_sub (lv' := [(1, .int v1), (3, .int v3), (4, .int v4), (0, .ref mo)]) (by simp) ?_
      exact hK _ _ h
    · replace h := h.2 c79
      refine cj_aload_n dX7_simple_269 rfl ?_
      refine cj_aload_n dX7_simple_270 rfl ?_
      refine cj_bipush (v := 10) dX7_simple_271 (by decide) ?_
      refine cj_pc (pc' := 273) rfl ?_
      refine cj_aload_n dX7_simple_273 rfl ?_
      refine cj_iload_n dX7_simple_274 rfl ?_
      refine cj_iload dX7_simple_275 rfl ?_
      refine cj_callV (M' := mX7_field) (d' := 0) (k' := 0) (n' := 0) (index := 356) (np := 2) (As := [.int v3, .int v4]) (rest := [.int 10, .ref mo, .ref mo]) dX7_simple_277 lkX7_356 mwX7_field (tR_field hA h) (by omega) rfl rfl (Nat.le_of_ble_eq_true rfl) rm_mo rfl (fun v9 G9 q80 => ?_) (fun _ _ h => absurd h id)
      obtain ⟨x81, S82, e8, e9, h⟩ := q80
      subst e8
      subst e9
      refine cj_st (st' := [.int x81, .int 10, .ref mo, .ref mo]) rfl ?_
      refine cj_aload_n dX7_simple_280 rfl ?_
      refine cj_pc (pc' := 281) rfl ?_
      refine rm_get (.int (S82.1 50)) flX7_103 dX7_simple_281 rfl ?_
      refine cj_callV (M' := mX7_block) (d' := 0) (k' := 0) (n' := 0) (index := 359) (np := 3) (As := [.int 10, .int x81, .int (S82.1 50)]) (rest := [.ref mo]) dX7_simple_284 lkX7_359 mwX7_block (tR_block hA h) (by omega) rfl rfl (Nat.le_of_ble_eq_true rfl) rm_mo rfl (fun v9 G9 q83 => ?_) (fun _ _ h => absurd h id)
      obtain ⟨x84, S85, e8, e9, h⟩ := q83
      subst e8
      subst e9
      refine cj_st (st' := [.int x84, .ref mo]) rfl ?_
      refine rm_put flX7_103 dX7_simple_287 rmp_50 rfl rfl (by decide) ?_
      refine cj_iinc (v := v4 + 1) (lv' := [(4, .int (v4 + 1)), (1, .int v1), (3, .int v3), (0, .ref mo)]) dX7_simple_290 rfl rfl (by decide) rfl ?_
      refine cj_goto (tgt := 260) dX7_simple_293 (by decide) ?_
      refine cj_sub (lv' := [(1, .int v1), (3, .int v3), (4, .int (v4 + 1)), (0, .ref mo)]) (by simp) ?_
      exact ih _ _ h
set_option maxHeartbeats 4000000 in
set_option maxRecDepth 100000 in
theorem tR_simple {mo : Nat} {ad : Nat → Nat} (hA : rm_A mo ad) {G0 : cj_G} {S : rm_S} {a1 : Int32} {Q : rm_S → Prop} (h : wp_simple S a1 Q) : cj_T mX7_simple 2 0 0 [.ref mo, .int a1] (rm_md mo ad S G0) (rm_post mo ad G0 Q) cj_no := by
  refine cj_T_of (by decide +kernel) (Nat.le_of_ble_eq_true rfl) ?_
  refine cj_lvs (lv' := [(0, .ref mo), (1, .int a1)]) rfl ?_
  unfold wp_simple at h
  refine cj_iload_n dX7_simple_0 rfl ?_
  by_cases c1 : a1 = 1
  · replace h := h.1 c1
    refine cj_tableIn (off := 95) (tgt := 96) dX7_simple_1 (by rw [c1]; decide +kernel) (by rw [c1]; decide +kernel) (by rw [c1]; decide +kernel) (by decide +kernel) ?_
    refine cj_aload_n dX7_simple_96 rfl ?_
    refine cj_iconst (v := 2) dX7_simple_97 (by decide) ?_
    refine cj_pc (pc' := 98) rfl ?_
    refine cj_aload_n dX7_simple_98 rfl ?_
    refine cj_callV (M' := mX7_a) (d' := 0) (k' := 0) (n' := 0) (index := 340) (np := 0) (As := []) (rest := [.int 2, .ref mo]) dX7_simple_99 lkX7_340 mwX7_a (tR_a hA h) (by omega) rfl rfl (Nat.le_of_ble_eq_true rfl) rm_mo rfl (fun v9 G9 q2 => ?_) (fun _ _ h => absurd h id)
    obtain ⟨x3, S4, e8, e9, h⟩ := q2
    subst e8
    subst e9
    refine cj_st (st' := [.int x3, .int 2, .ref mo]) rfl ?_
    refine cj_imul dX7_simple_102 ?_
    refine cj_iconst (v := 1) dX7_simple_103 (by decide) ?_
    refine cj_iadd dX7_simple_104 ?_
    refine cj_pc (pc' := 105) rfl ?_
    refine rm_put flX7_100 dX7_simple_105 rmp_49 rfl rfl (by decide) ?_
    refine cj_vret rfl dX7_simple_108 ?_
    exact ⟨_, rfl, rfl, h⟩
  · replace h := h.2 c1
    by_cases c5 : a1 = 2
    · replace h := h.1 c5
      refine cj_tableIn (off := 108) (tgt := 109) dX7_simple_1 (by rw [c5]; decide +kernel) (by rw [c5]; decide +kernel) (by rw [c5]; decide +kernel) (by decide +kernel) ?_
      refine cj_aload_n dX7_simple_109 rfl ?_
      refine rm_get (.int (S.1 50)) flX7_103 dX7_simple_110 rfl ?_
      refine cj_istore_n (lv' := [(2, .int (S.1 50)), (0, .ref mo), (1, .int a1)]) dX7_simple_113 (by decide) rfl ?_
      refine cj_pc (pc' := 114) rfl ?_
      refine cj_iconst (v := 0) dX7_simple_114 (by decide) ?_
      refine cj_istore_n (lv' := [(3, .int 0), (2, .int (S.1 50)), (0, .ref mo), (1, .int a1)]) dX7_simple_115 (by decide) rfl ?_
      obtain ⟨n9, h⟩ := h
      refine cj_sub (lv' := [(1, .int a1), (2, .int (S.1 50)), (3, .int 0), (0, .ref mo)]) (by simp) ?_
      refine wl_simple_116_ok hA (by omega) _ ?_ n9 _ _ _ h
      clear h
      intro w14 w15 S13 h
      refine cj_iload_n dX7_simple_137 rfl ?_
      refine cj_iconst (v := 2) dX7_simple_138 (by decide) ?_
      refine cj_pc (pc' := 139) rfl ?_
      refine cj_icmp_ne (tgt := 155) dX7_simple_139 (by decide) (fun c16 => ?_) (fun c16 => ?_)
      · replace h := h.1 c16
        refine cj_aload_n dX7_simple_155 rfl ?_
        refine cj_iload_n dX7_simple_156 rfl ?_
        refine rm_put flX7_103 dX7_simple_157 rmp_50 rfl rfl (by decide) ?_
        refine cj_vret rfl dX7_simple_160 ?_
        exact ⟨_, rfl, rfl, h⟩
      · replace h := h.2 c16
        refine cj_aload_n dX7_simple_142 rfl ?_
        refine cj_pc (pc' := 143) rfl ?_
        refine cj_aload_n dX7_simple_143 rfl ?_
        refine cj_iload_n dX7_simple_144 rfl ?_
        refine cj_iconst (v := 0) dX7_simple_145 (by decide) ?_
        refine cj_callV (M' := mX7_field) (d' := 0) (k' := 0) (n' := 0) (index := 356) (np := 2) (As := [.int w14, .int 0]) (rest := [.ref mo]) dX7_simple_146 lkX7_356 mwX7_field (tR_field hA h) (by omega) rfl rfl (Nat.le_of_ble_eq_true rfl) rm_mo rfl (fun v9 G9 q17 => ?_) (fun _ _ h => absurd h id)
        obtain ⟨x18, S19, e8, e9, h⟩ := q17
        subst e8
        subst e9
        refine cj_st (st' := [.int x18, .ref mo]) rfl ?_
        refine rm_put flX7_100 dX7_simple_149 rmp_49 rfl rfl (by decide) ?_
        refine cj_pc (pc' := 152) rfl ?_
        refine cj_goto (tgt := 160) dX7_simple_152 (by decide) ?_
        refine cj_vret rfl dX7_simple_160 ?_
        exact ⟨_, rfl, rfl, h⟩
    · replace h := h.2 c5
      by_cases c20 : a1 = 3
      · replace h := h.1 c20
        refine cj_tableIn (off := 160) (tgt := 161) dX7_simple_1 (by rw [c20]; decide +kernel) (by rw [c20]; decide +kernel) (by rw [c20]; decide +kernel) (by decide +kernel) ?_
        refine cj_aload_n dX7_simple_161 rfl ?_
        refine rm_get (.ref (ad 52)) flX7_106 dX7_simple_162 rfl ?_
        refine cj_aload_n dX7_simple_165 rfl ?_
        refine cj_pc (pc' := 166) rfl ?_
        refine rm_get (.int (S.1 51)) flX7_306 dX7_simple_166 rfl ?_
        refine cj_aload_n dX7_simple_169 rfl ?_
        refine rm_get (.int (S.1 49)) flX7_100 dX7_simple_170 rfl ?_
        have i21 := h.1
        replace h := h.2
        refine rm_iast (j := 52) hA rfl dX7_simple_173 i21 ?_
        refine cj_aload_n dX7_simple_174 rfl ?_
        refine cj_pc (pc' := 175) rfl ?_
        refine cj_dup dX7_simple_175 rfl ?_
        refine rm_get (.int (S.1 51)) flX7_306 dX7_simple_176 rfl ?_
        refine cj_iconst (v := 1) dX7_simple_179 (by decide) ?_
        refine cj_iadd dX7_simple_180 ?_
        refine rm_put flX7_306 dX7_simple_181 rmp_51 rfl rfl (by decide) ?_
        refine cj_pc (pc' := 184) rfl ?_
        refine cj_vret rfl dX7_simple_184 ?_
        exact ⟨_, rfl, rfl, h⟩
      · replace h := h.2 c20
        by_cases c22 : a1 = 4
        · replace h := h.1 c22
          refine cj_tableIn (off := 184) (tgt := 185) dX7_simple_1 (by rw [c22]; decide +kernel) (by rw [c22]; decide +kernel) (by rw [c22]; decide +kernel) (by decide +kernel) ?_
          refine cj_aload_n dX7_simple_185 rfl ?_
          refine cj_iload_n dX7_simple_186 rfl ?_
          refine cj_callV (M' := mX7_calculate) (d' := 0) (k' := 0) (n' := 0) (index := 363) (np := 1) (As := [.int a1]) (rest := []) dX7_simple_187 lkX7_363 mwX7_calculate (tR_calculate hA h) (by omega) rfl rfl (Nat.le_of_ble_eq_true rfl) rm_mo rfl (fun v9 G9 q23 => ?_) (fun _ _ h => absurd h id)
          obtain ⟨S24, e8, e9, h⟩ := q23
          subst e8
          subst e9
          refine cj_st (st' := []) rfl ?_
          refine cj_vret rfl dX7_simple_190 ?_
          exact ⟨_, rfl, rfl, h⟩
        · replace h := h.2 c22
          by_cases c25 : a1 = 5
          · replace h := h.1 c25
            refine cj_tableIn (off := 184) (tgt := 185) dX7_simple_1 (by rw [c25]; decide +kernel) (by rw [c25]; decide +kernel) (by rw [c25]; decide +kernel) (by decide +kernel) ?_
            refine cj_aload_n dX7_simple_185 rfl ?_
            refine cj_pc (pc' := 186) rfl ?_
            refine cj_iload_n dX7_simple_186 rfl ?_
            refine cj_callV (M' := mX7_calculate) (d' := 0) (k' := 0) (n' := 0) (index := 363) (np := 1) (As := [.int a1]) (rest := []) dX7_simple_187 lkX7_363 mwX7_calculate (tR_calculate hA h) (by omega) rfl rfl (Nat.le_of_ble_eq_true rfl) rm_mo rfl (fun v9 G9 q26 => ?_) (fun _ _ h => absurd h id)
            obtain ⟨S27, e8, e9, h⟩ := q26
            subst e8
            subst e9
            refine cj_st (st' := []) rfl ?_
            refine cj_vret rfl dX7_simple_190 ?_
            exact ⟨_, rfl, rfl, h⟩
          · replace h := h.2 c25
            by_cases c28 : a1 = 6
            · replace h := h.1 c28
              refine cj_tableIn (off := 184) (tgt := 185) dX7_simple_1 (by rw [c28]; decide +kernel) (by rw [c28]; decide +kernel) (by rw [c28]; decide +kernel) (by decide +kernel) ?_
              refine cj_aload_n dX7_simple_185 rfl ?_
              refine cj_iload_n dX7_simple_186 rfl ?_
              refine cj_pc (pc' := 187) rfl ?_
              refine cj_callV (M' := mX7_calculate) (d' := 0) (k' := 0) (n' := 0) (index := 363) (np := 1) (As := [.int a1]) (rest := []) dX7_simple_187 lkX7_363 mwX7_calculate (tR_calculate hA h) (by omega) rfl rfl (Nat.le_of_ble_eq_true rfl) rm_mo rfl (fun v9 G9 q29 => ?_) (fun _ _ h => absurd h id)
              obtain ⟨S30, e8, e9, h⟩ := q29
              subst e8
              subst e9
              refine cj_st (st' := []) rfl ?_
              refine cj_vret rfl dX7_simple_190 ?_
              exact ⟨_, rfl, rfl, h⟩
            · replace h := h.2 c28
              by_cases c31 : a1 = 7
              · replace h := h.1 c31
                refine cj_tableIn (off := 184) (tgt := 185) dX7_simple_1 (by rw [c31]; decide +kernel) (by rw [c31]; decide +kernel) (by rw [c31]; decide +kernel) (by decide +kernel) ?_
                refine cj_aload_n dX7_simple_185 rfl ?_
                refine cj_iload_n dX7_simple_186 rfl ?_
                refine cj_callV (M' := mX7_calculate) (d' := 0) (k' := 0) (n' := 0) (index := 363) (np := 1) (As := [.int a1]) (rest := []) dX7_simple_187 lkX7_363 mwX7_calculate (tR_calculate hA h) (by omega) rfl rfl (Nat.le_of_ble_eq_true rfl) rm_mo rfl (fun v9 G9 q32 => ?_) (fun _ _ h => absurd h id)
                obtain ⟨S33, e8, e9, h⟩ := q32
                subst e8
                subst e9
                refine cj_st (st' := []) rfl ?_
                refine cj_pc (pc' := 190) rfl ?_
                refine cj_vret rfl dX7_simple_190 ?_
                exact ⟨_, rfl, rfl, h⟩
              · replace h := h.2 c31
                by_cases c34 : a1 = 8
                · replace h := h.1 c34
                  refine cj_tableIn (off := 184) (tgt := 185) dX7_simple_1 (by rw [c34]; decide +kernel) (by rw [c34]; decide +kernel) (by rw [c34]; decide +kernel) (by decide +kernel) ?_
                  refine cj_aload_n dX7_simple_185 rfl ?_
                  refine cj_iload_n dX7_simple_186 rfl ?_
                  refine cj_callV (M' := mX7_calculate) (d' := 0) (k' := 0) (n' := 0) (index := 363) (np := 1) (As := [.int a1]) (rest := []) dX7_simple_187 lkX7_363 mwX7_calculate (tR_calculate hA h) (by omega) rfl rfl (Nat.le_of_ble_eq_true rfl) rm_mo rfl (fun v9 G9 q35 => ?_) (fun _ _ h => absurd h id)
                  obtain ⟨S36, e8, e9, h⟩ := q35
                  subst e8
                  subst e9
                  refine cj_st (st' := []) rfl ?_
                  refine cj_vret rfl dX7_simple_190 ?_
                  exact ⟨_, rfl, rfl, h⟩
                · replace h := h.2 c34
                  by_cases c37 : a1 = 9
                  · replace h := h.1 c37
                    refine cj_tableIn (off := 190) (tgt := 191) dX7_simple_1 (by rw [c37]; decide +kernel) (by rw [c37]; decide +kernel) (by rw [c37]; decide +kernel) (by decide +kernel) ?_
                    refine cj_aload_n dX7_simple_191 rfl ?_
                    refine cj_pc (pc' := 192) rfl ?_
                    refine cj_aload_n dX7_simple_192 rfl ?_
                    refine cj_iload_n dX7_simple_193 rfl ?_
                    refine cj_iconst (v := 1) dX7_simple_194 (by decide) ?_
                    refine cj_isub dX7_simple_195 ?_
                    refine cj_iconst (v := 2) dX7_simple_196 (by decide) ?_
                    refine cj_pc (pc' := 197) rfl ?_
                    refine cj_aload_n dX7_simple_197 rfl ?_
                    refine cj_callV (M' := mX7_a) (d' := 0) (k' := 0) (n' := 0) (index := 340) (np := 0) (As := []) (rest := [.int 2, .int (a1 - 1), .ref mo, .ref mo]) dX7_simple_198 lkX7_340 mwX7_a (tR_a hA h) (by omega) rfl rfl (Nat.le_of_ble_eq_true rfl) rm_mo rfl (fun v9 G9 q38 => ?_) (fun _ _ h => absurd h id)
                    obtain ⟨x39, S40, e8, e9, h⟩ := q38
                    subst e8
                    subst e9
                    refine cj_st (st' := [.int x39, .int 2, .int (a1 - 1), .ref mo, .ref mo]) rfl ?_
                    refine cj_imul dX7_simple_201 ?_
                    refine cj_iconst (v := 1) dX7_simple_202 (by decide) ?_
                    refine cj_iadd dX7_simple_203 ?_
                    refine cj_pc (pc' := 204) rfl ?_
                    refine cj_aload_n dX7_simple_204 rfl ?_
                    refine rm_get (.int (S40.1 50)) flX7_103 dX7_simple_205 rfl ?_
                    refine cj_callV (M' := mX7_block) (d' := 0) (k' := 0) (n' := 0) (index := 359) (np := 3) (As := [.int (a1 - 1), .int ((2 * x39) + 1), .int (S40.1 50)]) (rest := [.ref mo]) dX7_simple_208 lkX7_359 mwX7_block (tR_block hA h) (by omega) rfl rfl (Nat.le_of_ble_eq_true rfl) rm_mo rfl (fun v9 G9 q41 => ?_) (fun _ _ h => absurd h id)
                    obtain ⟨x42, S43, e8, e9, h⟩ := q41
                    subst e8
                    subst e9
                    refine cj_st (st' := [.int x42, .ref mo]) rfl ?_
                    refine rm_put flX7_100 dX7_simple_211 rmp_49 rfl rfl (by decide) ?_
                    refine cj_vret rfl dX7_simple_214 ?_
                    exact ⟨_, rfl, rfl, h⟩
                  · replace h := h.2 c37
                    by_cases c44 : a1 = 10
                    · replace h := h.1 c44
                      refine cj_tableIn (off := 190) (tgt := 191) dX7_simple_1 (by rw [c44]; decide +kernel) (by rw [c44]; decide +kernel) (by rw [c44]; decide +kernel) (by decide +kernel) ?_
                      refine cj_aload_n dX7_simple_191 rfl ?_
                      refine cj_pc (pc' := 192) rfl ?_
                      refine cj_aload_n dX7_simple_192 rfl ?_
                      refine cj_iload_n dX7_simple_193 rfl ?_
                      refine cj_iconst (v := 1) dX7_simple_194 (by decide) ?_
                      refine cj_isub dX7_simple_195 ?_
                      refine cj_iconst (v := 2) dX7_simple_196 (by decide) ?_
                      refine cj_pc (pc' := 197) rfl ?_
                      refine cj_aload_n dX7_simple_197 rfl ?_
                      refine cj_callV (M' := mX7_a) (d' := 0) (k' := 0) (n' := 0) (index := 340) (np := 0) (As := []) (rest := [.int 2, .int (a1 - 1), .ref mo, .ref mo]) dX7_simple_198 lkX7_340 mwX7_a (tR_a hA h) (by omega) rfl rfl (Nat.le_of_ble_eq_true rfl) rm_mo rfl (fun v9 G9 q45 => ?_) (fun _ _ h => absurd h id)
                      obtain ⟨x46, S47, e8, e9, h⟩ := q45
                      subst e8
                      subst e9
                      refine cj_st (st' := [.int x46, .int 2, .int (a1 - 1), .ref mo, .ref mo]) rfl ?_
                      refine cj_imul dX7_simple_201 ?_
                      refine cj_iconst (v := 1) dX7_simple_202 (by decide) ?_
                      refine cj_iadd dX7_simple_203 ?_
                      refine cj_pc (pc' := 204) rfl ?_
                      refine cj_aload_n dX7_simple_204 rfl ?_
                      refine rm_get (.int (S47.1 50)) flX7_103 dX7_simple_205 rfl ?_
                      refine cj_callV (M' := mX7_block) (d' := 0) (k' := 0) (n' := 0) (index := 359) (np := 3) (As := [.int (a1 - 1), .int ((2 * x46) + 1), .int (S47.1 50)]) (rest := [.ref mo]) dX7_simple_208 lkX7_359 mwX7_block (tR_block hA h) (by omega) rfl rfl (Nat.le_of_ble_eq_true rfl) rm_mo rfl (fun v9 G9 q48 => ?_) (fun _ _ h => absurd h id)
                      obtain ⟨x49, S50, e8, e9, h⟩ := q48
                      subst e8
                      subst e9
                      refine cj_st (st' := [.int x49, .ref mo]) rfl ?_
                      refine rm_put flX7_100 dX7_simple_211 rmp_49 rfl rfl (by decide) ?_
                      refine cj_vret rfl dX7_simple_214 ?_
                      exact ⟨_, rfl, rfl, h⟩
                    · replace h := h.2 c44
                      by_cases c51 : a1 = 11
                      · replace h := h.1 c51
                        refine cj_tableIn (off := 296) (tgt := 297) dX7_simple_1 (by rw [c51]; decide +kernel) (by rw [c51]; decide +kernel) (by rw [c51]; decide +kernel) (by decide +kernel) ?_
                        refine cj_vret rfl dX7_simple_297 ?_
                        exact ⟨_, rfl, rfl, h⟩
                      · replace h := h.2 c51
                        by_cases c52 : a1 = 12
                        · replace h := h.1 c52
                          refine cj_tableIn (off := 296) (tgt := 297) dX7_simple_1 (by rw [c52]; decide +kernel) (by rw [c52]; decide +kernel) (by rw [c52]; decide +kernel) (by decide +kernel) ?_
                          refine cj_vret rfl dX7_simple_297 ?_
                          exact ⟨_, rfl, rfl, h⟩
                        · replace h := h.2 c52
                          by_cases c53 : a1 = 13
                          · replace h := h.1 c53
                            refine cj_tableIn (off := 296) (tgt := 297) dX7_simple_1 (by rw [c53]; decide +kernel) (by rw [c53]; decide +kernel) (by rw [c53]; decide +kernel) (by decide +kernel) ?_
                            refine cj_vret rfl dX7_simple_297 ?_
                            exact ⟨_, rfl, rfl, h⟩
                          · replace h := h.2 c53
                            by_cases c54 : a1 = 14
                            · replace h := h.1 c54
                              refine cj_tableIn (off := 214) (tgt := 215) dX7_simple_1 (by rw [c54]; decide +kernel) (by rw [c54]; decide +kernel) (by rw [c54]; decide +kernel) (by decide +kernel) ?_
                              refine cj_aload_n dX7_simple_215 rfl ?_
                              refine cj_pc (pc' := 216) rfl ?_
                              refine cj_aload_n dX7_simple_216 rfl ?_
                              refine cj_bipush (v := 10) dX7_simple_217 (by decide) ?_
                              refine cj_aload_n dX7_simple_219 rfl ?_
                              refine rm_get (.int (S.1 49)) flX7_100 dX7_simple_220 rfl ?_
                              refine cj_aload_n dX7_simple_223 rfl ?_
                              refine cj_pc (pc' := 224) rfl ?_
                              refine rm_get (.int (S.1 50)) flX7_103 dX7_simple_224 rfl ?_
                              refine cj_callV (M' := mX7_block) (d' := 0) (k' := 0) (n' := 0) (index := 359) (np := 3) (As := [.int 10, .int (S.1 49), .int (S.1 50)]) (rest := [.ref mo]) dX7_simple_227 lkX7_359 mwX7_block (tR_block hA h) (by omega) rfl rfl (Nat.le_of_ble_eq_true rfl) rm_mo rfl (fun v9 G9 q55 => ?_) (fun _ _ h => absurd h id)
                              obtain ⟨x56, S57, e8, e9, h⟩ := q55
                              subst e8
                              subst e9
                              refine cj_st (st' := [.int x56, .ref mo]) rfl ?_
                              refine rm_put flX7_103 dX7_simple_230 rmp_50 rfl rfl (by decide) ?_
                              refine cj_vret rfl dX7_simple_233 ?_
                              exact ⟨_, rfl, rfl, h⟩
                            · replace h := h.2 c54
                              by_cases c58 : a1 = 15
                              · replace h := h.1 c58
                                refine cj_tableIn (off := 108) (tgt := 109) dX7_simple_1 (by rw [c58]; decide +kernel) (by rw [c58]; decide +kernel) (by rw [c58]; decide +kernel) (by decide +kernel) ?_
                                refine cj_aload_n dX7_simple_109 rfl ?_
                                refine cj_pc (pc' := 110) rfl ?_
                                refine rm_get (.int (S.1 50)) flX7_103 dX7_simple_110 rfl ?_
                                refine cj_istore_n (lv' := [(2, .int (S.1 50)), (0, .ref mo), (1, .int a1)]) dX7_simple_113 (by decide) rfl ?_
                                refine cj_iconst (v := 0) dX7_simple_114 (by decide) ?_
                                refine cj_istore_n (lv' := [(3, .int 0), (2, .int (S.1 50)), (0, .ref mo), (1, .int a1)]) dX7_simple_115 (by decide) rfl ?_
                                obtain ⟨n9, h⟩ := h
                                refine cj_sub (lv' := [(1, .int a1), (2, .int (S.1 50)), (3, .int 0), (0, .ref mo)]) (by simp) ?_
                                refine wl_simple_116_ok hA (by omega) _ ?_ n9 _ _ _ h
                                clear h
                                intro w60 w61 S59 h
                                refine cj_iload_n dX7_simple_137 rfl ?_
                                refine cj_pc (pc' := 138) rfl ?_
                                refine cj_iconst (v := 2) dX7_simple_138 (by decide) ?_
                                refine cj_icmp_ne (tgt := 155) dX7_simple_139 (by decide) (fun c62 => ?_) (fun c62 => ?_)
                                · replace h := h.1 c62
                                  refine cj_aload_n dX7_simple_155 rfl ?_
                                  refine cj_iload_n dX7_simple_156 rfl ?_
                                  refine rm_put flX7_103 dX7_simple_157 rmp_50 rfl rfl (by decide) ?_
                                  refine cj_pc (pc' := 160) rfl ?_
                                  refine cj_vret rfl dX7_simple_160 ?_
                                  exact ⟨_, rfl, rfl, h⟩
                                · replace h := h.2 c62
                                  refine cj_aload_n dX7_simple_142 rfl ?_
                                  refine cj_aload_n dX7_simple_143 rfl ?_
                                  refine cj_iload_n dX7_simple_144 rfl ?_
                                  refine cj_iconst (v := 0) dX7_simple_145 (by decide) ?_
                                  refine cj_pc (pc' := 146) rfl ?_
                                  refine cj_callV (M' := mX7_field) (d' := 0) (k' := 0) (n' := 0) (index := 356) (np := 2) (As := [.int w60, .int 0]) (rest := [.ref mo]) dX7_simple_146 lkX7_356 mwX7_field (tR_field hA h) (by omega) rfl rfl (Nat.le_of_ble_eq_true rfl) rm_mo rfl (fun v9 G9 q63 => ?_) (fun _ _ h => absurd h id)
                                  obtain ⟨x64, S65, e8, e9, h⟩ := q63
                                  subst e8
                                  subst e9
                                  refine cj_st (st' := [.int x64, .ref mo]) rfl ?_
                                  refine rm_put flX7_100 dX7_simple_149 rmp_49 rfl rfl (by decide) ?_
                                  refine cj_goto (tgt := 160) dX7_simple_152 (by decide) ?_
                                  refine cj_vret rfl dX7_simple_160 ?_
                                  exact ⟨_, rfl, rfl, h⟩
                              · replace h := h.2 c58
                                by_cases c66 : a1 = 16
                                · replace h := h.1 c66
                                  refine cj_tableIn (off := 233) (tgt := 234) dX7_simple_1 (by rw [c66]; decide +kernel) (by rw [c66]; decide +kernel) (by rw [c66]; decide +kernel) (by decide +kernel) ?_
                                  refine cj_aload_n dX7_simple_234 rfl ?_
                                  refine cj_pc (pc' := 235) rfl ?_
                                  refine cj_iconst (v := 4) dX7_simple_235 (by decide) ?_
                                  refine cj_aload_n dX7_simple_236 rfl ?_
                                  refine cj_callV (M' := mX7_a) (d' := 0) (k' := 0) (n' := 0) (index := 340) (np := 0) (As := []) (rest := [.int 4, .ref mo]) dX7_simple_237 lkX7_340 mwX7_a (tR_a hA h) (by omega) rfl rfl (Nat.le_of_ble_eq_true rfl) rm_mo rfl (fun v9 G9 q67 => ?_) (fun _ _ h => absurd h id)
                                  obtain ⟨x68, S69, e8, e9, h⟩ := q67
                                  subst e8
                                  subst e9
                                  refine cj_st (st' := [.int x68, .int 4, .ref mo]) rfl ?_
                                  refine cj_imul dX7_simple_240 ?_
                                  refine cj_iconst (v := 2) dX7_simple_241 (by decide) ?_
                                  refine cj_pc (pc' := 242) rfl ?_
                                  refine cj_iadd dX7_simple_242 ?_
                                  refine rm_put flX7_100 dX7_simple_243 rmp_49 rfl rfl (by decide) ?_
                                  refine cj_vret rfl dX7_simple_246 ?_
                                  exact ⟨_, rfl, rfl, h⟩
                                · replace h := h.2 c66
                                  by_cases c70 : a1 = 17
                                  · replace h := h.1 c70
                                    refine cj_tableIn (off := 246) (tgt := 247) dX7_simple_1 (by rw [c70]; decide +kernel) (by rw [c70]; decide +kernel) (by rw [c70]; decide +kernel) (by decide +kernel) ?_
                                    refine cj_aload_n dX7_simple_247 rfl ?_
                                    refine cj_callV (M' := mX7_make) (d' := 1) (k' := 0) (n' := 0) (index := 366) (np := 0) (As := []) (rest := []) dX7_simple_248 lkX7_366 mwX7_make (tR_make hA h) (by omega) rfl rfl (Nat.le_of_ble_eq_true rfl) rm_mo rfl (fun v9 G9 q71 => ?_) (fun _ _ h => absurd h id)
                                    obtain ⟨S72, e8, e9, h⟩ := q71
                                    subst e8
                                    subst e9
                                    refine cj_st (st' := []) rfl ?_
                                    refine cj_pc (pc' := 251) rfl ?_
                                    refine cj_vret rfl dX7_simple_251 ?_
                                    exact ⟨_, rfl, rfl, h⟩
                                  · replace h := h.2 c70
                                    by_cases c73 : a1 = 18
                                    · replace h := h.1 c73
                                      refine cj_tableIn (off := 296) (tgt := 297) dX7_simple_1 (by rw [c73]; decide +kernel) (by rw [c73]; decide +kernel) (by rw [c73]; decide +kernel) (by decide +kernel) ?_
                                      refine cj_vret rfl dX7_simple_297 ?_
                                      exact ⟨_, rfl, rfl, h⟩
                                    · replace h := h.2 c73
                                      by_cases c74 : a1 = 19
                                      · replace h := h.1 c74
                                        refine cj_tableIn (off := 296) (tgt := 297) dX7_simple_1 (by rw [c74]; decide +kernel) (by rw [c74]; decide +kernel) (by rw [c74]; decide +kernel) (by decide +kernel) ?_
                                        refine cj_vret rfl dX7_simple_297 ?_
                                        exact ⟨_, rfl, rfl, h⟩
                                      · replace h := h.2 c74
                                        by_cases c75 : a1 = 20
                                        · replace h := h.1 c75
                                          refine cj_tableIn (off := 251) (tgt := 252) dX7_simple_1 (by rw [c75]; decide +kernel) (by rw [c75]; decide +kernel) (by rw [c75]; decide +kernel) (by decide +kernel) ?_
                                          refine cj_aload_n dX7_simple_252 rfl ?_
                                          refine rm_get (.int (S.1 49)) flX7_100 dX7_simple_253 rfl ?_
                                          refine cj_pc (pc' := 256) rfl ?_
                                          refine cj_istore_n (lv' := [(3, .int (S.1 49)), (0, .ref mo), (1, .int a1)]) dX7_simple_256 (by decide) rfl ?_
                                          refine cj_iconst (v := 0) dX7_simple_257 (by decide) ?_
                                          refine cj_istore (lv' := [(4, .int 0), (3, .int (S.1 49)), (0, .ref mo), (1, .int a1)]) dX7_simple_258 (by decide) rfl ?_
                                          obtain ⟨n9, h⟩ := h
                                          refine cj_sub (lv' := [(1, .int a1), (3, .int (S.1 49)), (4, .int 0), (0, .ref mo)]) (by simp) ?_
                                          refine wl_simple_260_ok hA (by omega) _ _ ?_ n9 _ _ h
                                          clear h
                                          intro w87 S86 h
                                          refine cj_vret rfl dX7_simple_296 ?_
                                          exact ⟨_, rfl, rfl, h⟩
                                        · replace h := h.2 c75
                                          refine cj_tableOut (tgt := 297) dX7_simple_1 (by have h9_1 := rm_sw (k := 1) (by decide) c1; have h9_2 := rm_sw (k := 2) (by decide) c5; have h9_3 := rm_sw (k := 3) (by decide) c20; have h9_4 := rm_sw (k := 4) (by decide) c22; have h9_5 := rm_sw (k := 5) (by decide) c25; have h9_6 := rm_sw (k := 6) (by decide) c28; have h9_7 := rm_sw (k := 7) (by decide) c31; have h9_8 := rm_sw (k := 8) (by decide) c34; have h9_9 := rm_sw (k := 9) (by decide) c37; have h9_10 := rm_sw (k := 10) (by decide) c44; have h9_11 := rm_sw (k := 11) (by decide) c51; have h9_12 := rm_sw (k := 12) (by decide) c52; have h9_13 := rm_sw (k := 13) (by decide) c53; have h9_14 := rm_sw (k := 14) (by decide) c54; have h9_15 := rm_sw (k := 15) (by decide) c58; have h9_16 := rm_sw (k := 16) (by decide) c66; have h9_17 := rm_sw (k := 17) (by decide) c70; have h9_18 := rm_sw (k := 18) (by decide) c73; have h9_19 := rm_sw (k := 19) (by decide) c74; have h9_20 := rm_sw (k := 20) (by decide) c75; omega) (by decide +kernel) ?_
                                          refine cj_vret rfl dX7_simple_297 ?_
                                          exact ⟨_, rfl, rfl, h⟩
def wp_one (S : rm_S) (Q : Int32 → rm_S → Prop) : Prop := (vp_in (3 * (S.1 53)) 372 ∧ wp_wrong S ((S.2 38) ((3 * (S.1 53)).toNatClampNeg)) (fun x3 S4 => ((x3 = 0 → wp_roomFor S4 ((S.2 38) ((3 * (S.1 53)).toNatClampNeg)) (fun x7 S8 => ((x7 ≤ 0 → ((¬ ((S.2 38) ((3 * (S.1 53)).toNatClampNeg)) = 0 → ((¬ ((S.2 38) ((3 * (S.1 53)).toNatClampNeg)) = 11 → ((¬ ((S.2 38) ((3 * (S.1 53)).toNatClampNeg)) = 18 → ((¬ ((S.2 38) ((3 * (S.1 53)).toNatClampNeg)) = 13 → ((¬ ((S.2 38) ((3 * (S.1 53)).toNatClampNeg)) = 12 → wp_simple S8 ((S.2 38) ((3 * (S.1 53)).toNatClampNeg)) (fun S16 => Q 0 (rm_pf S16 53 ((S16.1 53) + 1)))) ∧ (((S.2 38) ((3 * (S.1 53)).toNatClampNeg)) = 12 → (vp_in ((S8.1 51) - 2) 40 ∧ (vp_in (((S8.1 51) - 2) + 1) 40 ∧ Q 0 (rm_pf (rm_pf (rm_pf S8 51 ((S8.1 51) - 2)) 50 ((S8.2 52) (((S8.1 51) - 2).toNatClampNeg))) 53 (((S8.2 52) ((((S8.1 51) - 2) + 1).toNatClampNeg)) >>> ((1 : Int32) &&& 31)))))))) ∧ (((S.2 38) ((3 * (S.1 53)).toNatClampNeg)) = 13 → wp_apply S8 (fun S20 => Q 0 S20)))) ∧ (((S.2 38) ((3 * (S.1 53)).toNatClampNeg)) = 18 → wp_findCase S8 (fun x22 S23 => Q 0 (rm_pf S23 53 x22))))) ∧ (((S.2 38) ((3 * (S.1 53)).toNatClampNeg)) = 11 → wp_a S8 (fun x25 S26 => Q 0 (rm_pf S26 53 x25))))) ∧ (((S.2 38) ((3 * (S.1 53)).toNatClampNeg)) = 0 → Q 0 (rm_pf S8 54 2)))) ∧ (¬ x7 ≤ 0 → wp_hasRoom S8 x7 (fun x28 S29 => ((¬ x28 = 0 → ((¬ ((S.2 38) ((3 * (S.1 53)).toNatClampNeg)) = 0 → ((¬ ((S.2 38) ((3 * (S.1 53)).toNatClampNeg)) = 11 → ((¬ ((S.2 38) ((3 * (S.1 53)).toNatClampNeg)) = 18 → ((¬ ((S.2 38) ((3 * (S.1 53)).toNatClampNeg)) = 13 → ((¬ ((S.2 38) ((3 * (S.1 53)).toNatClampNeg)) = 12 → wp_simple S29 ((S.2 38) ((3 * (S.1 53)).toNatClampNeg)) (fun S37 => Q 0 (rm_pf S37 53 ((S37.1 53) + 1)))) ∧ (((S.2 38) ((3 * (S.1 53)).toNatClampNeg)) = 12 → (vp_in ((S29.1 51) - 2) 40 ∧ (vp_in (((S29.1 51) - 2) + 1) 40 ∧ Q 0 (rm_pf (rm_pf (rm_pf S29 51 ((S29.1 51) - 2)) 50 ((S29.2 52) (((S29.1 51) - 2).toNatClampNeg))) 53 (((S29.2 52) ((((S29.1 51) - 2) + 1).toNatClampNeg)) >>> ((1 : Int32) &&& 31)))))))) ∧ (((S.2 38) ((3 * (S.1 53)).toNatClampNeg)) = 13 → wp_apply S29 (fun S41 => Q 0 S41)))) ∧ (((S.2 38) ((3 * (S.1 53)).toNatClampNeg)) = 18 → wp_findCase S29 (fun x43 S44 => Q 0 (rm_pf S44 53 x43))))) ∧ (((S.2 38) ((3 * (S.1 53)).toNatClampNeg)) = 11 → wp_a S29 (fun x46 S47 => Q 0 (rm_pf S47 53 x46))))) ∧ (((S.2 38) ((3 * (S.1 53)).toNatClampNeg)) = 0 → Q 0 (rm_pf S29 54 2)))) ∧ (x28 = 0 → wp_stop S29 2 (fun x49 S50 => Q x49 S50)))))))) ∧ (¬ x3 = 0 → wp_stop S4 x3 (fun x52 S53 => Q x52 S53)))))
set_option maxHeartbeats 4000000 in
set_option maxRecDepth 100000 in
theorem tR_one {mo : Nat} {ad : Nat → Nat} (hA : rm_A mo ad) {G0 : cj_G} {S : rm_S} {Q : Int32 → rm_S → Prop} (h : wp_one S Q) : cj_T mX7_one 4 0 0 [.ref mo] (rm_md mo ad S G0) (rm_posti mo ad G0 Q) cj_no := by
  refine cj_T_of (by decide +kernel) (Nat.le_of_ble_eq_true rfl) ?_
  refine cj_lvs (lv' := [(0, .ref mo)]) rfl ?_
  unfold wp_one at h
  refine cj_aload_n dX7_one_0 rfl ?_
  refine rm_get (.ref (ad 38)) flX7_82 dX7_one_1 rfl ?_
  refine cj_iconst (v := 3) dX7_one_4 (by decide) ?_
  refine cj_aload_n dX7_one_5 rfl ?_
  refine cj_pc (pc' := 6) rfl ?_
  refine rm_get (.int (S.1 53)) flX7_309 dX7_one_6 rfl ?_
  refine cj_imul dX7_one_9 ?_
  have i1 := h.1
  replace h := h.2
  refine rm_iald (j := 38) (x := (S.2 38) ((3 * (S.1 53)).toNatClampNeg)) hA rfl dX7_one_10 i1 rfl ?_
  refine cj_istore_n (lv' := [(1, .int ((S.2 38) ((3 * (S.1 53)).toNatClampNeg))), (0, .ref mo)]) dX7_one_11 (by decide) rfl ?_
  refine cj_aload_n dX7_one_12 rfl ?_
  refine cj_pc (pc' := 13) rfl ?_
  refine cj_iload_n dX7_one_13 rfl ?_
  refine cj_callV (M' := mX7_wrong) (d' := 3) (k' := 0) (n' := 0) (index := 369) (np := 1) (As := [.int ((S.2 38) ((3 * (S.1 53)).toNatClampNeg))]) (rest := []) dX7_one_14 lkX7_369 mwX7_wrong (tR_wrong hA h) (by omega) rfl rfl (Nat.le_of_ble_eq_true rfl) rm_mo rfl (fun v9 G9 q2 => ?_) (fun _ _ h => absurd h id)
  obtain ⟨x3, S4, e8, e9, h⟩ := q2
  subst e8
  subst e9
  refine cj_st (st' := [.int x3]) rfl ?_
  refine cj_istore_n (lv' := [(2, .int x3), (1, .int ((S.2 38) ((3 * (S.1 53)).toNatClampNeg))), (0, .ref mo)]) dX7_one_17 (by decide) rfl ?_
  refine cj_iload_n dX7_one_18 rfl ?_
  refine cj_if_eq (tgt := 28) dX7_one_19 (by decide) (fun c5 => ?_) (fun c5 => ?_)
  · replace h := h.1 c5
    refine cj_aload_n dX7_one_28 rfl ?_
    refine cj_pc (pc' := 29) rfl ?_
    refine cj_iload_n dX7_one_29 rfl ?_
    refine cj_callV (M' := mX7_roomFor) (d' := 1) (k' := 0) (n' := 0) (index := 375) (np := 1) (As := [.int ((S.2 38) ((3 * (S.1 53)).toNatClampNeg))]) (rest := []) dX7_one_30 lkX7_375 mwX7_roomFor (tR_roomFor hA h) (by omega) rfl rfl (Nat.le_of_ble_eq_true rfl) rm_mo rfl (fun v9 G9 q6 => ?_) (fun _ _ h => absurd h id)
    obtain ⟨x7, S8, e8, e9, h⟩ := q6
    subst e8
    subst e9
    refine cj_st (st' := [.int x7]) rfl ?_
    refine cj_istore_n (lv' := [(3, .int x7), (2, .int x3), (1, .int ((S.2 38) ((3 * (S.1 53)).toNatClampNeg))), (0, .ref mo)]) dX7_one_33 (by decide) rfl ?_
    refine cj_iload_n dX7_one_34 rfl ?_
    refine cj_if_le (tgt := 52) dX7_one_35 (by decide) (fun c9 => ?_) (fun c9 => ?_)
    · replace h := h.1 c9
      refine cj_iload_n dX7_one_52 rfl ?_
      refine cj_pc (pc' := 53) rfl ?_
      refine cj_if_ne (tgt := 64) dX7_one_53 (by decide) (fun c10 => ?_) (fun c10 => ?_)
      · replace h := h.1 c10
        refine cj_iload_n dX7_one_64 rfl ?_
        refine cj_bipush (v := 11) dX7_one_65 (by decide) ?_
        refine cj_icmp_ne (tgt := 81) dX7_one_67 (by decide) (fun c11 => ?_) (fun c11 => ?_)
        · replace h := h.1 c11
          refine cj_iload_n dX7_one_81 rfl ?_
          refine cj_pc (pc' := 82) rfl ?_
          refine cj_bipush (v := 18) dX7_one_82 (by decide) ?_
          refine cj_icmp_ne (tgt := 98) dX7_one_84 (by decide) (fun c12 => ?_) (fun c12 => ?_)
          · replace h := h.1 c12
            refine cj_iload_n dX7_one_98 rfl ?_
            refine cj_bipush (v := 13) dX7_one_99 (by decide) ?_
            refine cj_icmp_ne (tgt := 111) dX7_one_101 (by decide) (fun c13 => ?_) (fun c13 => ?_)
            · replace h := h.1 c13
              refine cj_iload_n dX7_one_111 rfl ?_
              refine cj_pc (pc' := 112) rfl ?_
              refine cj_bipush (v := 12) dX7_one_112 (by decide) ?_
              refine cj_icmp_ne (tgt := 160) dX7_one_114 (by decide) (fun c14 => ?_) (fun c14 => ?_)
              · replace h := h.1 c14
                refine cj_aload_n dX7_one_160 rfl ?_
                refine cj_iload_n dX7_one_161 rfl ?_
                refine cj_callV (M' := mX7_simple) (d' := 2) (k' := 0) (n' := 0) (index := 384) (np := 1) (As := [.int ((S.2 38) ((3 * (S.1 53)).toNatClampNeg))]) (rest := []) dX7_one_162 lkX7_384 mwX7_simple (tR_simple hA h) (by omega) rfl rfl (Nat.le_of_ble_eq_true rfl) rm_mo rfl (fun v9 G9 q15 => ?_) (fun _ _ h => absurd h id)
                obtain ⟨S16, e8, e9, h⟩ := q15
                subst e8
                subst e9
                refine cj_st (st' := []) rfl ?_
                refine cj_pc (pc' := 165) rfl ?_
                refine cj_aload_n dX7_one_165 rfl ?_
                refine cj_dup dX7_one_166 rfl ?_
                refine rm_get (.int (S16.1 53)) flX7_309 dX7_one_167 rfl ?_
                refine cj_iconst (v := 1) dX7_one_170 (by decide) ?_
                refine cj_iadd dX7_one_171 ?_
                refine cj_pc (pc' := 172) rfl ?_
                refine rm_put flX7_309 dX7_one_172 rmp_53 rfl rfl (by decide) ?_
                refine cj_iconst (v := 0) dX7_one_175 (by decide) ?_
                refine cj_iret rfl dX7_one_176 ?_
                exact ⟨_, _, rfl, rfl, h⟩
              · replace h := h.2 c14
                refine cj_aload_n dX7_one_117 rfl ?_
                refine cj_dup dX7_one_118 rfl ?_
                refine cj_pc (pc' := 119) rfl ?_
                refine rm_get (.int (S8.1 51)) flX7_306 dX7_one_119 rfl ?_
                refine cj_iconst (v := 2) dX7_one_122 (by decide) ?_
                refine cj_isub dX7_one_123 ?_
                refine rm_put flX7_306 dX7_one_124 rmp_51 rfl rfl (by decide) ?_
                refine cj_aload_n dX7_one_127 rfl ?_
                refine cj_pc (pc' := 128) rfl ?_
                refine cj_aload_n dX7_one_128 rfl ?_
                refine rm_get (.ref (ad 52)) flX7_106 dX7_one_129 rfl ?_
                refine cj_aload_n dX7_one_132 rfl ?_
                refine rm_get (.int ((S8.1 51) - 2)) flX7_306 dX7_one_133 rfl ?_
                have i17 := h.1
                replace h := h.2
                refine rm_iald (j := 52) (x := (S8.2 52) (((S8.1 51) - 2).toNatClampNeg)) hA rfl dX7_one_136 i17 rfl ?_
                refine cj_pc (pc' := 137) rfl ?_
                refine rm_put flX7_103 dX7_one_137 rmp_50 rfl rfl (by decide) ?_
                refine cj_aload_n dX7_one_140 rfl ?_
                refine cj_aload_n dX7_one_141 rfl ?_
                refine rm_get (.ref (ad 52)) flX7_106 dX7_one_142 rfl ?_
                refine cj_aload_n dX7_one_145 rfl ?_
                refine cj_pc (pc' := 146) rfl ?_
                refine rm_get (.int ((S8.1 51) - 2)) flX7_306 dX7_one_146 rfl ?_
                refine cj_iconst (v := 1) dX7_one_149 (by decide) ?_
                refine cj_iadd dX7_one_150 ?_
                have i18 := h.1
                replace h := h.2
                refine rm_iald (j := 52) (x := (S8.2 52) ((((S8.1 51) - 2) + 1).toNatClampNeg)) hA rfl dX7_one_151 i18 rfl ?_
                refine cj_iconst (v := 1) dX7_one_152 (by decide) ?_
                refine cj_pc (pc' := 153) rfl ?_
                refine cj_ishr dX7_one_153 ?_
                refine rm_put flX7_309 dX7_one_154 rmp_53 rfl rfl (by decide) ?_
                refine cj_goto (tgt := 175) dX7_one_157 (by decide) ?_
                refine cj_iconst (v := 0) dX7_one_175 (by decide) ?_
                refine cj_iret rfl dX7_one_176 ?_
                exact ⟨_, _, rfl, rfl, h⟩
            · replace h := h.2 c13
              refine cj_aload_n dX7_one_104 rfl ?_
              refine cj_pc (pc' := 105) rfl ?_
              refine cj_callV (M' := mX7_apply) (d' := 1) (k' := 0) (n' := 0) (index := 381) (np := 0) (As := []) (rest := []) dX7_one_105 lkX7_381 mwX7_apply (tR_apply hA h) (by omega) rfl rfl (Nat.le_of_ble_eq_true rfl) rm_mo rfl (fun v9 G9 q19 => ?_) (fun _ _ h => absurd h id)
              obtain ⟨S20, e8, e9, h⟩ := q19
              subst e8
              subst e9
              refine cj_st (st' := []) rfl ?_
              refine cj_goto (tgt := 175) dX7_one_108 (by decide) ?_
              refine cj_iconst (v := 0) dX7_one_175 (by decide) ?_
              refine cj_iret rfl dX7_one_176 ?_
              exact ⟨_, _, rfl, rfl, h⟩
          · replace h := h.2 c12
            refine cj_aload_n dX7_one_87 rfl ?_
            refine cj_pc (pc' := 88) rfl ?_
            refine cj_aload_n dX7_one_88 rfl ?_
            refine cj_callV (M' := mX7_findCase) (d' := 2) (k' := 0) (n' := 0) (index := 353) (np := 0) (As := []) (rest := [.ref mo]) dX7_one_89 lkX7_353 mwX7_findCase (tR_findCase hA h) (by omega) rfl rfl (Nat.le_of_ble_eq_true rfl) rm_mo rfl (fun v9 G9 q21 => ?_) (fun _ _ h => absurd h id)
            obtain ⟨x22, S23, e8, e9, h⟩ := q21
            subst e8
            subst e9
            refine cj_st (st' := [.int x22, .ref mo]) rfl ?_
            refine rm_put flX7_309 dX7_one_92 rmp_53 rfl rfl (by decide) ?_
            refine cj_goto (tgt := 175) dX7_one_95 (by decide) ?_
            refine cj_iconst (v := 0) dX7_one_175 (by decide) ?_
            refine cj_pc (pc' := 176) rfl ?_
            refine cj_iret rfl dX7_one_176 ?_
            exact ⟨_, _, rfl, rfl, h⟩
        · replace h := h.2 c11
          refine cj_aload_n dX7_one_70 rfl ?_
          refine cj_aload_n dX7_one_71 rfl ?_
          refine cj_callV (M' := mX7_a) (d' := 0) (k' := 0) (n' := 0) (index := 340) (np := 0) (As := []) (rest := [.ref mo]) dX7_one_72 lkX7_340 mwX7_a (tR_a hA h) (by omega) rfl rfl (Nat.le_of_ble_eq_true rfl) rm_mo rfl (fun v9 G9 q24 => ?_) (fun _ _ h => absurd h id)
          obtain ⟨x25, S26, e8, e9, h⟩ := q24
          subst e8
          subst e9
          refine cj_st (st' := [.int x25, .ref mo]) rfl ?_
          refine rm_put flX7_309 dX7_one_75 rmp_53 rfl rfl (by decide) ?_
          refine cj_pc (pc' := 78) rfl ?_
          refine cj_goto (tgt := 175) dX7_one_78 (by decide) ?_
          refine cj_iconst (v := 0) dX7_one_175 (by decide) ?_
          refine cj_iret rfl dX7_one_176 ?_
          exact ⟨_, _, rfl, rfl, h⟩
      · replace h := h.2 c10
        refine cj_aload_n dX7_one_56 rfl ?_
        refine cj_iconst (v := 2) dX7_one_57 (by decide) ?_
        refine cj_pc (pc' := 58) rfl ?_
        refine rm_put flX7_312 dX7_one_58 rmp_54 rfl rfl (by decide) ?_
        refine cj_goto (tgt := 175) dX7_one_61 (by decide) ?_
        refine cj_iconst (v := 0) dX7_one_175 (by decide) ?_
        refine cj_iret rfl dX7_one_176 ?_
        exact ⟨_, _, rfl, rfl, h⟩
    · replace h := h.2 c9
      refine cj_aload_n dX7_one_38 rfl ?_
      refine cj_pc (pc' := 39) rfl ?_
      refine cj_iload_n dX7_one_39 rfl ?_
      refine cj_callV (M' := mX7_hasRoom) (d' := 3) (k' := 0) (n' := 0) (index := 378) (np := 1) (As := [.int x7]) (rest := []) dX7_one_40 lkX7_378 mwX7_hasRoom (tR_hasRoom hA h) (by omega) rfl rfl (Nat.le_of_ble_eq_true rfl) rm_mo rfl (fun v9 G9 q27 => ?_) (fun _ _ h => absurd h id)
      obtain ⟨x28, S29, e8, e9, h⟩ := q27
      subst e8
      subst e9
      refine cj_st (st' := [.int x28]) rfl ?_
      refine cj_if_ne (tgt := 52) dX7_one_43 (by decide) (fun c30 => ?_) (fun c30 => ?_)
      · replace h := h.1 c30
        refine cj_iload_n dX7_one_52 rfl ?_
        refine cj_if_ne (tgt := 64) dX7_one_53 (by decide) (fun c31 => ?_) (fun c31 => ?_)
        · replace h := h.1 c31
          refine cj_iload_n dX7_one_64 rfl ?_
          refine cj_pc (pc' := 65) rfl ?_
          refine cj_bipush (v := 11) dX7_one_65 (by decide) ?_
          refine cj_icmp_ne (tgt := 81) dX7_one_67 (by decide) (fun c32 => ?_) (fun c32 => ?_)
          · replace h := h.1 c32
            refine cj_iload_n dX7_one_81 rfl ?_
            refine cj_bipush (v := 18) dX7_one_82 (by decide) ?_
            refine cj_icmp_ne (tgt := 98) dX7_one_84 (by decide) (fun c33 => ?_) (fun c33 => ?_)
            · replace h := h.1 c33
              refine cj_iload_n dX7_one_98 rfl ?_
              refine cj_pc (pc' := 99) rfl ?_
              refine cj_bipush (v := 13) dX7_one_99 (by decide) ?_
              refine cj_icmp_ne (tgt := 111) dX7_one_101 (by decide) (fun c34 => ?_) (fun c34 => ?_)
              · replace h := h.1 c34
                refine cj_iload_n dX7_one_111 rfl ?_
                refine cj_bipush (v := 12) dX7_one_112 (by decide) ?_
                refine cj_icmp_ne (tgt := 160) dX7_one_114 (by decide) (fun c35 => ?_) (fun c35 => ?_)
                · replace h := h.1 c35
                  refine cj_aload_n dX7_one_160 rfl ?_
                  refine cj_pc (pc' := 161) rfl ?_
                  refine cj_iload_n dX7_one_161 rfl ?_
                  refine cj_callV (M' := mX7_simple) (d' := 2) (k' := 0) (n' := 0) (index := 384) (np := 1) (As := [.int ((S.2 38) ((3 * (S.1 53)).toNatClampNeg))]) (rest := []) dX7_one_162 lkX7_384 mwX7_simple (tR_simple hA h) (by omega) rfl rfl (Nat.le_of_ble_eq_true rfl) rm_mo rfl (fun v9 G9 q36 => ?_) (fun _ _ h => absurd h id)
                  obtain ⟨S37, e8, e9, h⟩ := q36
                  subst e8
                  subst e9
                  refine cj_st (st' := []) rfl ?_
                  refine cj_aload_n dX7_one_165 rfl ?_
                  refine cj_dup dX7_one_166 rfl ?_
                  refine rm_get (.int (S37.1 53)) flX7_309 dX7_one_167 rfl ?_
                  refine cj_pc (pc' := 170) rfl ?_
                  refine cj_iconst (v := 1) dX7_one_170 (by decide) ?_
                  refine cj_iadd dX7_one_171 ?_
                  refine rm_put flX7_309 dX7_one_172 rmp_53 rfl rfl (by decide) ?_
                  refine cj_iconst (v := 0) dX7_one_175 (by decide) ?_
                  refine cj_iret rfl dX7_one_176 ?_
                  exact ⟨_, _, rfl, rfl, h⟩
                · replace h := h.2 c35
                  refine cj_aload_n dX7_one_117 rfl ?_
                  refine cj_pc (pc' := 118) rfl ?_
                  refine cj_dup dX7_one_118 rfl ?_
                  refine rm_get (.int (S29.1 51)) flX7_306 dX7_one_119 rfl ?_
                  refine cj_iconst (v := 2) dX7_one_122 (by decide) ?_
                  refine cj_isub dX7_one_123 ?_
                  refine rm_put flX7_306 dX7_one_124 rmp_51 rfl rfl (by decide) ?_
                  refine cj_pc (pc' := 127) rfl ?_
                  refine cj_aload_n dX7_one_127 rfl ?_
                  refine cj_aload_n dX7_one_128 rfl ?_
                  refine rm_get (.ref (ad 52)) flX7_106 dX7_one_129 rfl ?_
                  refine cj_aload_n dX7_one_132 rfl ?_
                  refine rm_get (.int ((S29.1 51) - 2)) flX7_306 dX7_one_133 rfl ?_
                  refine cj_pc (pc' := 136) rfl ?_
                  have i38 := h.1
                  replace h := h.2
                  refine rm_iald (j := 52) (x := (S29.2 52) (((S29.1 51) - 2).toNatClampNeg)) hA rfl dX7_one_136 i38 rfl ?_
                  refine rm_put flX7_103 dX7_one_137 rmp_50 rfl rfl (by decide) ?_
                  refine cj_aload_n dX7_one_140 rfl ?_
                  refine cj_aload_n dX7_one_141 rfl ?_
                  refine rm_get (.ref (ad 52)) flX7_106 dX7_one_142 rfl ?_
                  refine cj_pc (pc' := 145) rfl ?_
                  refine cj_aload_n dX7_one_145 rfl ?_
                  refine rm_get (.int ((S29.1 51) - 2)) flX7_306 dX7_one_146 rfl ?_
                  refine cj_iconst (v := 1) dX7_one_149 (by decide) ?_
                  refine cj_iadd dX7_one_150 ?_
                  have i39 := h.1
                  replace h := h.2
                  refine rm_iald (j := 52) (x := (S29.2 52) ((((S29.1 51) - 2) + 1).toNatClampNeg)) hA rfl dX7_one_151 i39 rfl ?_
                  refine cj_pc (pc' := 152) rfl ?_
                  refine cj_iconst (v := 1) dX7_one_152 (by decide) ?_
                  refine cj_ishr dX7_one_153 ?_
                  refine rm_put flX7_309 dX7_one_154 rmp_53 rfl rfl (by decide) ?_
                  refine cj_goto (tgt := 175) dX7_one_157 (by decide) ?_
                  refine cj_iconst (v := 0) dX7_one_175 (by decide) ?_
                  refine cj_pc (pc' := 176) rfl ?_
                  refine cj_iret rfl dX7_one_176 ?_
                  exact ⟨_, _, rfl, rfl, h⟩
              · replace h := h.2 c34
                refine cj_aload_n dX7_one_104 rfl ?_
                refine cj_callV (M' := mX7_apply) (d' := 1) (k' := 0) (n' := 0) (index := 381) (np := 0) (As := []) (rest := []) dX7_one_105 lkX7_381 mwX7_apply (tR_apply hA h) (by omega) rfl rfl (Nat.le_of_ble_eq_true rfl) rm_mo rfl (fun v9 G9 q40 => ?_) (fun _ _ h => absurd h id)
                obtain ⟨S41, e8, e9, h⟩ := q40
                subst e8
                subst e9
                refine cj_st (st' := []) rfl ?_
                refine cj_goto (tgt := 175) dX7_one_108 (by decide) ?_
                refine cj_iconst (v := 0) dX7_one_175 (by decide) ?_
                refine cj_pc (pc' := 176) rfl ?_
                refine cj_iret rfl dX7_one_176 ?_
                exact ⟨_, _, rfl, rfl, h⟩
            · replace h := h.2 c33
              refine cj_aload_n dX7_one_87 rfl ?_
              refine cj_aload_n dX7_one_88 rfl ?_
              refine cj_callV (M' := mX7_findCase) (d' := 2) (k' := 0) (n' := 0) (index := 353) (np := 0) (As := []) (rest := [.ref mo]) dX7_one_89 lkX7_353 mwX7_findCase (tR_findCase hA h) (by omega) rfl rfl (Nat.le_of_ble_eq_true rfl) rm_mo rfl (fun v9 G9 q42 => ?_) (fun _ _ h => absurd h id)
              obtain ⟨x43, S44, e8, e9, h⟩ := q42
              subst e8
              subst e9
              refine cj_st (st' := [.int x43, .ref mo]) rfl ?_
              refine rm_put flX7_309 dX7_one_92 rmp_53 rfl rfl (by decide) ?_
              refine cj_pc (pc' := 95) rfl ?_
              refine cj_goto (tgt := 175) dX7_one_95 (by decide) ?_
              refine cj_iconst (v := 0) dX7_one_175 (by decide) ?_
              refine cj_iret rfl dX7_one_176 ?_
              exact ⟨_, _, rfl, rfl, h⟩
          · replace h := h.2 c32
            refine cj_aload_n dX7_one_70 rfl ?_
            refine cj_aload_n dX7_one_71 rfl ?_
            refine cj_pc (pc' := 72) rfl ?_
            refine cj_callV (M' := mX7_a) (d' := 0) (k' := 0) (n' := 0) (index := 340) (np := 0) (As := []) (rest := [.ref mo]) dX7_one_72 lkX7_340 mwX7_a (tR_a hA h) (by omega) rfl rfl (Nat.le_of_ble_eq_true rfl) rm_mo rfl (fun v9 G9 q45 => ?_) (fun _ _ h => absurd h id)
            obtain ⟨x46, S47, e8, e9, h⟩ := q45
            subst e8
            subst e9
            refine cj_st (st' := [.int x46, .ref mo]) rfl ?_
            refine rm_put flX7_309 dX7_one_75 rmp_53 rfl rfl (by decide) ?_
            refine cj_goto (tgt := 175) dX7_one_78 (by decide) ?_
            refine cj_iconst (v := 0) dX7_one_175 (by decide) ?_
            refine cj_iret rfl dX7_one_176 ?_
            exact ⟨_, _, rfl, rfl, h⟩
        · replace h := h.2 c31
          refine cj_aload_n dX7_one_56 rfl ?_
          refine cj_pc (pc' := 57) rfl ?_
          refine cj_iconst (v := 2) dX7_one_57 (by decide) ?_
          refine rm_put flX7_312 dX7_one_58 rmp_54 rfl rfl (by decide) ?_
          refine cj_goto (tgt := 175) dX7_one_61 (by decide) ?_
          refine cj_iconst (v := 0) dX7_one_175 (by decide) ?_
          refine cj_iret rfl dX7_one_176 ?_
          exact ⟨_, _, rfl, rfl, h⟩
      · replace h := h.2 c30
        refine cj_aload_n dX7_one_46 rfl ?_
        refine cj_pc (pc' := 47) rfl ?_
        refine cj_iconst (v := 2) dX7_one_47 (by decide) ?_
        refine cj_callV (M' := mX7_stop) (d' := 0) (k' := 0) (n' := 0) (index := 372) (np := 1) (As := [.int 2]) (rest := []) dX7_one_48 lkX7_372 mwX7_stop (tR_stop hA h) (by omega) rfl rfl (Nat.le_of_ble_eq_true rfl) rm_mo rfl (fun v9 G9 q48 => ?_) (fun _ _ h => absurd h id)
        obtain ⟨x49, S50, e8, e9, h⟩ := q48
        subst e8
        subst e9
        refine cj_st (st' := [.int x49]) rfl ?_
        refine cj_iret rfl dX7_one_51 ?_
        exact ⟨_, _, rfl, rfl, h⟩
  · replace h := h.2 c5
    refine cj_aload_n dX7_one_22 rfl ?_
    refine cj_iload_n dX7_one_23 rfl ?_
    refine cj_pc (pc' := 24) rfl ?_
    refine cj_callV (M' := mX7_stop) (d' := 0) (k' := 0) (n' := 0) (index := 372) (np := 1) (As := [.int x3]) (rest := []) dX7_one_24 lkX7_372 mwX7_stop (tR_stop hA h) (by omega) rfl rfl (Nat.le_of_ble_eq_true rfl) rm_mo rfl (fun v9 G9 q51 => ?_) (fun _ _ h => absurd h id)
    obtain ⟨x52, S53, e8, e9, h⟩ := q51
    subst e8
    subst e9
    refine cj_st (st' := [.int x52]) rfl ?_
    refine cj_iret rfl dX7_one_27 ?_
    exact ⟨_, _, rfl, rfl, h⟩
def wl_run_38 (v1 : Int32) (Q : Int32 → rm_S → Prop) (K : Int32 → rm_S → Prop) : Nat → Int32 → rm_S → Prop
  | 0, _, _ => False
  | n + 1, v2, S => ((v1 ≤ v2 → K v2 S) ∧ (¬ v1 ≤ v2 → ((¬ (S.1 54) = 1 → K v2 S) ∧ ((S.1 54) = 1 → wp_one S (fun x10 S11 => ((x10 = 0 → wl_run_38 v1 Q K n (v2 + 1) S11) ∧ (¬ x10 = 0 → wp_fail S11 3 (fun x14 S15 => Q x14 S15))))))))
def wp_run (S : rm_S) (a1 : Int32) (Q : Int32 → rm_S → Prop) : Prop := ((a1 < 0 → wp_fail (rm_pf S 0 0) 1 (fun x3 S4 => Q x3 S4)) ∧ (¬ a1 < 0 → ((a1 ≤ 500 → (((S.1 54) = 1 → (∃ n9 : Nat, wl_run_38 a1 Q (fun w17 S16 => Q w17 S16) n9 0 (rm_pf S 0 0))) ∧ (¬ (S.1 54) = 1 → wp_fail (rm_pf S 0 0) 2 (fun x19 S20 => Q x19 S20)))) ∧ (¬ a1 ≤ 500 → wp_fail (rm_pf S 0 0) 1 (fun x22 S23 => Q x22 S23)))))
set_option maxHeartbeats 4000000 in
set_option maxRecDepth 100000 in
theorem wl_run_38_ok {mo : Nat} {ad : Nat → Nat} (hA : rm_A mo ad) {G0 : cj_G} {d k0 n0 k n9 : Nat} (hd9 : 5 ≤ d) (v1 : Int32) {Q : Int32 → rm_S → Prop} {K : Int32 → rm_S → Prop} (hK : ∀ (v2 : Int32) (S : rm_S), K v2 S → cj_J mX7_run d k0 n0 (rm_posti mo ad G0 Q) cj_no k n9 70 [(1, .int v1), (2, .int v2), (0, .ref mo)] [] (rm_md mo ad S G0)) : ∀ (n : Nat) (v2 : Int32) (S : rm_S), wl_run_38 v1 Q K n v2 S → cj_J mX7_run d k0 n0 (rm_posti mo ad G0 Q) cj_no k n9 38 [(1, .int v1), (2, .int v2), (0, .ref mo)] [] (rm_md mo ad S G0) := by
  intro n
  induction n with
  | zero => intro v2 S h; exact absurd h id
  | succ n ih =>
    intro v2 S h
    unfold wl_run_38 at h
    refine cj_iload_n dX7_run_38 rfl ?_
    refine cj_iload_n dX7_run_39 rfl ?_
    refine cj_pc (pc' := 40) rfl ?_
    refine cj_icmp_ge (tgt := 70) dX7_run_40 (by decide) (fun c7 => ?_) (fun c7 => ?_)
    · replace h := h.1 c7
      refine cj_sub (lv' := [(1, .int v1), (2, .int v2), (0, .ref mo)]) (by simp) ?_
      exact hK _ _ h
    · replace h := h.2 c7
      refine cj_aload_n dX7_run_43 rfl ?_
      refine rm_get (.int (S.1 54)) flX7_312 dX7_run_44 rfl ?_
      refine cj_iconst (v := 1) dX7_run_47 (by decide) ?_
      refine cj_icmp_ne (tgt := 70) dX7_run_48 (by decide) (fun c8 => ?_) (fun c8 => ?_)
      · replace h := h.1 c8
        refine cj_sub (lv' := [(1, .int v1), (2, .int v2), (0, .ref mo)]) (by simp) ?_
        exact hK _ _ h
      · replace h := h.2 c8
        refine cj_aload_n dX7_run_51 rfl ?_
        refine cj_pc (pc' := 52) rfl ?_
        refine cj_callV (M' := mX7_one) (d' := 4) (k' := 0) (n' := 0) (index := 387) (np := 0) (As := []) (rest := []) dX7_run_52 lkX7_387 mwX7_one (tR_one hA h) (by omega) rfl rfl (Nat.le_of_ble_eq_true rfl) rm_mo rfl (fun v9 G9 q9 => ?_) (fun _ _ h => absurd h id)
        obtain ⟨x10, S11, e8, e9, h⟩ := q9
        subst e8
        subst e9
        refine cj_st (st' := [.int x10]) rfl ?_
        refine cj_if_eq (tgt := 64) dX7_run_55 (by decide) (fun c12 => ?_) (fun c12 => ?_)
        · replace h := h.1 c12
          refine cj_iinc (v := v2 + 1) (lv' := [(2, .int (v2 + 1)), (1, .int v1), (0, .ref mo)]) dX7_run_64 rfl rfl (by decide) rfl ?_
          refine cj_goto (tgt := 38) dX7_run_67 (by decide) ?_
          refine cj_sub (lv' := [(1, .int v1), (2, .int (v2 + 1)), (0, .ref mo)]) (by simp) ?_
          exact ih _ _ h
        · replace h := h.2 c12
          refine cj_aload_n dX7_run_58 rfl ?_
          refine cj_pc (pc' := 59) rfl ?_
          refine cj_iconst (v := 3) dX7_run_59 (by decide) ?_
          refine cj_callV (M' := mX7_fail) (d' := 0) (k' := 0) (n' := 0) (index := 290) (np := 1) (As := [.int 3]) (rest := []) dX7_run_60 lkX7_290 mwX7_fail (tR_fail hA h) (by omega) rfl rfl (Nat.le_of_ble_eq_true rfl) rm_mo rfl (fun v9 G9 q13 => ?_) (fun _ _ h => absurd h id)
          obtain ⟨x14, S15, e8, e9, h⟩ := q13
          subst e8
          subst e9
          refine cj_st (st' := [.int x14]) rfl ?_
          refine cj_iret rfl dX7_run_63 ?_
          exact ⟨_, _, rfl, rfl, h⟩
set_option maxHeartbeats 4000000 in
set_option maxRecDepth 100000 in
theorem tR_run {mo : Nat} {ad : Nat → Nat} (hA : rm_A mo ad) {G0 : cj_G} {S : rm_S} {a1 : Int32} {Q : Int32 → rm_S → Prop} (h : wp_run S a1 Q) : cj_T mX7_run 5 0 0 [.ref mo, .int a1] (rm_md mo ad S G0) (rm_posti mo ad G0 Q) cj_no := by
  refine cj_T_of (by decide +kernel) (Nat.le_of_ble_eq_true rfl) ?_
  refine cj_lvs (lv' := [(0, .ref mo), (1, .int a1)]) rfl ?_
  unfold wp_run at h
  refine cj_aload_n dX7_run_0 rfl ?_
  refine cj_iconst (v := 0) dX7_run_1 (by decide) ?_
  refine rm_put flX7_112 dX7_run_2 rmp_0 rfl rfl (by decide) ?_
  refine cj_iload_n dX7_run_5 rfl ?_
  refine cj_pc (pc' := 6) rfl ?_
  refine cj_if_lt (tgt := 16) dX7_run_6 (by decide) (fun c1 => ?_) (fun c1 => ?_)
  · replace h := h.1 c1
    refine cj_aload_n dX7_run_16 rfl ?_
    refine cj_iconst (v := 1) dX7_run_17 (by decide) ?_
    refine cj_callV (M' := mX7_fail) (d' := 0) (k' := 0) (n' := 0) (index := 290) (np := 1) (As := [.int 1]) (rest := []) dX7_run_18 lkX7_290 mwX7_fail (tR_fail hA h) (by omega) rfl rfl (Nat.le_of_ble_eq_true rfl) rm_mo rfl (fun v9 G9 q2 => ?_) (fun _ _ h => absurd h id)
    obtain ⟨x3, S4, e8, e9, h⟩ := q2
    subst e8
    subst e9
    refine cj_st (st' := [.int x3]) rfl ?_
    refine cj_iret rfl dX7_run_21 ?_
    exact ⟨_, _, rfl, rfl, h⟩
  · replace h := h.2 c1
    refine cj_iload_n dX7_run_9 rfl ?_
    refine cj_pc (pc' := 10) rfl ?_
    refine cj_sipush (v := 500) dX7_run_10 (by decide) ?_
    refine cj_icmp_le (tgt := 22) dX7_run_13 (by decide) (fun c5 => ?_) (fun c5 => ?_)
    · replace h := h.1 c5
      refine cj_aload_n dX7_run_22 rfl ?_
      refine rm_get (.int (S.1 54)) flX7_312 dX7_run_23 rfl ?_
      refine cj_iconst (v := 1) dX7_run_26 (by decide) ?_
      refine cj_pc (pc' := 27) rfl ?_
      refine cj_icmp_eq (tgt := 36) dX7_run_27 (by decide) (fun c6 => ?_) (fun c6 => ?_)
      · replace h := h.1 c6
        refine cj_iconst (v := 0) dX7_run_36 (by decide) ?_
        refine cj_istore_n (lv' := [(2, .int 0), (0, .ref mo), (1, .int a1)]) dX7_run_37 (by decide) rfl ?_
        obtain ⟨n9, h⟩ := h
        refine cj_sub (lv' := [(1, .int a1), (2, .int 0), (0, .ref mo)]) (by simp) ?_
        refine wl_run_38_ok hA (by omega) _ ?_ n9 _ _ h
        clear h
        intro w17 S16 h
        refine cj_iload_n dX7_run_70 rfl ?_
        refine cj_iret rfl dX7_run_71 ?_
        exact ⟨_, _, rfl, rfl, h⟩
      · replace h := h.2 c6
        refine cj_aload_n dX7_run_30 rfl ?_
        refine cj_pc (pc' := 31) rfl ?_
        refine cj_iconst (v := 2) dX7_run_31 (by decide) ?_
        refine cj_callV (M' := mX7_fail) (d' := 0) (k' := 0) (n' := 0) (index := 290) (np := 1) (As := [.int 2]) (rest := []) dX7_run_32 lkX7_290 mwX7_fail (tR_fail hA h) (by omega) rfl rfl (Nat.le_of_ble_eq_true rfl) rm_mo rfl (fun v9 G9 q18 => ?_) (fun _ _ h => absurd h id)
        obtain ⟨x19, S20, e8, e9, h⟩ := q18
        subst e8
        subst e9
        refine cj_st (st' := [.int x19]) rfl ?_
        refine cj_iret rfl dX7_run_35 ?_
        exact ⟨_, _, rfl, rfl, h⟩
    · replace h := h.2 c5
      refine cj_aload_n dX7_run_16 rfl ?_
      refine cj_iconst (v := 1) dX7_run_17 (by decide) ?_
      refine cj_pc (pc' := 18) rfl ?_
      refine cj_callV (M' := mX7_fail) (d' := 0) (k' := 0) (n' := 0) (index := 290) (np := 1) (As := [.int 1]) (rest := []) dX7_run_18 lkX7_290 mwX7_fail (tR_fail hA h) (by omega) rfl rfl (Nat.le_of_ble_eq_true rfl) rm_mo rfl (fun v9 G9 q21 => ?_) (fun _ _ h => absurd h id)
      obtain ⟨x22, S23, e8, e9, h⟩ := q21
      subst e8
      subst e9
      refine cj_st (st' := [.int x22]) rfl ?_
      refine cj_iret rfl dX7_run_21 ?_
      exact ⟨_, _, rfl, rfl, h⟩
def wp_state (S : rm_S) (Q : Int32 → rm_S → Prop) : Prop := Q (S.1 54) (rm_pf S 0 0)
set_option maxHeartbeats 4000000 in
set_option maxRecDepth 100000 in
theorem tR_state {mo : Nat} {ad : Nat → Nat} (hA : rm_A mo ad) {G0 : cj_G} {S : rm_S} {Q : Int32 → rm_S → Prop} (h : wp_state S Q) : cj_T mX7_state 0 0 0 [.ref mo] (rm_md mo ad S G0) (rm_posti mo ad G0 Q) cj_no := by
  refine cj_T_of (by decide +kernel) (Nat.le_of_ble_eq_true rfl) ?_
  refine cj_lvs (lv' := [(0, .ref mo)]) rfl ?_
  unfold wp_state at h
  refine cj_aload_n dX7_state_0 rfl ?_
  refine cj_iconst (v := 0) dX7_state_1 (by decide) ?_
  refine rm_put flX7_112 dX7_state_2 rmp_0 rfl rfl (by decide) ?_
  refine cj_aload_n dX7_state_5 rfl ?_
  refine cj_pc (pc' := 6) rfl ?_
  refine rm_get (.int (S.1 54)) flX7_312 dX7_state_6 rfl ?_
  refine cj_iret rfl dX7_state_9 ?_
  exact ⟨_, _, rfl, rfl, h⟩
def wp_why (S : rm_S) (Q : Int32 → rm_S → Prop) : Prop := Q (S.1 55) (rm_pf S 0 0)
set_option maxHeartbeats 4000000 in
set_option maxRecDepth 100000 in
theorem tR_why {mo : Nat} {ad : Nat → Nat} (hA : rm_A mo ad) {G0 : cj_G} {S : rm_S} {Q : Int32 → rm_S → Prop} (h : wp_why S Q) : cj_T mX7_why 0 0 0 [.ref mo] (rm_md mo ad S G0) (rm_posti mo ad G0 Q) cj_no := by
  refine cj_T_of (by decide +kernel) (Nat.le_of_ble_eq_true rfl) ?_
  refine cj_lvs (lv' := [(0, .ref mo)]) rfl ?_
  unfold wp_why at h
  refine cj_aload_n dX7_why_0 rfl ?_
  refine cj_iconst (v := 0) dX7_why_1 (by decide) ?_
  refine rm_put flX7_112 dX7_why_2 rmp_0 rfl rfl (by decide) ?_
  refine cj_aload_n dX7_why_5 rfl ?_
  refine cj_pc (pc' := 6) rfl ?_
  refine rm_get (.int (S.1 55)) flX7_315 dX7_why_6 rfl ?_
  refine cj_iret rfl dX7_why_9 ?_
  exact ⟨_, _, rfl, rfl, h⟩
def wp_next (S : rm_S) (Q : Int32 → rm_S → Prop) : Prop := Q (S.1 53) (rm_pf S 0 0)
set_option maxHeartbeats 4000000 in
set_option maxRecDepth 100000 in
theorem tR_next {mo : Nat} {ad : Nat → Nat} (hA : rm_A mo ad) {G0 : cj_G} {S : rm_S} {Q : Int32 → rm_S → Prop} (h : wp_next S Q) : cj_T mX7_next 0 0 0 [.ref mo] (rm_md mo ad S G0) (rm_posti mo ad G0 Q) cj_no := by
  refine cj_T_of (by decide +kernel) (Nat.le_of_ble_eq_true rfl) ?_
  refine cj_lvs (lv' := [(0, .ref mo)]) rfl ?_
  unfold wp_next at h
  refine cj_aload_n dX7_next_0 rfl ?_
  refine cj_iconst (v := 0) dX7_next_1 (by decide) ?_
  refine rm_put flX7_112 dX7_next_2 rmp_0 rfl rfl (by decide) ?_
  refine cj_aload_n dX7_next_5 rfl ?_
  refine cj_pc (pc' := 6) rfl ?_
  refine rm_get (.int (S.1 53)) flX7_309 dX7_next_6 rfl ?_
  refine cj_iret rfl dX7_next_9 ?_
  exact ⟨_, _, rfl, rfl, h⟩
def wp_depth (S : rm_S) (Q : Int32 → rm_S → Prop) : Prop := Q (S.1 51) (rm_pf S 0 0)
set_option maxHeartbeats 4000000 in
set_option maxRecDepth 100000 in
theorem tR_depth {mo : Nat} {ad : Nat → Nat} (hA : rm_A mo ad) {G0 : cj_G} {S : rm_S} {Q : Int32 → rm_S → Prop} (h : wp_depth S Q) : cj_T mX7_depth 0 0 0 [.ref mo] (rm_md mo ad S G0) (rm_posti mo ad G0 Q) cj_no := by
  refine cj_T_of (by decide +kernel) (Nat.le_of_ble_eq_true rfl) ?_
  refine cj_lvs (lv' := [(0, .ref mo)]) rfl ?_
  unfold wp_depth at h
  refine cj_aload_n dX7_depth_0 rfl ?_
  refine cj_iconst (v := 0) dX7_depth_1 (by decide) ?_
  refine rm_put flX7_112 dX7_depth_2 rmp_0 rfl rfl (by decide) ?_
  refine cj_aload_n dX7_depth_5 rfl ?_
  refine cj_pc (pc' := 6) rfl ?_
  refine rm_get (.int (S.1 51)) flX7_306 dX7_depth_6 rfl ?_
  refine cj_iret rfl dX7_depth_9 ?_
  exact ⟨_, _, rfl, rfl, h⟩
def wp_used (S : rm_S) (Q : Int32 → rm_S → Prop) : Prop := Q (S.1 46) (rm_pf S 0 0)
set_option maxHeartbeats 4000000 in
set_option maxRecDepth 100000 in
theorem tR_used {mo : Nat} {ad : Nat → Nat} (hA : rm_A mo ad) {G0 : cj_G} {S : rm_S} {Q : Int32 → rm_S → Prop} (h : wp_used S Q) : cj_T mX7_used 0 0 0 [.ref mo] (rm_md mo ad S G0) (rm_posti mo ad G0 Q) cj_no := by
  refine cj_T_of (by decide +kernel) (Nat.le_of_ble_eq_true rfl) ?_
  refine cj_lvs (lv' := [(0, .ref mo)]) rfl ?_
  unfold wp_used at h
  refine cj_aload_n dX7_used_0 rfl ?_
  refine cj_iconst (v := 0) dX7_used_1 (by decide) ?_
  refine rm_put flX7_112 dX7_used_2 rmp_0 rfl rfl (by decide) ?_
  refine cj_aload_n dX7_used_5 rfl ?_
  refine cj_pc (pc' := 6) rfl ?_
  refine rm_get (.int (S.1 46)) flX7_297 dX7_used_6 rfl ?_
  refine cj_iret rfl dX7_used_9 ?_
  exact ⟨_, _, rfl, rfl, h⟩
def wp_reach (S : rm_S) (a1 : Int32) (Q : rm_S → Prop) : Prop := wp_isPointer a1 (fun x2 => ((x2 = 0 → Q S) ∧ (¬ x2 = 0 → (vp_in (a1 / 4) 400 ∧ ((0 ≤ ((S.2 48) ((a1 / 4).toNatClampNeg)) → Q S) ∧ (¬ 0 ≤ ((S.2 48) ((a1 / 4).toNatClampNeg)) → (vp_in (a1 / 4) 400 ∧ Q (rm_pa S 48 ((a1 / 4).toNatClampNeg) 0))))))))
set_option maxHeartbeats 4000000 in
set_option maxRecDepth 100000 in
theorem tR_reach {mo : Nat} {ad : Nat → Nat} (hA : rm_A mo ad) {G0 : cj_G} {S : rm_S} {a1 : Int32} {Q : rm_S → Prop} (h : wp_reach S a1 Q) : cj_T mX7_reach 1 0 0 [.ref mo, .int a1] (rm_md mo ad S G0) (rm_post mo ad G0 Q) cj_no := by
  refine cj_T_of (by decide +kernel) (Nat.le_of_ble_eq_true rfl) ?_
  refine cj_lvs (lv' := [(0, .ref mo), (1, .int a1)]) rfl ?_
  unfold wp_reach at h
  refine cj_iload_n dX7_reach_0 rfl ?_
  refine cj_callS (M' := mX7_isPointer) (d' := 0) (k' := 0) (n' := 0) (index := 318) (np := 1) (As := [.int a1]) (rest := []) dX7_reach_1 lkX7_318 mwX7_isPointer (tR_isPointer h) (by omega) rfl rfl (Nat.le_of_ble_eq_true rfl) (fun v9 G9 q1 => ?_) (fun _ _ h => absurd h id)
  obtain ⟨x2, e8, e9, h⟩ := q1
  subst e8
  subst e9
  refine cj_st (st' := [.int x2]) rfl ?_
  refine cj_if_eq (tgt := 27) dX7_reach_4 (by decide) (fun c3 => ?_) (fun c3 => ?_)
  · replace h := h.1 c3
    refine cj_vret rfl dX7_reach_27 ?_
    exact ⟨_, rfl, rfl, h⟩
  · replace h := h.2 c3
    refine cj_aload_n dX7_reach_7 rfl ?_
    refine cj_pc (pc' := 8) rfl ?_
    refine rm_get (.ref (ad 48)) flX7_97 dX7_reach_8 rfl ?_
    refine cj_iload_n dX7_reach_11 rfl ?_
    refine cj_iconst (v := 4) dX7_reach_12 (by decide) ?_
    refine cj_idiv dX7_reach_13 (by decide) ?_
    have i4 := h.1
    replace h := h.2
    refine rm_iald (j := 48) (x := (S.2 48) ((a1 / 4).toNatClampNeg)) hA rfl dX7_reach_14 i4 rfl ?_
    refine cj_pc (pc' := 15) rfl ?_
    refine cj_if_ge (tgt := 27) dX7_reach_15 (by decide) (fun c5 => ?_) (fun c5 => ?_)
    · replace h := h.1 c5
      refine cj_vret rfl dX7_reach_27 ?_
      exact ⟨_, rfl, rfl, h⟩
    · replace h := h.2 c5
      refine cj_aload_n dX7_reach_18 rfl ?_
      refine rm_get (.ref (ad 48)) flX7_97 dX7_reach_19 rfl ?_
      refine cj_iload_n dX7_reach_22 rfl ?_
      refine cj_pc (pc' := 23) rfl ?_
      refine cj_iconst (v := 4) dX7_reach_23 (by decide) ?_
      refine cj_idiv dX7_reach_24 (by decide) ?_
      refine cj_iconst (v := 0) dX7_reach_25 (by decide) ?_
      have i6 := h.1
      replace h := h.2
      refine rm_iast (j := 48) hA rfl dX7_reach_26 i6 ?_
      refine cj_vret rfl dX7_reach_27 ?_
      exact ⟨_, rfl, rfl, h⟩
def wl_live_7 (Q : Int32 → rm_S → Prop) (K : Int32 → rm_S → Prop) : Nat → Int32 → rm_S → Prop
  | 0, _, _ => False
  | n + 1, v1, S => ((400 ≤ v1 → K v1 S) ∧ (¬ 400 ≤ v1 → (vp_in v1 400 ∧ wl_live_7 Q K n (v1 + 1) (rm_pa S 48 v1.toNatClampNeg (-1)))))
def wl_live_45 (Q : Int32 → rm_S → Prop) (K : Int32 → rm_S → Prop) : Nat → Int32 → rm_S → Prop
  | 0, _, _ => False
  | n + 1, v1, S => (((S.1 51) ≤ v1 → K v1 S) ∧ (¬ (S.1 51) ≤ v1 → (vp_in v1 40 ∧ wp_reach S ((S.2 52) v1.toNatClampNeg) (fun S12 => wl_live_45 Q K n (v1 + 1) S12))))
def wl_live_134 (v1 : Int32) (v2 : Int32) (v3 : Int32) (Q : Int32 → rm_S → Prop) (K : Int32 → rm_S → Prop) : Nat → Int32 → rm_S → Prop
  | 0, _, _ => False
  | n + 1, v4, S => (vp_in v3 400 ∧ (((((S.2 44) v3.toNatClampNeg) >>> ((4 : Int32) &&& 31)) < v4 → K v4 S) ∧ (¬ (((S.2 44) v3.toNatClampNeg) >>> ((4 : Int32) &&& 31)) < v4 → (vp_in (v3 + v4) 400 ∧ wp_reach S ((S.2 44) ((v3 + v4).toNatClampNeg)) (fun S25 => wl_live_134 v1 v2 v3 Q K n (v4 + 1) S25)))))
def wl_live_84 (Q : Int32 → rm_S → Prop) (K : Int32 → Int32 → Int32 → rm_S → Prop) : Nat → Int32 → Int32 → Int32 → rm_S → Prop
  | 0, _, _, _, _ => False
  | n + 1, v1, v2, v3, S => ((((S.1 45) + (S.1 46)) ≤ v3 → K v1 v2 v3 S) ∧ (¬ ((S.1 45) + (S.1 46)) ≤ v3 → (vp_in v3 400 ∧ ((((S.2 48) v3.toNatClampNeg) = 0 → (vp_in v3 400 ∧ (vp_in v3 400 ∧ (∃ n9 : Nat, wl_live_134 (v1 + (1 + (((S.2 44) v3.toNatClampNeg) >>> ((4 : Int32) &&& 31)))) 1 v3 Q (fun w27 S26 => (vp_in v3 400 ∧ wl_live_84 Q K n (v1 + (1 + (((S.2 44) v3.toNatClampNeg) >>> ((4 : Int32) &&& 31)))) 1 (v3 + (1 + (((S26.2 44) v3.toNatClampNeg) >>> ((4 : Int32) &&& 31)))) S26)) n9 1 (rm_pa S 48 v3.toNatClampNeg 1))))) ∧ (¬ ((S.2 48) v3.toNatClampNeg) = 0 → (vp_in v3 400 ∧ wl_live_84 Q K n v1 v2 (v3 + (1 + (((S.2 44) v3.toNatClampNeg) >>> ((4 : Int32) &&& 31)))) S))))))
def wl_live_73 (Q : Int32 → rm_S → Prop) (K : Int32 → Int32 → rm_S → Prop) : Nat → Int32 → Int32 → rm_S → Prop
  | 0, _, _, _ => False
  | n + 1, v1, v2, S => ((v2 = 0 → K v1 v2 S) ∧ (¬ v2 = 0 → (∃ n9 : Nat, wl_live_84 Q (fun w31 w32 w33 S30 => wl_live_73 Q K n w31 w32 S30) n9 v1 0 (S.1 45) S)))
def wp_live (S : rm_S) (Q : Int32 → rm_S → Prop) : Prop := (∃ n9 : Nat, wl_live_7 Q (fun w4 S3 => wp_reach S3 (S3.1 49) (fun S6 => wp_reach S6 (S6.1 50) (fun S8 => (∃ n9 : Nat, wl_live_45 Q (fun w14 S13 => (∃ n9 : Nat, wl_live_73 Q (fun w35 w36 S34 => Q w35 S34) n9 0 1 S13)) n9 0 S8)))) n9 0 (rm_pf S 0 0))
set_option maxHeartbeats 4000000 in
set_option maxRecDepth 100000 in
theorem wl_live_7_ok {mo : Nat} {ad : Nat → Nat} (hA : rm_A mo ad) {G0 : cj_G} {d k0 n0 k n9 : Nat} (hd9 : 2 ≤ d) {Q : Int32 → rm_S → Prop} {K : Int32 → rm_S → Prop} (hK : ∀ (v1 : Int32) (S : rm_S), K v1 S → cj_J mX7_live d k0 n0 (rm_posti mo ad G0 Q) cj_no k n9 27 [(1, .int v1), (0, .ref mo)] [] (rm_md mo ad S G0)) : ∀ (n : Nat) (v1 : Int32) (S : rm_S), wl_live_7 Q K n v1 S → cj_J mX7_live d k0 n0 (rm_posti mo ad G0 Q) cj_no k n9 7 [(1, .int v1), (0, .ref mo)] [] (rm_md mo ad S G0) := by
  intro n
  induction n with
  | zero => intro v1 S h; exact absurd h id
  | succ n ih =>
    intro v1 S h
    unfold wl_live_7 at h
    refine cj_iload_n dX7_live_7 rfl ?_
    refine cj_sipush (v := 400) dX7_live_8 (by decide) ?_
    refine cj_icmp_ge (tgt := 27) dX7_live_11 (by decide) (fun c1 => ?_) (fun c1 => ?_)
    · replace h := h.1 c1
      refine cj_sub (lv' := [(1, .int v1), (0, .ref mo)]) (by simp) ?_
      exact hK _ _ h
    · replace h := h.2 c1
      refine cj_aload_n dX7_live_14 rfl ?_
      refine cj_pc (pc' := 15) rfl ?_
      refine rm_get (.ref (ad 48)) flX7_97 dX7_live_15 rfl ?_
      refine cj_iload_n dX7_live_18 rfl ?_
      refine cj_iconst (v := (-1)) dX7_live_19 (by decide) ?_
      have i2 := h.1
      replace h := h.2
      refine rm_iast (j := 48) hA rfl dX7_live_20 i2 ?_
      refine cj_iinc (v := v1 + 1) (lv' := [(1, .int (v1 + 1)), (0, .ref mo)]) dX7_live_21 rfl rfl (by decide) rfl ?_
      refine cj_pc (pc' := 24) rfl ?_
      refine cj_goto (tgt := 7) dX7_live_24 (by decide) ?_
      refine cj_sub (lv' := [(1, .int (v1 + 1)), (0, .ref mo)]) (by simp) ?_
      exact ih _ _ h
set_option maxHeartbeats 4000000 in
set_option maxRecDepth 100000 in
theorem wl_live_45_ok {mo : Nat} {ad : Nat → Nat} (hA : rm_A mo ad) {G0 : cj_G} {d k0 n0 k n9 : Nat} (hd9 : 2 ≤ d) {Q : Int32 → rm_S → Prop} {K : Int32 → rm_S → Prop} (hK : ∀ (v1 : Int32) (S : rm_S), K v1 S → cj_J mX7_live d k0 n0 (rm_posti mo ad G0 Q) cj_no k n9 69 [(1, .int v1), (0, .ref mo)] [] (rm_md mo ad S G0)) : ∀ (n : Nat) (v1 : Int32) (S : rm_S), wl_live_45 Q K n v1 S → cj_J mX7_live d k0 n0 (rm_posti mo ad G0 Q) cj_no k n9 45 [(1, .int v1), (0, .ref mo)] [] (rm_md mo ad S G0) := by
  intro n
  induction n with
  | zero => intro v1 S h; exact absurd h id
  | succ n ih =>
    intro v1 S h
    unfold wl_live_45 at h
    refine cj_iload_n dX7_live_45 rfl ?_
    refine cj_aload_n dX7_live_46 rfl ?_
    refine rm_get (.int (S.1 51)) flX7_306 dX7_live_47 rfl ?_
    refine cj_icmp_ge (tgt := 69) dX7_live_50 (by decide) (fun c9 => ?_) (fun c9 => ?_)
    · replace h := h.1 c9
      refine cj_sub (lv' := [(1, .int v1), (0, .ref mo)]) (by simp) ?_
      exact hK _ _ h
    · replace h := h.2 c9
      refine cj_aload_n dX7_live_53 rfl ?_
      refine cj_pc (pc' := 54) rfl ?_
      refine cj_aload_n dX7_live_54 rfl ?_
      refine rm_get (.ref (ad 52)) flX7_106 dX7_live_55 rfl ?_
      refine cj_iload_n dX7_live_58 rfl ?_
      have i10 := h.1
      replace h := h.2
      refine rm_iald (j := 52) (x := (S.2 52) v1.toNatClampNeg) hA rfl dX7_live_59 i10 rfl ?_
      refine cj_callV (M' := mX7_reach) (d' := 1) (k' := 0) (n' := 0) (index := 390) (np := 1) (As := [.int ((S.2 52) v1.toNatClampNeg)]) (rest := []) dX7_live_60 lkX7_390 mwX7_reach (tR_reach hA h) (by omega) rfl rfl (Nat.le_of_ble_eq_true rfl) rm_mo rfl (fun v9 G9 q11 => ?_) (fun _ _ h => absurd h id)
      obtain ⟨S12, e8, e9, h⟩ := q11
      subst e8
      subst e9
      refine cj_st (st' := []) rfl ?_
      refine cj_pc (pc' := 63) rfl ?_
      refine cj_iinc (v := v1 + 1) (lv' := [(1, .int (v1 + 1)), (0, .ref mo)]) dX7_live_63 rfl rfl (by decide) rfl ?_
      refine cj_goto (tgt := 45) dX7_live_66 (by decide) ?_
      refine cj_sub (lv' := [(1, .int (v1 + 1)), (0, .ref mo)]) (by simp) ?_
      exact ih _ _ h
set_option maxHeartbeats 4000000 in
set_option maxRecDepth 100000 in
theorem wl_live_134_ok {mo : Nat} {ad : Nat → Nat} (hA : rm_A mo ad) {G0 : cj_G} {d k0 n0 k n9 : Nat} (hd9 : 2 ≤ d) (v1 : Int32) (v2 : Int32) (v3 : Int32) {Q : Int32 → rm_S → Prop} {K : Int32 → rm_S → Prop} (hK : ∀ (v4 : Int32) (S : rm_S), K v4 S → cj_J mX7_live d k0 n0 (rm_posti mo ad G0 Q) cj_no k n9 166 [(1, .int v1), (2, .int v2), (3, .int v3), (4, .int v4), (0, .ref mo)] [] (rm_md mo ad S G0)) : ∀ (n : Nat) (v4 : Int32) (S : rm_S), wl_live_134 v1 v2 v3 Q K n v4 S → cj_J mX7_live d k0 n0 (rm_posti mo ad G0 Q) cj_no k n9 134 [(1, .int v1), (2, .int v2), (3, .int v3), (4, .int v4), (0, .ref mo)] [] (rm_md mo ad S G0) := by
  intro n
  induction n with
  | zero => intro v4 S h; exact absurd h id
  | succ n ih =>
    intro v4 S h
    unfold wl_live_134 at h
    refine cj_iload dX7_live_134 rfl ?_
    refine cj_pc (pc' := 136) rfl ?_
    refine cj_aload_n dX7_live_136 rfl ?_
    refine rm_get (.ref (ad 44)) flX7_94 dX7_live_137 rfl ?_
    refine cj_iload_n dX7_live_140 rfl ?_
    have i21 := h.1
    replace h := h.2
    refine rm_iald (j := 44) (x := (S.2 44) v3.toNatClampNeg) hA rfl dX7_live_141 i21 rfl ?_
    refine cj_iconst (v := 4) dX7_live_142 (by decide) ?_
    refine cj_pc (pc' := 143) rfl ?_
    refine cj_ishr dX7_live_143 ?_
    refine cj_icmp_gt (tgt := 166) dX7_live_144 (by decide) (fun c22 => ?_) (fun c22 => ?_)
    · replace h := h.1 c22
      refine cj_sub (lv' := [(1, .int v1), (2, .int v2), (3, .int v3), (4, .int v4), (0, .ref mo)]) (by simp) ?_
      exact hK _ _ h
    · replace h := h.2 c22
      refine cj_aload_n dX7_live_147 rfl ?_
      refine cj_aload_n dX7_live_148 rfl ?_
      refine rm_get (.ref (ad 44)) flX7_94 dX7_live_149 rfl ?_
      refine cj_pc (pc' := 152) rfl ?_
      refine cj_iload_n dX7_live_152 rfl ?_
      refine cj_iload dX7_live_153 rfl ?_
      refine cj_iadd dX7_live_155 ?_
      have i23 := h.1
      replace h := h.2
      refine rm_iald (j := 44) (x := (S.2 44) ((v3 + v4).toNatClampNeg)) hA rfl dX7_live_156 i23 rfl ?_
      refine cj_callV (M' := mX7_reach) (d' := 1) (k' := 0) (n' := 0) (index := 390) (np := 1) (As := [.int ((S.2 44) ((v3 + v4).toNatClampNeg))]) (rest := []) dX7_live_157 lkX7_390 mwX7_reach (tR_reach hA h) (by omega) rfl rfl (Nat.le_of_ble_eq_true rfl) rm_mo rfl (fun v9 G9 q24 => ?_) (fun _ _ h => absurd h id)
      obtain ⟨S25, e8, e9, h⟩ := q24
      subst e8
      subst e9
      refine cj_st (st' := []) rfl ?_
      refine cj_pc (pc' := 160) rfl ?_
      refine cj_iinc (v := v4 + 1) (lv' := [(4, .int (v4 + 1)), (1, .int v1), (2, .int v2), (3, .int v3), (0, .ref mo)]) dX7_live_160 rfl rfl (by decide) rfl ?_
      refine cj_goto (tgt := 134) dX7_live_163 (by decide) ?_
      refine cj_sub (lv' := [(1, .int v1), (2, .int v2), (3, .int v3), (4, .int (v4 + 1)), (0, .ref mo)]) (by simp) ?_
      exact ih _ _ h
set_option maxHeartbeats 4000000 in
set_option maxRecDepth 100000 in
theorem wl_live_84_ok {mo : Nat} {ad : Nat → Nat} (hA : rm_A mo ad) {G0 : cj_G} {d k0 n0 k n9 : Nat} (hd9 : 2 ≤ d) {Q : Int32 → rm_S → Prop} {K : Int32 → Int32 → Int32 → rm_S → Prop} (hK : ∀ (v1 : Int32) (v2 : Int32) (v3 : Int32) (S : rm_S), K v1 v2 v3 S → cj_J mX7_live d k0 n0 (rm_posti mo ad G0 Q) cj_no k n9 182 [(1, .int v1), (2, .int v2), (3, .int v3), (0, .ref mo)] [] (rm_md mo ad S G0)) : ∀ (n : Nat) (v1 : Int32) (v2 : Int32) (v3 : Int32) (S : rm_S), wl_live_84 Q K n v1 v2 v3 S → cj_J mX7_live d k0 n0 (rm_posti mo ad G0 Q) cj_no k n9 84 [(1, .int v1), (2, .int v2), (3, .int v3), (0, .ref mo)] [] (rm_md mo ad S G0) := by
  intro n
  induction n with
  | zero => intro v1 v2 v3 S h; exact absurd h id
  | succ n ih =>
    intro v1 v2 v3 S h
    unfold wl_live_84 at h
    refine cj_iload_n dX7_live_84 rfl ?_
    refine cj_aload_n dX7_live_85 rfl ?_
    refine cj_pc (pc' := 86) rfl ?_
    refine rm_get (.int (S.1 45)) flX7_300 dX7_live_86 rfl ?_
    refine cj_aload_n dX7_live_89 rfl ?_
    refine rm_get (.int (S.1 46)) flX7_297 dX7_live_90 rfl ?_
    refine cj_iadd dX7_live_93 ?_
    refine cj_icmp_ge (tgt := 182) dX7_live_94 (by decide) (fun c16 => ?_) (fun c16 => ?_)
    · replace h := h.1 c16
      refine cj_sub (lv' := [(1, .int v1), (2, .int v2), (3, .int v3), (0, .ref mo)]) (by simp) ?_
      exact hK _ _ _ _ h
    · replace h := h.2 c16
      refine cj_aload_n dX7_live_97 rfl ?_
      refine cj_pc (pc' := 98) rfl ?_
      refine rm_get (.ref (ad 48)) flX7_97 dX7_live_98 rfl ?_
      refine cj_iload_n dX7_live_101 rfl ?_
      have i17 := h.1
      replace h := h.2
      refine rm_iald (j := 48) (x := (S.2 48) v3.toNatClampNeg) hA rfl dX7_live_102 i17 rfl ?_
      refine cj_if_eq (tgt := 109) dX7_live_103 (by decide) (fun c18 => ?_) (fun c18 => ?_)
      · replace h := h.1 c18
        refine cj_aload_n dX7_live_109 rfl ?_
        refine cj_pc (pc' := 110) rfl ?_
        refine rm_get (.ref (ad 48)) flX7_97 dX7_live_110 rfl ?_
        refine cj_iload_n dX7_live_113 rfl ?_
        refine cj_iconst (v := 1) dX7_live_114 (by decide) ?_
        have i19 := h.1
        replace h := h.2
        refine rm_iast (j := 48) hA rfl dX7_live_115 i19 ?_
        refine cj_iconst (v := 1) dX7_live_116 (by decide) ?_
        refine cj_pc (pc' := 117) rfl ?_
        refine cj_istore_n (lv' := [(2, .int 1), (1, .int v1), (3, .int v3), (0, .ref mo)]) dX7_live_117 (by decide) rfl ?_
        refine cj_iload_n dX7_live_118 rfl ?_
        refine cj_iconst (v := 1) dX7_live_119 (by decide) ?_
        refine cj_aload_n dX7_live_120 rfl ?_
        refine rm_get (.ref (ad 44)) flX7_94 dX7_live_121 rfl ?_
        refine cj_pc (pc' := 124) rfl ?_
        refine cj_iload_n dX7_live_124 rfl ?_
        have i20 := h.1
        replace h := h.2
        refine rm_iald (j := 44) (x := (S.2 44) v3.toNatClampNeg) hA rfl dX7_live_125 i20 rfl ?_
        refine cj_iconst (v := 4) dX7_live_126 (by decide) ?_
        refine cj_ishr dX7_live_127 ?_
        refine cj_iadd dX7_live_128 ?_
        refine cj_pc (pc' := 129) rfl ?_
        refine cj_iadd dX7_live_129 ?_
        refine cj_istore_n (lv' := [(1, .int (v1 + (1 + (((S.2 44) v3.toNatClampNeg) >>> ((4 : Int32) &&& 31))))), (2, .int 1), (3, .int v3), (0, .ref mo)]) dX7_live_130 (by decide) rfl ?_
        refine cj_iconst (v := 1) dX7_live_131 (by decide) ?_
        refine cj_istore (lv' := [(4, .int 1), (1, .int (v1 + (1 + (((S.2 44) v3.toNatClampNeg) >>> ((4 : Int32) &&& 31))))), (2, .int 1), (3, .int v3), (0, .ref mo)]) dX7_live_132 (by decide) rfl ?_
        obtain ⟨n9, h⟩ := h
        refine cj_sub (lv' := [(1, .int (v1 + (1 + (((S.2 44) v3.toNatClampNeg) >>> ((4 : Int32) &&& 31))))), (2, .int 1), (3, .int v3), (4, .int 1), (0, .ref mo)]) (by simp) ?_
        refine wl_live_134_ok hA (by omega) _ _ _ ?_ n9 _ _ h
        clear h
        intro w27 S26 h
        refine cj_iload_n dX7_live_166 rfl ?_
        refine cj_iconst (v := 1) dX7_live_167 (by decide) ?_
        refine cj_aload_n dX7_live_168 rfl ?_
        refine cj_pc (pc' := 169) rfl ?_
        refine rm_get (.ref (ad 44)) flX7_94 dX7_live_169 rfl ?_
        refine cj_iload_n dX7_live_172 rfl ?_
        have i28 := h.1
        replace h := h.2
        refine rm_iald (j := 44) (x := (S26.2 44) v3.toNatClampNeg) hA rfl dX7_live_173 i28 rfl ?_
        refine cj_iconst (v := 4) dX7_live_174 (by decide) ?_
        refine cj_ishr dX7_live_175 ?_
        refine cj_pc (pc' := 176) rfl ?_
        refine cj_iadd dX7_live_176 ?_
        refine cj_iadd dX7_live_177 ?_
        refine cj_istore_n (lv' := [(3, .int (v3 + (1 + (((S26.2 44) v3.toNatClampNeg) >>> ((4 : Int32) &&& 31))))), (1, .int (v1 + (1 + (((S.2 44) v3.toNatClampNeg) >>> ((4 : Int32) &&& 31))))), (2, .int 1), (4, .int w27), (0, .ref mo)]) dX7_live_178 (by decide) rfl ?_
        refine cj_goto (tgt := 84) dX7_live_179 (by decide) ?_
        refine cj_sub (lv' := [(1, .int (v1 + (1 + (((S.2 44) v3.toNatClampNeg) >>> ((4 : Int32) &&& 31))))), (2, .int 1), (3, .int (v3 + (1 + (((S26.2 44) v3.toNatClampNeg) >>> ((4 : Int32) &&& 31))))), (0, .ref mo)]) (by simp) ?_
        exact ih _ _ _ _ h
      · replace h := h.2 c18
        refine cj_goto (tgt := 166) dX7_live_106 (by decide) ?_
        refine cj_pc (pc' := 166) rfl ?_
        refine cj_iload_n dX7_live_166 rfl ?_
        refine cj_iconst (v := 1) dX7_live_167 (by decide) ?_
        refine cj_aload_n dX7_live_168 rfl ?_
        refine rm_get (.ref (ad 44)) flX7_94 dX7_live_169 rfl ?_
        refine cj_iload_n dX7_live_172 rfl ?_
        refine cj_pc (pc' := 173) rfl ?_
        have i29 := h.1
        replace h := h.2
        refine rm_iald (j := 44) (x := (S.2 44) v3.toNatClampNeg) hA rfl dX7_live_173 i29 rfl ?_
        refine cj_iconst (v := 4) dX7_live_174 (by decide) ?_
        refine cj_ishr dX7_live_175 ?_
        refine cj_iadd dX7_live_176 ?_
        refine cj_iadd dX7_live_177 ?_
        refine cj_pc (pc' := 178) rfl ?_
        refine cj_istore_n (lv' := [(3, .int (v3 + (1 + (((S.2 44) v3.toNatClampNeg) >>> ((4 : Int32) &&& 31))))), (1, .int v1), (2, .int v2), (0, .ref mo)]) dX7_live_178 (by decide) rfl ?_
        refine cj_goto (tgt := 84) dX7_live_179 (by decide) ?_
        refine cj_sub (lv' := [(1, .int v1), (2, .int v2), (3, .int (v3 + (1 + (((S.2 44) v3.toNatClampNeg) >>> ((4 : Int32) &&& 31))))), (0, .ref mo)]) (by simp) ?_
        exact ih _ _ _ _ h
set_option maxHeartbeats 4000000 in
set_option maxRecDepth 100000 in
theorem wl_live_73_ok {mo : Nat} {ad : Nat → Nat} (hA : rm_A mo ad) {G0 : cj_G} {d k0 n0 k n9 : Nat} (hd9 : 2 ≤ d) {Q : Int32 → rm_S → Prop} {K : Int32 → Int32 → rm_S → Prop} (hK : ∀ (v1 : Int32) (v2 : Int32) (S : rm_S), K v1 v2 S → cj_J mX7_live d k0 n0 (rm_posti mo ad G0 Q) cj_no k n9 185 [(1, .int v1), (2, .int v2), (0, .ref mo)] [] (rm_md mo ad S G0)) : ∀ (n : Nat) (v1 : Int32) (v2 : Int32) (S : rm_S), wl_live_73 Q K n v1 v2 S → cj_J mX7_live d k0 n0 (rm_posti mo ad G0 Q) cj_no k n9 73 [(1, .int v1), (2, .int v2), (0, .ref mo)] [] (rm_md mo ad S G0) := by
  intro n
  induction n with
  | zero => intro v1 v2 S h; exact absurd h id
  | succ n ih =>
    intro v1 v2 S h
    unfold wl_live_73 at h
    refine cj_iload_n dX7_live_73 rfl ?_
    refine cj_if_eq (tgt := 185) dX7_live_74 (by decide) (fun c15 => ?_) (fun c15 => ?_)
    · replace h := h.1 c15
      refine cj_sub (lv' := [(1, .int v1), (2, .int v2), (0, .ref mo)]) (by simp) ?_
      exact hK _ _ _ h
    · replace h := h.2 c15
      refine cj_iconst (v := 0) dX7_live_77 (by decide) ?_
      refine cj_istore_n (lv' := [(2, .int 0), (1, .int v1), (0, .ref mo)]) dX7_live_78 (by decide) rfl ?_
      refine cj_pc (pc' := 79) rfl ?_
      refine cj_aload_n dX7_live_79 rfl ?_
      refine rm_get (.int (S.1 45)) flX7_300 dX7_live_80 rfl ?_
      refine cj_istore_n (lv' := [(3, .int (S.1 45)), (2, .int 0), (1, .int v1), (0, .ref mo)]) dX7_live_83 (by decide) rfl ?_
      obtain ⟨n9, h⟩ := h
      refine cj_sub (lv' := [(1, .int v1), (2, .int 0), (3, .int (S.1 45)), (0, .ref mo)]) (by simp) ?_
      refine wl_live_84_ok hA (by omega) ?_ n9 _ _ _ _ h
      clear h
      intro w31 w32 w33 S30 h
      refine cj_goto (tgt := 73) dX7_live_182 (by decide) ?_
      refine cj_sub (lv' := [(1, .int w31), (2, .int w32), (0, .ref mo)]) (by simp) ?_
      exact ih _ _ _ h
set_option maxHeartbeats 4000000 in
set_option maxRecDepth 100000 in
theorem tR_live {mo : Nat} {ad : Nat → Nat} (hA : rm_A mo ad) {G0 : cj_G} {S : rm_S} {Q : Int32 → rm_S → Prop} (h : wp_live S Q) : cj_T mX7_live 2 0 0 [.ref mo] (rm_md mo ad S G0) (rm_posti mo ad G0 Q) cj_no := by
  refine cj_T_of (by decide +kernel) (Nat.le_of_ble_eq_true rfl) ?_
  refine cj_lvs (lv' := [(0, .ref mo)]) rfl ?_
  unfold wp_live at h
  refine cj_aload_n dX7_live_0 rfl ?_
  refine cj_iconst (v := 0) dX7_live_1 (by decide) ?_
  refine rm_put flX7_112 dX7_live_2 rmp_0 rfl rfl (by decide) ?_
  refine cj_iconst (v := 0) dX7_live_5 (by decide) ?_
  refine cj_pc (pc' := 6) rfl ?_
  refine cj_istore_n (lv' := [(1, .int 0), (0, .ref mo)]) dX7_live_6 (by decide) rfl ?_
  obtain ⟨n9, h⟩ := h
  refine cj_sub (lv' := [(1, .int 0), (0, .ref mo)]) (by simp) ?_
  refine wl_live_7_ok hA (by omega) ?_ n9 _ _ h
  clear h
  intro w4 S3 h
  refine cj_aload_n dX7_live_27 rfl ?_
  refine cj_aload_n dX7_live_28 rfl ?_
  refine rm_get (.int (S3.1 49)) flX7_100 dX7_live_29 rfl ?_
  refine cj_callV (M' := mX7_reach) (d' := 1) (k' := 0) (n' := 0) (index := 390) (np := 1) (As := [.int (S3.1 49)]) (rest := []) dX7_live_32 lkX7_390 mwX7_reach (tR_reach hA h) (by omega) rfl rfl (Nat.le_of_ble_eq_true rfl) rm_mo rfl (fun v9 G9 q5 => ?_) (fun _ _ h => absurd h id)
  obtain ⟨S6, e8, e9, h⟩ := q5
  subst e8
  subst e9
  refine cj_st (st' := []) rfl ?_
  refine cj_pc (pc' := 35) rfl ?_
  refine cj_aload_n dX7_live_35 rfl ?_
  refine cj_aload_n dX7_live_36 rfl ?_
  refine rm_get (.int (S6.1 50)) flX7_103 dX7_live_37 rfl ?_
  refine cj_callV (M' := mX7_reach) (d' := 1) (k' := 0) (n' := 0) (index := 390) (np := 1) (As := [.int (S6.1 50)]) (rest := []) dX7_live_40 lkX7_390 mwX7_reach (tR_reach hA h) (by omega) rfl rfl (Nat.le_of_ble_eq_true rfl) rm_mo rfl (fun v9 G9 q7 => ?_) (fun _ _ h => absurd h id)
  obtain ⟨S8, e8, e9, h⟩ := q7
  subst e8
  subst e9
  refine cj_st (st' := []) rfl ?_
  refine cj_iconst (v := 0) dX7_live_43 (by decide) ?_
  refine cj_pc (pc' := 44) rfl ?_
  refine cj_istore_n (lv' := [(1, .int 0), (0, .ref mo)]) dX7_live_44 (by decide) rfl ?_
  obtain ⟨n9, h⟩ := h
  refine cj_sub (lv' := [(1, .int 0), (0, .ref mo)]) (by simp) ?_
  refine wl_live_45_ok hA (by omega) ?_ n9 _ _ h
  clear h
  intro w14 S13 h
  refine cj_iconst (v := 0) dX7_live_69 (by decide) ?_
  refine cj_istore_n (lv' := [(1, .int 0), (0, .ref mo)]) dX7_live_70 (by decide) rfl ?_
  refine cj_iconst (v := 1) dX7_live_71 (by decide) ?_
  refine cj_pc (pc' := 72) rfl ?_
  refine cj_istore_n (lv' := [(2, .int 1), (1, .int 0), (0, .ref mo)]) dX7_live_72 (by decide) rfl ?_
  obtain ⟨n9, h⟩ := h
  refine cj_sub (lv' := [(1, .int 0), (2, .int 1), (0, .ref mo)]) (by simp) ?_
  refine wl_live_73_ok hA (by omega) ?_ n9 _ _ _ h
  clear h
  intro w35 w36 S34 h
  refine cj_iload_n dX7_live_185 rfl ?_
  refine cj_iret rfl dX7_live_186 ?_
  exact ⟨_, _, rfl, rfl, h⟩
def wp_collections (S : rm_S) (Q : Int32 → rm_S → Prop) : Prop := Q (S.1 47) (rm_pf S 0 0)
set_option maxHeartbeats 4000000 in
set_option maxRecDepth 100000 in
theorem tR_collections {mo : Nat} {ad : Nat → Nat} (hA : rm_A mo ad) {G0 : cj_G} {S : rm_S} {Q : Int32 → rm_S → Prop} (h : wp_collections S Q) : cj_T mX7_collections 0 0 0 [.ref mo] (rm_md mo ad S G0) (rm_posti mo ad G0 Q) cj_no := by
  refine cj_T_of (by decide +kernel) (Nat.le_of_ble_eq_true rfl) ?_
  refine cj_lvs (lv' := [(0, .ref mo)]) rfl ?_
  unfold wp_collections at h
  refine cj_aload_n dX7_collections_0 rfl ?_
  refine cj_iconst (v := 0) dX7_collections_1 (by decide) ?_
  refine rm_put flX7_112 dX7_collections_2 rmp_0 rfl rfl (by decide) ?_
  refine cj_aload_n dX7_collections_5 rfl ?_
  refine cj_pc (pc' := 6) rfl ?_
  refine rm_get (.int (S.1 47)) flX7_303 dX7_collections_6 rfl ?_
  refine cj_iret rfl dX7_collections_9 ?_
  exact ⟨_, _, rfl, rfl, h⟩
def wl_follow_7 (v1 : Int32) (Q : Int32 → rm_S → Prop) (K : Int32 → Int32 → rm_S → Prop) : Nat → Int32 → Int32 → rm_S → Prop
  | 0, _, _, _ => False
  | n + 1, v2, v3, S => (((v3 &&& 3) = 0 → K v2 v3 S) ∧ (¬ (v3 &&& 3) = 0 → wp_field S v2 ((v3 &&& 3) - 1) (fun x3 S4 => wl_follow_7 v1 Q K n x3 ((v3.toUInt32 >>> (Int32.toUInt32 2 &&& Int32.toUInt32 31)).toInt32) S4)))
def wp_follow (S : rm_S) (a1 : Int32) (Q : Int32 → rm_S → Prop) : Prop := (∃ n9 : Nat, wl_follow_7 a1 Q (fun w6 w7 S5 => Q w6 S5) n9 (S.1 49) a1 S)
set_option maxHeartbeats 4000000 in
set_option maxRecDepth 100000 in
theorem wl_follow_7_ok {mo : Nat} {ad : Nat → Nat} (hA : rm_A mo ad) {G0 : cj_G} {d k0 n0 k n9 : Nat} (hd9 : 1 ≤ d) (v1 : Int32) {Q : Int32 → rm_S → Prop} {K : Int32 → Int32 → rm_S → Prop} (hK : ∀ (v2 : Int32) (v3 : Int32) (S : rm_S), K v2 v3 S → cj_J mX7_follow d k0 n0 (rm_posti mo ad G0 Q) cj_no k n9 31 [(1, .int v1), (2, .int v2), (3, .int v3), (0, .ref mo)] [] (rm_md mo ad S G0)) : ∀ (n : Nat) (v2 : Int32) (v3 : Int32) (S : rm_S), wl_follow_7 v1 Q K n v2 v3 S → cj_J mX7_follow d k0 n0 (rm_posti mo ad G0 Q) cj_no k n9 7 [(1, .int v1), (2, .int v2), (3, .int v3), (0, .ref mo)] [] (rm_md mo ad S G0) := by
  intro n
  induction n with
  | zero => intro v2 v3 S h; exact absurd h id
  | succ n ih =>
    intro v2 v3 S h
    unfold wl_follow_7 at h
    refine cj_iload_n dX7_follow_7 rfl ?_
    refine cj_iconst (v := 3) dX7_follow_8 (by decide) ?_
    refine cj_iand dX7_follow_9 ?_
    refine cj_if_eq (tgt := 31) dX7_follow_10 (by decide) (fun c1 => ?_) (fun c1 => ?_)
    · replace h := h.1 c1
      refine cj_sub (lv' := [(1, .int v1), (2, .int v2), (3, .int v3), (0, .ref mo)]) (by simp) ?_
      exact hK _ _ _ h
    · replace h := h.2 c1
      refine cj_aload_n dX7_follow_13 rfl ?_
      refine cj_pc (pc' := 14) rfl ?_
      refine cj_iload_n dX7_follow_14 rfl ?_
      refine cj_iload_n dX7_follow_15 rfl ?_
      refine cj_iconst (v := 3) dX7_follow_16 (by decide) ?_
      refine cj_iand dX7_follow_17 ?_
      refine cj_iconst (v := 1) dX7_follow_18 (by decide) ?_
      refine cj_pc (pc' := 19) rfl ?_
      refine cj_isub dX7_follow_19 ?_
      refine cj_callV (M' := mX7_field) (d' := 0) (k' := 0) (n' := 0) (index := 356) (np := 2) (As := [.int v2, .int ((v3 &&& 3) - 1)]) (rest := []) dX7_follow_20 lkX7_356 mwX7_field (tR_field hA h) (by omega) rfl rfl (Nat.le_of_ble_eq_true rfl) rm_mo rfl (fun v9 G9 q2 => ?_) (fun _ _ h => absurd h id)
      obtain ⟨x3, S4, e8, e9, h⟩ := q2
      subst e8
      subst e9
      refine cj_st (st' := [.int x3]) rfl ?_
      refine cj_istore_n (lv' := [(2, .int x3), (1, .int v1), (3, .int v3), (0, .ref mo)]) dX7_follow_23 (by decide) rfl ?_
      refine cj_iload_n dX7_follow_24 rfl ?_
      refine cj_iconst (v := 2) dX7_follow_25 (by decide) ?_
      refine cj_pc (pc' := 26) rfl ?_
      refine cj_iushr (v := (v3.toUInt32 >>> (Int32.toUInt32 2 &&& Int32.toUInt32 31)).toInt32) dX7_follow_26 rfl ?_
      refine cj_istore_n (lv' := [(3, .int ((v3.toUInt32 >>> (Int32.toUInt32 2 &&& Int32.toUInt32 31)).toInt32)), (2, .int x3), (1, .int v1), (0, .ref mo)]) dX7_follow_27 (by decide) rfl ?_
      refine cj_goto (tgt := 7) dX7_follow_28 (by decide) ?_
      refine cj_sub (lv' := [(1, .int v1), (2, .int x3), (3, .int ((v3.toUInt32 >>> (Int32.toUInt32 2 &&& Int32.toUInt32 31)).toInt32)), (0, .ref mo)]) (by simp) ?_
      exact ih _ _ _ h
set_option maxHeartbeats 4000000 in
set_option maxRecDepth 100000 in
theorem tR_follow {mo : Nat} {ad : Nat → Nat} (hA : rm_A mo ad) {G0 : cj_G} {S : rm_S} {a1 : Int32} {Q : Int32 → rm_S → Prop} (h : wp_follow S a1 Q) : cj_T mX7_follow 1 0 0 [.ref mo, .int a1] (rm_md mo ad S G0) (rm_posti mo ad G0 Q) cj_no := by
  refine cj_T_of (by decide +kernel) (Nat.le_of_ble_eq_true rfl) ?_
  refine cj_lvs (lv' := [(0, .ref mo), (1, .int a1)]) rfl ?_
  unfold wp_follow at h
  refine cj_aload_n dX7_follow_0 rfl ?_
  refine rm_get (.int (S.1 49)) flX7_100 dX7_follow_1 rfl ?_
  refine cj_istore_n (lv' := [(2, .int (S.1 49)), (0, .ref mo), (1, .int a1)]) dX7_follow_4 (by decide) rfl ?_
  refine cj_iload_n dX7_follow_5 rfl ?_
  refine cj_pc (pc' := 6) rfl ?_
  refine cj_istore_n (lv' := [(3, .int a1), (2, .int (S.1 49)), (0, .ref mo), (1, .int a1)]) dX7_follow_6 (by decide) rfl ?_
  obtain ⟨n9, h⟩ := h
  refine cj_sub (lv' := [(1, .int a1), (2, .int (S.1 49)), (3, .int a1), (0, .ref mo)]) (by simp) ?_
  refine wl_follow_7_ok hA (by omega) _ ?_ n9 _ _ _ h
  clear h
  intro w6 w7 S5 h
  refine cj_iload_n dX7_follow_31 rfl ?_
  refine cj_iret rfl dX7_follow_32 ?_
  exact ⟨_, _, rfl, rfl, h⟩
def wp_kindOf (S : rm_S) (a1 : Int32) (Q : Int32 → rm_S → Prop) : Prop := wp_follow S a1 (fun x2 S3 => wp_isInt x2 (fun x5 => ((x5 = 0 → wp_isBuilt S3 x2 (fun x8 S9 => ((x8 = 0 → Q 3 S9) ∧ (¬ x8 = 0 → Q 2 S9)))) ∧ (¬ x5 = 0 → Q 1 S3))))
set_option maxHeartbeats 4000000 in
set_option maxRecDepth 100000 in
theorem tR_kindOf {mo : Nat} {ad : Nat → Nat} (hA : rm_A mo ad) {G0 : cj_G} {S : rm_S} {a1 : Int32} {Q : Int32 → rm_S → Prop} (h : wp_kindOf S a1 Q) : cj_T mX7_kindOf 2 0 0 [.ref mo, .int a1] (rm_md mo ad S G0) (rm_posti mo ad G0 Q) cj_no := by
  refine cj_T_of (by decide +kernel) (Nat.le_of_ble_eq_true rfl) ?_
  refine cj_lvs (lv' := [(0, .ref mo), (1, .int a1)]) rfl ?_
  unfold wp_kindOf at h
  refine cj_aload_n dX7_kindOf_0 rfl ?_
  refine cj_iload_n dX7_kindOf_1 rfl ?_
  refine cj_callV (M' := mX7_follow) (d' := 1) (k' := 0) (n' := 0) (index := 393) (np := 1) (As := [.int a1]) (rest := []) dX7_kindOf_2 lkX7_393 mwX7_follow (tR_follow hA h) (by omega) rfl rfl (Nat.le_of_ble_eq_true rfl) rm_mo rfl (fun v9 G9 q1 => ?_) (fun _ _ h => absurd h id)
  obtain ⟨x2, S3, e8, e9, h⟩ := q1
  subst e8
  subst e9
  refine cj_st (st' := [.int x2]) rfl ?_
  refine cj_istore_n (lv' := [(2, .int x2), (0, .ref mo), (1, .int a1)]) dX7_kindOf_5 (by decide) rfl ?_
  refine cj_pc (pc' := 6) rfl ?_
  refine cj_iload_n dX7_kindOf_6 rfl ?_
  refine cj_callS (M' := mX7_isInt) (d' := 0) (k' := 0) (n' := 0) (index := 344) (np := 1) (As := [.int x2]) (rest := []) dX7_kindOf_7 lkX7_344 mwX7_isInt (tR_isInt h) (by omega) rfl rfl (Nat.le_of_ble_eq_true rfl) (fun v9 G9 q4 => ?_) (fun _ _ h => absurd h id)
  obtain ⟨x5, e8, e9, h⟩ := q4
  subst e8
  subst e9
  refine cj_st (st' := [.int x5]) rfl ?_
  refine cj_if_eq (tgt := 17) dX7_kindOf_10 (by decide) (fun c6 => ?_) (fun c6 => ?_)
  · replace h := h.1 c6
    refine cj_aload_n dX7_kindOf_17 rfl ?_
    refine cj_iload_n dX7_kindOf_18 rfl ?_
    refine cj_pc (pc' := 19) rfl ?_
    refine cj_callV (M' := mX7_isBuilt) (d' := 1) (k' := 0) (n' := 0) (index := 350) (np := 1) (As := [.int x2]) (rest := []) dX7_kindOf_19 lkX7_350 mwX7_isBuilt (tR_isBuilt hA h) (by omega) rfl rfl (Nat.le_of_ble_eq_true rfl) rm_mo rfl (fun v9 G9 q7 => ?_) (fun _ _ h => absurd h id)
    obtain ⟨x8, S9, e8, e9, h⟩ := q7
    subst e8
    subst e9
    refine cj_st (st' := [.int x8]) rfl ?_
    refine cj_if_eq (tgt := 29) dX7_kindOf_22 (by decide) (fun c10 => ?_) (fun c10 => ?_)
    · replace h := h.1 c10
      refine cj_iconst (v := 3) dX7_kindOf_29 (by decide) ?_
      refine cj_iret rfl dX7_kindOf_30 ?_
      exact ⟨_, _, rfl, rfl, h⟩
    · replace h := h.2 c10
      refine cj_iconst (v := 2) dX7_kindOf_25 (by decide) ?_
      refine cj_pc (pc' := 26) rfl ?_
      refine cj_goto (tgt := 30) dX7_kindOf_26 (by decide) ?_
      refine cj_iret rfl dX7_kindOf_30 ?_
      exact ⟨_, _, rfl, rfl, h⟩
  · replace h := h.2 c6
    refine cj_iconst (v := 1) dX7_kindOf_13 (by decide) ?_
    refine cj_goto (tgt := 30) dX7_kindOf_14 (by decide) ?_
    refine cj_iret rfl dX7_kindOf_30 ?_
    exact ⟨_, _, rfl, rfl, h⟩
def wl_ends_7 (v1 : Int32) (Q : Int32 → rm_S → Prop) (K : Int32 → Int32 → rm_S → Prop) : Nat → Int32 → Int32 → rm_S → Prop
  | 0, _, _, _ => False
  | n + 1, v2, v3, S => (((v3 &&& 3) = 0 → K v2 v3 S) ∧ (¬ (v3 &&& 3) = 0 → wp_isPointer v2 (fun x3 => ((¬ x3 = 0 → wp_blockKind S v2 (fun x6 S7 => ((7 < x6 → Q 0 S7) ∧ (¬ 7 < x6 → wp_blockSize S7 v2 (fun x10 S11 => (((v3 &&& 3) ≤ x10 → wp_field S11 v2 ((v3 &&& 3) - 1) (fun x14 S15 => wl_ends_7 v1 Q K n x14 ((v3.toUInt32 >>> (Int32.toUInt32 2 &&& Int32.toUInt32 31)).toInt32) S15)) ∧ (¬ (v3 &&& 3) ≤ x10 → Q 0 S11))))))) ∧ (x3 = 0 → Q 0 S)))))
def wp_ends (S : rm_S) (a1 : Int32) (Q : Int32 → rm_S → Prop) : Prop := (∃ n9 : Nat, wl_ends_7 a1 Q (fun w17 w18 S16 => Q 1 S16) n9 (S.1 49) a1 S)
set_option maxHeartbeats 4000000 in
set_option maxRecDepth 100000 in
theorem wl_ends_7_ok {mo : Nat} {ad : Nat → Nat} (hA : rm_A mo ad) {G0 : cj_G} {d k0 n0 k n9 : Nat} (hd9 : 1 ≤ d) (v1 : Int32) {Q : Int32 → rm_S → Prop} {K : Int32 → Int32 → rm_S → Prop} (hK : ∀ (v2 : Int32) (v3 : Int32) (S : rm_S), K v2 v3 S → cj_J mX7_ends d k0 n0 (rm_posti mo ad G0 Q) cj_no k n9 63 [(1, .int v1), (2, .int v2), (3, .int v3), (0, .ref mo)] [] (rm_md mo ad S G0)) : ∀ (n : Nat) (v2 : Int32) (v3 : Int32) (S : rm_S), wl_ends_7 v1 Q K n v2 v3 S → cj_J mX7_ends d k0 n0 (rm_posti mo ad G0 Q) cj_no k n9 7 [(1, .int v1), (2, .int v2), (3, .int v3), (0, .ref mo)] [] (rm_md mo ad S G0) := by
  intro n
  induction n with
  | zero => intro v2 v3 S h; exact absurd h id
  | succ n ih =>
    intro v2 v3 S h
    unfold wl_ends_7 at h
    refine cj_iload_n dX7_ends_7 rfl ?_
    refine cj_iconst (v := 3) dX7_ends_8 (by decide) ?_
    refine cj_iand dX7_ends_9 ?_
    refine cj_if_eq (tgt := 63) dX7_ends_10 (by decide) (fun c1 => ?_) (fun c1 => ?_)
    · replace h := h.1 c1
      refine cj_sub (lv' := [(1, .int v1), (2, .int v2), (3, .int v3), (0, .ref mo)]) (by simp) ?_
      exact hK _ _ _ h
    · replace h := h.2 c1
      refine cj_iload_n dX7_ends_13 rfl ?_
      refine cj_pc (pc' := 14) rfl ?_
      refine cj_callS (M' := mX7_isPointer) (d' := 0) (k' := 0) (n' := 0) (index := 318) (np := 1) (As := [.int v2]) (rest := []) dX7_ends_14 lkX7_318 mwX7_isPointer (tR_isPointer h) (by omega) rfl rfl (Nat.le_of_ble_eq_true rfl) (fun v9 G9 q2 => ?_) (fun _ _ h => absurd h id)
      obtain ⟨x3, e8, e9, h⟩ := q2
      subst e8
      subst e9
      refine cj_st (st' := [.int x3]) rfl ?_
      refine cj_if_ne (tgt := 22) dX7_ends_17 (by decide) (fun c4 => ?_) (fun c4 => ?_)
      · replace h := h.1 c4
        refine cj_aload_n dX7_ends_22 rfl ?_
        refine cj_iload_n dX7_ends_23 rfl ?_
        refine cj_callV (M' := mX7_blockKind) (d' := 0) (k' := 0) (n' := 0) (index := 331) (np := 1) (As := [.int v2]) (rest := []) dX7_ends_24 lkX7_331 mwX7_blockKind (tR_blockKind hA h) (by omega) rfl rfl (Nat.le_of_ble_eq_true rfl) rm_mo rfl (fun v9 G9 q5 => ?_) (fun _ _ h => absurd h id)
        obtain ⟨x6, S7, e8, e9, h⟩ := q5
        subst e8
        subst e9
        refine cj_st (st' := [.int x6]) rfl ?_
        refine cj_pc (pc' := 27) rfl ?_
        refine cj_bipush (v := 7) dX7_ends_27 (by decide) ?_
        refine cj_icmp_gt (tgt := 43) dX7_ends_29 (by decide) (fun c8 => ?_) (fun c8 => ?_)
        · replace h := h.1 c8
          refine cj_iconst (v := 0) dX7_ends_43 (by decide) ?_
          refine cj_zret rfl rfl dX7_ends_44 ?_
          exact ⟨_, _, rfl, rfl, h⟩
        · replace h := h.2 c8
          refine cj_iload_n dX7_ends_32 rfl ?_
          refine cj_pc (pc' := 33) rfl ?_
          refine cj_iconst (v := 3) dX7_ends_33 (by decide) ?_
          refine cj_iand dX7_ends_34 ?_
          refine cj_aload_n dX7_ends_35 rfl ?_
          refine cj_iload_n dX7_ends_36 rfl ?_
          refine cj_callV (M' := mX7_blockSize) (d' := 0) (k' := 0) (n' := 0) (index := 322) (np := 1) (As := [.int v2]) (rest := [.int (v3 &&& 3)]) dX7_ends_37 lkX7_322 mwX7_blockSize (tR_blockSize hA h) (by omega) rfl rfl (Nat.le_of_ble_eq_true rfl) rm_mo rfl (fun v9 G9 q9 => ?_) (fun _ _ h => absurd h id)
          obtain ⟨x10, S11, e8, e9, h⟩ := q9
          subst e8
          subst e9
          refine cj_st (st' := [.int x10, .int (v3 &&& 3)]) rfl ?_
          refine cj_pc (pc' := 40) rfl ?_
          refine cj_icmp_le (tgt := 45) dX7_ends_40 (by decide) (fun c12 => ?_) (fun c12 => ?_)
          · replace h := h.1 c12
            refine cj_aload_n dX7_ends_45 rfl ?_
            refine cj_iload_n dX7_ends_46 rfl ?_
            refine cj_iload_n dX7_ends_47 rfl ?_
            refine cj_iconst (v := 3) dX7_ends_48 (by decide) ?_
            refine cj_pc (pc' := 49) rfl ?_
            refine cj_iand dX7_ends_49 ?_
            refine cj_iconst (v := 1) dX7_ends_50 (by decide) ?_
            refine cj_isub dX7_ends_51 ?_
            refine cj_callV (M' := mX7_field) (d' := 0) (k' := 0) (n' := 0) (index := 356) (np := 2) (As := [.int v2, .int ((v3 &&& 3) - 1)]) (rest := []) dX7_ends_52 lkX7_356 mwX7_field (tR_field hA h) (by omega) rfl rfl (Nat.le_of_ble_eq_true rfl) rm_mo rfl (fun v9 G9 q13 => ?_) (fun _ _ h => absurd h id)
            obtain ⟨x14, S15, e8, e9, h⟩ := q13
            subst e8
            subst e9
            refine cj_st (st' := [.int x14]) rfl ?_
            refine cj_istore_n (lv' := [(2, .int x14), (1, .int v1), (3, .int v3), (0, .ref mo)]) dX7_ends_55 (by decide) rfl ?_
            refine cj_pc (pc' := 56) rfl ?_
            refine cj_iload_n dX7_ends_56 rfl ?_
            refine cj_iconst (v := 2) dX7_ends_57 (by decide) ?_
            refine cj_iushr (v := (v3.toUInt32 >>> (Int32.toUInt32 2 &&& Int32.toUInt32 31)).toInt32) dX7_ends_58 rfl ?_
            refine cj_istore_n (lv' := [(3, .int ((v3.toUInt32 >>> (Int32.toUInt32 2 &&& Int32.toUInt32 31)).toInt32)), (2, .int x14), (1, .int v1), (0, .ref mo)]) dX7_ends_59 (by decide) rfl ?_
            refine cj_goto (tgt := 7) dX7_ends_60 (by decide) ?_
            refine cj_sub (lv' := [(1, .int v1), (2, .int x14), (3, .int ((v3.toUInt32 >>> (Int32.toUInt32 2 &&& Int32.toUInt32 31)).toInt32)), (0, .ref mo)]) (by simp) ?_
            exact ih _ _ _ h
          · replace h := h.2 c12
            refine cj_iconst (v := 0) dX7_ends_43 (by decide) ?_
            refine cj_pc (pc' := 44) rfl ?_
            refine cj_zret rfl rfl dX7_ends_44 ?_
            exact ⟨_, _, rfl, rfl, h⟩
      · replace h := h.2 c4
        refine cj_iconst (v := 0) dX7_ends_20 (by decide) ?_
        refine cj_zret rfl rfl dX7_ends_21 ?_
        exact ⟨_, _, rfl, rfl, h⟩
set_option maxHeartbeats 4000000 in
set_option maxRecDepth 100000 in
theorem tR_ends {mo : Nat} {ad : Nat → Nat} (hA : rm_A mo ad) {G0 : cj_G} {S : rm_S} {a1 : Int32} {Q : Int32 → rm_S → Prop} (h : wp_ends S a1 Q) : cj_T mX7_ends 1 0 0 [.ref mo, .int a1] (rm_md mo ad S G0) (rm_posti mo ad G0 Q) cj_no := by
  refine cj_T_of (by decide +kernel) (Nat.le_of_ble_eq_true rfl) ?_
  refine cj_lvs (lv' := [(0, .ref mo), (1, .int a1)]) rfl ?_
  unfold wp_ends at h
  refine cj_aload_n dX7_ends_0 rfl ?_
  refine rm_get (.int (S.1 49)) flX7_100 dX7_ends_1 rfl ?_
  refine cj_istore_n (lv' := [(2, .int (S.1 49)), (0, .ref mo), (1, .int a1)]) dX7_ends_4 (by decide) rfl ?_
  refine cj_iload_n dX7_ends_5 rfl ?_
  refine cj_pc (pc' := 6) rfl ?_
  refine cj_istore_n (lv' := [(3, .int a1), (2, .int (S.1 49)), (0, .ref mo), (1, .int a1)]) dX7_ends_6 (by decide) rfl ?_
  obtain ⟨n9, h⟩ := h
  refine cj_sub (lv' := [(1, .int a1), (2, .int (S.1 49)), (3, .int a1), (0, .ref mo)]) (by simp) ?_
  refine wl_ends_7_ok hA (by omega) _ ?_ n9 _ _ _ h
  clear h
  intro w17 w18 S16 h
  refine cj_iconst (v := 1) dX7_ends_63 (by decide) ?_
  refine cj_zret rfl rfl dX7_ends_64 ?_
  exact ⟨_, _, rfl, rfl, h⟩
def wp_kind (S : rm_S) (a1 : Int32) (Q : Int32 → rm_S → Prop) : Prop := wp_ends (rm_pf S 0 0) a1 (fun x2 S3 => ((x2 = 0 → Q 0 S3) ∧ (¬ x2 = 0 → wp_kindOf S3 a1 (fun x6 S7 => Q x6 S7))))
set_option maxHeartbeats 4000000 in
set_option maxRecDepth 100000 in
theorem tR_kind {mo : Nat} {ad : Nat → Nat} (hA : rm_A mo ad) {G0 : cj_G} {S : rm_S} {a1 : Int32} {Q : Int32 → rm_S → Prop} (h : wp_kind S a1 Q) : cj_T mX7_kind 3 0 0 [.ref mo, .int a1] (rm_md mo ad S G0) (rm_posti mo ad G0 Q) cj_no := by
  refine cj_T_of (by decide +kernel) (Nat.le_of_ble_eq_true rfl) ?_
  refine cj_lvs (lv' := [(0, .ref mo), (1, .int a1)]) rfl ?_
  unfold wp_kind at h
  refine cj_aload_n dX7_kind_0 rfl ?_
  refine cj_iconst (v := 0) dX7_kind_1 (by decide) ?_
  refine rm_put flX7_112 dX7_kind_2 rmp_0 rfl rfl (by decide) ?_
  refine cj_aload_n dX7_kind_5 rfl ?_
  refine cj_pc (pc' := 6) rfl ?_
  refine cj_iload_n dX7_kind_6 rfl ?_
  refine cj_callV (M' := mX7_ends) (d' := 1) (k' := 0) (n' := 0) (index := 396) (np := 1) (As := [.int a1]) (rest := []) dX7_kind_7 lkX7_396 mwX7_ends (tR_ends hA h) (by omega) rfl rfl (Nat.le_of_ble_eq_true rfl) rm_mo rfl (fun v9 G9 q1 => ?_) (fun _ _ h => absurd h id)
  obtain ⟨x2, S3, e8, e9, h⟩ := q1
  subst e8
  subst e9
  refine cj_st (st' := [.int x2]) rfl ?_
  refine cj_if_eq (tgt := 21) dX7_kind_10 (by decide) (fun c4 => ?_) (fun c4 => ?_)
  · replace h := h.1 c4
    refine cj_iconst (v := 0) dX7_kind_21 (by decide) ?_
    refine cj_iret rfl dX7_kind_22 ?_
    exact ⟨_, _, rfl, rfl, h⟩
  · replace h := h.2 c4
    refine cj_aload_n dX7_kind_13 rfl ?_
    refine cj_pc (pc' := 14) rfl ?_
    refine cj_iload_n dX7_kind_14 rfl ?_
    refine cj_callV (M' := mX7_kindOf) (d' := 2) (k' := 0) (n' := 0) (index := 399) (np := 1) (As := [.int a1]) (rest := []) dX7_kind_15 lkX7_399 mwX7_kindOf (tR_kindOf hA h) (by omega) rfl rfl (Nat.le_of_ble_eq_true rfl) rm_mo rfl (fun v9 G9 q5 => ?_) (fun _ _ h => absurd h id)
    obtain ⟨x6, S7, e8, e9, h⟩ := q5
    subst e8
    subst e9
    refine cj_st (st' := [.int x6]) rfl ?_
    refine cj_goto (tgt := 22) dX7_kind_18 (by decide) ?_
    refine cj_iret rfl dX7_kind_22 ?_
    exact ⟨_, _, rfl, rfl, h⟩
def wp_value (S : rm_S) (a1 : Int32) (Q : Int32 → rm_S → Prop) : Prop := wp_ends (rm_pf S 0 0) a1 (fun x2 S3 => ((¬ x2 = 0 → wp_follow S3 a1 (fun x6 S7 => wp_isInt x6 (fun x9 => ((x9 = 0 → wp_isBuilt S7 x6 (fun x12 S13 => ((x12 = 0 → wp_field S13 x6 0 (fun x16 S17 => Q (x16 >>> ((1 : Int32) &&& 31)) S17)) ∧ (¬ x12 = 0 → wp_tagOf S13 x6 (fun x19 S20 => Q x19 S20))))) ∧ (¬ x9 = 0 → Q (x6 >>> ((1 : Int32) &&& 31)) S7))))) ∧ (x2 = 0 → Q 0 S3)))
set_option maxHeartbeats 4000000 in
set_option maxRecDepth 100000 in
theorem tR_value {mo : Nat} {ad : Nat → Nat} (hA : rm_A mo ad) {G0 : cj_G} {S : rm_S} {a1 : Int32} {Q : Int32 → rm_S → Prop} (h : wp_value S a1 Q) : cj_T mX7_value 2 0 0 [.ref mo, .int a1] (rm_md mo ad S G0) (rm_posti mo ad G0 Q) cj_no := by
  refine cj_T_of (by decide +kernel) (Nat.le_of_ble_eq_true rfl) ?_
  refine cj_lvs (lv' := [(0, .ref mo), (1, .int a1)]) rfl ?_
  unfold wp_value at h
  refine cj_aload_n dX7_value_0 rfl ?_
  refine cj_iconst (v := 0) dX7_value_1 (by decide) ?_
  refine rm_put flX7_112 dX7_value_2 rmp_0 rfl rfl (by decide) ?_
  refine cj_aload_n dX7_value_5 rfl ?_
  refine cj_pc (pc' := 6) rfl ?_
  refine cj_iload_n dX7_value_6 rfl ?_
  refine cj_callV (M' := mX7_ends) (d' := 1) (k' := 0) (n' := 0) (index := 396) (np := 1) (As := [.int a1]) (rest := []) dX7_value_7 lkX7_396 mwX7_ends (tR_ends hA h) (by omega) rfl rfl (Nat.le_of_ble_eq_true rfl) rm_mo rfl (fun v9 G9 q1 => ?_) (fun _ _ h => absurd h id)
  obtain ⟨x2, S3, e8, e9, h⟩ := q1
  subst e8
  subst e9
  refine cj_st (st' := [.int x2]) rfl ?_
  refine cj_if_ne (tgt := 15) dX7_value_10 (by decide) (fun c4 => ?_) (fun c4 => ?_)
  · replace h := h.1 c4
    refine cj_aload_n dX7_value_15 rfl ?_
    refine cj_iload_n dX7_value_16 rfl ?_
    refine cj_pc (pc' := 17) rfl ?_
    refine cj_callV (M' := mX7_follow) (d' := 1) (k' := 0) (n' := 0) (index := 393) (np := 1) (As := [.int a1]) (rest := []) dX7_value_17 lkX7_393 mwX7_follow (tR_follow hA h) (by omega) rfl rfl (Nat.le_of_ble_eq_true rfl) rm_mo rfl (fun v9 G9 q5 => ?_) (fun _ _ h => absurd h id)
    obtain ⟨x6, S7, e8, e9, h⟩ := q5
    subst e8
    subst e9
    refine cj_st (st' := [.int x6]) rfl ?_
    refine cj_istore_n (lv' := [(2, .int x6), (0, .ref mo), (1, .int a1)]) dX7_value_20 (by decide) rfl ?_
    refine cj_iload_n dX7_value_21 rfl ?_
    refine cj_callS (M' := mX7_isInt) (d' := 0) (k' := 0) (n' := 0) (index := 344) (np := 1) (As := [.int x6]) (rest := []) dX7_value_22 lkX7_344 mwX7_isInt (tR_isInt h) (by omega) rfl rfl (Nat.le_of_ble_eq_true rfl) (fun v9 G9 q8 => ?_) (fun _ _ h => absurd h id)
    obtain ⟨x9, e8, e9, h⟩ := q8
    subst e8
    subst e9
    refine cj_st (st' := [.int x9]) rfl ?_
    refine cj_if_eq (tgt := 34) dX7_value_25 (by decide) (fun c10 => ?_) (fun c10 => ?_)
    · replace h := h.1 c10
      refine cj_aload_n dX7_value_34 rfl ?_
      refine cj_pc (pc' := 35) rfl ?_
      refine cj_iload_n dX7_value_35 rfl ?_
      refine cj_callV (M' := mX7_isBuilt) (d' := 1) (k' := 0) (n' := 0) (index := 350) (np := 1) (As := [.int x6]) (rest := []) dX7_value_36 lkX7_350 mwX7_isBuilt (tR_isBuilt hA h) (by omega) rfl rfl (Nat.le_of_ble_eq_true rfl) rm_mo rfl (fun v9 G9 q11 => ?_) (fun _ _ h => absurd h id)
      obtain ⟨x12, S13, e8, e9, h⟩ := q11
      subst e8
      subst e9
      refine cj_st (st' := [.int x12]) rfl ?_
      refine cj_if_eq (tgt := 50) dX7_value_39 (by decide) (fun c14 => ?_) (fun c14 => ?_)
      · replace h := h.1 c14
        refine cj_aload_n dX7_value_50 rfl ?_
        refine cj_iload_n dX7_value_51 rfl ?_
        refine cj_pc (pc' := 52) rfl ?_
        refine cj_iconst (v := 0) dX7_value_52 (by decide) ?_
        refine cj_callV (M' := mX7_field) (d' := 0) (k' := 0) (n' := 0) (index := 356) (np := 2) (As := [.int x6, .int 0]) (rest := []) dX7_value_53 lkX7_356 mwX7_field (tR_field hA h) (by omega) rfl rfl (Nat.le_of_ble_eq_true rfl) rm_mo rfl (fun v9 G9 q15 => ?_) (fun _ _ h => absurd h id)
        obtain ⟨x16, S17, e8, e9, h⟩ := q15
        subst e8
        subst e9
        refine cj_st (st' := [.int x16]) rfl ?_
        refine cj_iconst (v := 1) dX7_value_56 (by decide) ?_
        refine cj_ishr dX7_value_57 ?_
        refine cj_iret rfl dX7_value_58 ?_
        exact ⟨_, _, rfl, rfl, h⟩
      · replace h := h.2 c14
        refine cj_aload_n dX7_value_42 rfl ?_
        refine cj_pc (pc' := 43) rfl ?_
        refine cj_iload_n dX7_value_43 rfl ?_
        refine cj_callV (M' := mX7_tagOf) (d' := 1) (k' := 0) (n' := 0) (index := 337) (np := 1) (As := [.int x6]) (rest := []) dX7_value_44 lkX7_337 mwX7_tagOf (tR_tagOf hA h) (by omega) rfl rfl (Nat.le_of_ble_eq_true rfl) rm_mo rfl (fun v9 G9 q18 => ?_) (fun _ _ h => absurd h id)
        obtain ⟨x19, S20, e8, e9, h⟩ := q18
        subst e8
        subst e9
        refine cj_st (st' := [.int x19]) rfl ?_
        refine cj_goto (tgt := 58) dX7_value_47 (by decide) ?_
        refine cj_iret rfl dX7_value_58 ?_
        exact ⟨_, _, rfl, rfl, h⟩
    · replace h := h.2 c10
      refine cj_iload_n dX7_value_28 rfl ?_
      refine cj_pc (pc' := 29) rfl ?_
      refine cj_iconst (v := 1) dX7_value_29 (by decide) ?_
      refine cj_ishr dX7_value_30 ?_
      refine cj_goto (tgt := 58) dX7_value_31 (by decide) ?_
      refine cj_iret rfl dX7_value_58 ?_
      exact ⟨_, _, rfl, rfl, h⟩
  · replace h := h.2 c4
    refine cj_iconst (v := 0) dX7_value_13 (by decide) ?_
    refine cj_pc (pc' := 14) rfl ?_
    refine cj_iret rfl dX7_value_14 ?_
    exact ⟨_, _, rfl, rfl, h⟩
