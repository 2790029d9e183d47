/-! THE REFERENCE, by program: wp_<method>: what must hold so that it comes to its end with Q; tR_<method>: its contract -/
def wp_isInt (a1 : Int32) (Q : Int32 → Prop) : Prop := ((¬ (a1 &&& 1) = 1 → Q 0) ∧ ((a1 &&& 1) = 1 → Q 1))
set_option maxHeartbeats 4000000 in
set_option maxRecDepth 100000 in
theorem tR_isInt {G0 : cj_G} {a1 : Int32} {Q : Int32 → Prop} (h : wp_isInt a1 Q) : cj_T mX7_isInt 0 0 0 [.int a1] G0 (rm_posts G0 Q) cj_no := by
  refine cj_T_of (by decide +kernel) (Nat.le_of_ble_eq_true rfl) ?_
  refine cj_lvs (lv' := [(0, .int a1)]) rfl ?_
  unfold wp_isInt at h
  refine cj_iload_n dX7_isInt_0 rfl ?_
  refine cj_iconst (v := 1) dX7_isInt_1 (by decide) ?_
  refine cj_iand dX7_isInt_2 ?_
  refine cj_iconst (v := 1) dX7_isInt_3 (by decide) ?_
  refine cj_pc (pc' := 4) rfl ?_
  refine cj_icmp_ne (tgt := 11) dX7_isInt_4 (by decide) (fun c1 => ?_) (fun c1 => ?_)
  · replace h := h.1 c1
    refine cj_iconst (v := 0) dX7_isInt_11 (by decide) ?_
    refine cj_zret rfl rfl dX7_isInt_12 ?_
    exact ⟨_, rfl, rfl, h⟩
  · replace h := h.2 c1
    refine cj_iconst (v := 1) dX7_isInt_7 (by decide) ?_
    refine cj_goto (tgt := 12) dX7_isInt_8 (by decide) ?_
    refine cj_pc (pc' := 12) rfl ?_
    refine cj_zret rfl rfl dX7_isInt_12 ?_
    exact ⟨_, rfl, rfl, h⟩
def wp_isPointer (a1 : Int32) (Q : Int32 → Prop) : Prop := ((¬ (a1 &&& 3) = 0 → Q 0) ∧ ((a1 &&& 3) = 0 → Q 1))
set_option maxHeartbeats 4000000 in
set_option maxRecDepth 100000 in
theorem tR_isPointer {G0 : cj_G} {a1 : Int32} {Q : Int32 → Prop} (h : wp_isPointer a1 Q) : cj_T mX7_isPointer 0 0 0 [.int a1] G0 (rm_posts G0 Q) cj_no := by
  refine cj_T_of (by decide +kernel) (Nat.le_of_ble_eq_true rfl) ?_
  refine cj_lvs (lv' := [(0, .int a1)]) rfl ?_
  unfold wp_isPointer at h
  refine cj_iload_n dX7_isPointer_0 rfl ?_
  refine cj_iconst (v := 3) dX7_isPointer_1 (by decide) ?_
  refine cj_iand dX7_isPointer_2 ?_
  refine cj_if_ne (tgt := 10) dX7_isPointer_3 (by decide) (fun c1 => ?_) (fun c1 => ?_)
  · replace h := h.1 c1
    refine cj_iconst (v := 0) dX7_isPointer_10 (by decide) ?_
    refine cj_pc (pc' := 11) rfl ?_
    refine cj_zret rfl rfl dX7_isPointer_11 ?_
    exact ⟨_, rfl, rfl, h⟩
  · replace h := h.2 c1
    refine cj_iconst (v := 1) dX7_isPointer_6 (by decide) ?_
    refine cj_goto (tgt := 11) dX7_isPointer_7 (by decide) ?_
    refine cj_zret rfl rfl dX7_isPointer_11 ?_
    exact ⟨_, rfl, rfl, h⟩
def wp_isTag (a1 : Int32) (Q : Int32 → Prop) : Prop := ((¬ (a1 &&& 3) = 2 → Q 0) ∧ ((a1 &&& 3) = 2 → Q 1))
set_option maxHeartbeats 4000000 in
set_option maxRecDepth 100000 in
theorem tR_isTag {G0 : cj_G} {a1 : Int32} {Q : Int32 → Prop} (h : wp_isTag a1 Q) : cj_T mX7_isTag 0 0 0 [.int a1] G0 (rm_posts G0 Q) cj_no := by
  refine cj_T_of (by decide +kernel) (Nat.le_of_ble_eq_true rfl) ?_
  refine cj_lvs (lv' := [(0, .int a1)]) rfl ?_
  unfold wp_isTag at h
  refine cj_iload_n dX7_isTag_0 rfl ?_
  refine cj_iconst (v := 3) dX7_isTag_1 (by decide) ?_
  refine cj_iand dX7_isTag_2 ?_
  refine cj_iconst (v := 2) dX7_isTag_3 (by decide) ?_
  refine cj_pc (pc' := 4) rfl ?_
  refine cj_icmp_ne (tgt := 11) dX7_isTag_4 (by decide) (fun c1 => ?_) (fun c1 => ?_)
  · replace h := h.1 c1
    refine cj_iconst (v := 0) dX7_isTag_11 (by decide) ?_
    refine cj_zret rfl rfl dX7_isTag_12 ?_
    exact ⟨_, rfl, rfl, h⟩
  · replace h := h.2 c1
    refine cj_iconst (v := 1) dX7_isTag_7 (by decide) ?_
    refine cj_goto (tgt := 12) dX7_isTag_8 (by decide) ?_
    refine cj_pc (pc' := 12) rfl ?_
    refine cj_zret rfl rfl dX7_isTag_12 ?_
    exact ⟨_, rfl, rfl, h⟩
def wp_blockKind (S : rm_S) (a1 : Int32) (Q : Int32 → rm_S → Prop) : Prop := (vp_in (a1 / 4) 400 ∧ Q (((S.2 44) ((a1 / 4).toNatClampNeg)) &&& 15) S)
set_option maxHeartbeats 4000000 in
set_option maxRecDepth 100000 in
theorem tR_blockKind {mo : Nat} {ad : Nat → Nat} (hA : rm_A mo ad) {G0 : cj_G} {S : rm_S} {a1 : Int32} {Q : Int32 → rm_S → Prop} (h : wp_blockKind S a1 Q) : cj_T mX7_blockKind 0 0 0 [.ref mo, .int a1] (rm_md mo ad S G0) (rm_posti mo ad G0 Q) cj_no := by
  refine cj_T_of (by decide +kernel) (Nat.le_of_ble_eq_true rfl) ?_
  refine cj_lvs (lv' := [(0, .ref mo), (1, .int a1)]) rfl ?_
  unfold wp_blockKind at h
  refine cj_aload_n dX7_blockKind_0 rfl ?_
  refine rm_get (.ref (ad 44)) flX7_94 dX7_blockKind_1 rfl ?_
  refine cj_iload_n dX7_blockKind_4 rfl ?_
  refine cj_iconst (v := 4) dX7_blockKind_5 (by decide) ?_
  refine cj_pc (pc' := 6) rfl ?_
  refine cj_idiv dX7_blockKind_6 (by decide) ?_
  have i1 := h.1
  replace h := h.2
  refine rm_iald (j := 44) (x := (S.2 44) ((a1 / 4).toNatClampNeg)) hA rfl dX7_blockKind_7 i1 rfl ?_
  refine cj_bipush (v := 15) dX7_blockKind_8 (by decide) ?_
  refine cj_iand dX7_blockKind_10 ?_
  refine cj_iret rfl dX7_blockKind_11 ?_
  exact ⟨_, _, rfl, rfl, h⟩
def wp_blockSize (S : rm_S) (a1 : Int32) (Q : Int32 → rm_S → Prop) : Prop := (vp_in (a1 / 4) 400 ∧ Q (((S.2 44) ((a1 / 4).toNatClampNeg)) >>> ((4 : Int32) &&& 31)) S)
set_option maxHeartbeats 4000000 in
set_option maxRecDepth 100000 in
theorem tR_blockSize {mo : Nat} {ad : Nat → Nat} (hA : rm_A mo ad) {G0 : cj_G} {S : rm_S} {a1 : Int32} {Q : Int32 → rm_S → Prop} (h : wp_blockSize S a1 Q) : cj_T mX7_blockSize 0 0 0 [.ref mo, .int a1] (rm_md mo ad S G0) (rm_posti mo ad G0 Q) cj_no := by
  refine cj_T_of (by decide +kernel) (Nat.le_of_ble_eq_true rfl) ?_
  refine cj_lvs (lv' := [(0, .ref mo), (1, .int a1)]) rfl ?_
  unfold wp_blockSize at h
  refine cj_aload_n dX7_blockSize_0 rfl ?_
  refine rm_get (.ref (ad 44)) flX7_94 dX7_blockSize_1 rfl ?_
  refine cj_iload_n dX7_blockSize_4 rfl ?_
  refine cj_iconst (v := 4) dX7_blockSize_5 (by decide) ?_
  refine cj_pc (pc' := 6) rfl ?_
  refine cj_idiv dX7_blockSize_6 (by decide) ?_
  have i1 := h.1
  replace h := h.2
  refine rm_iald (j := 44) (x := (S.2 44) ((a1 / 4).toNatClampNeg)) hA rfl dX7_blockSize_7 i1 rfl ?_
  refine cj_iconst (v := 4) dX7_blockSize_8 (by decide) ?_
  refine cj_ishr dX7_blockSize_9 ?_
  refine cj_iret rfl dX7_blockSize_10 ?_
  exact ⟨_, _, rfl, rfl, h⟩
def wp_field (S : rm_S) (a1 : Int32) (a2 : Int32) (Q : Int32 → rm_S → Prop) : Prop := (vp_in (((a1 / 4) + 1) + a2) 400 ∧ Q ((S.2 44) ((((a1 / 4) + 1) + a2).toNatClampNeg)) S)
set_option maxHeartbeats 4000000 in
set_option maxRecDepth 100000 in
theorem tR_field {mo : Nat} {ad : Nat → Nat} (hA : rm_A mo ad) {G0 : cj_G} {S : rm_S} {a1 : Int32} {a2 : Int32} {Q : Int32 → rm_S → Prop} (h : wp_field S a1 a2 Q) : cj_T mX7_field 0 0 0 [.ref mo, .int a1, .int a2] (rm_md mo ad S G0) (rm_posti mo ad G0 Q) cj_no := by
  refine cj_T_of (by decide +kernel) (Nat.le_of_ble_eq_true rfl) ?_
  refine cj_lvs (lv' := [(0, .ref mo), (1, .int a1), (2, .int a2)]) rfl ?_
  unfold wp_field at h
  refine cj_aload_n dX7_field_0 rfl ?_
  refine rm_get (.ref (ad 44)) flX7_94 dX7_field_1 rfl ?_
  refine cj_iload_n dX7_field_4 rfl ?_
  refine cj_iconst (v := 4) dX7_field_5 (by decide) ?_
  refine cj_pc (pc' := 6) rfl ?_
  refine cj_idiv dX7_field_6 (by decide) ?_
  refine cj_iconst (v := 1) dX7_field_7 (by decide) ?_
  refine cj_iadd dX7_field_8 ?_
  refine cj_iload_n dX7_field_9 rfl ?_
  refine cj_iadd dX7_field_10 ?_
  refine cj_pc (pc' := 11) rfl ?_
  have i1 := h.1
  replace h := h.2
  refine rm_iald (j := 44) (x := (S.2 44) ((((a1 / 4) + 1) + a2).toNatClampNeg)) hA rfl dX7_field_11 i1 rfl ?_
  refine cj_iret rfl dX7_field_12 ?_
  exact ⟨_, _, rfl, rfl, h⟩
def wp_block (S : rm_S) (a1 : Int32) (a2 : Int32) (a3 : Int32) (Q : Int32 → rm_S → Prop) : Prop := (vp_in ((S.1 45) + (S.1 46)) 400 ∧ (vp_in (((S.1 45) + (S.1 46)) + 1) 400 ∧ (vp_in (((S.1 45) + (S.1 46)) + 2) 400 ∧ Q (4 * ((S.1 45) + (S.1 46))) (rm_pf (rm_pa (rm_pa (rm_pa S 44 (((S.1 45) + (S.1 46)).toNatClampNeg) (32 + a1)) 44 ((((S.1 45) + (S.1 46)) + 1).toNatClampNeg) a2) 44 ((((S.1 45) + (S.1 46)) + 2).toNatClampNeg) a3) 46 ((S.1 46) + 3)))))
set_option maxHeartbeats 4000000 in
set_option maxRecDepth 100000 in
theorem tR_block {mo : Nat} {ad : Nat → Nat} (hA : rm_A mo ad) {G0 : cj_G} {S : rm_S} {a1 : Int32} {a2 : Int32} {a3 : Int32} {Q : Int32 → rm_S → Prop} (h : wp_block S a1 a2 a3 Q) : cj_T mX7_block 0 0 0 [.ref mo, .int a1, .int a2, .int a3] (rm_md mo ad S G0) (rm_posti mo ad G0 Q) cj_no := by
  refine cj_T_of (by decide +kernel) (Nat.le_of_ble_eq_true rfl) ?_
  refine cj_lvs (lv' := [(0, .ref mo), (1, .int a1), (2, .int a2), (3, .int a3)]) rfl ?_
  unfold wp_block at h
  refine cj_aload_n dX7_block_0 rfl ?_
  refine rm_get (.int (S.1 45)) flX7_300 dX7_block_1 rfl ?_
  refine cj_aload_n dX7_block_4 rfl ?_
  refine rm_get (.int (S.1 46)) flX7_297 dX7_block_5 rfl ?_
  refine cj_pc (pc' := 8) rfl ?_
  refine cj_iadd dX7_block_8 ?_
  refine cj_istore (lv' := [(4, .int ((S.1 45) + (S.1 46))), (0, .ref mo), (1, .int a1), (2, .int a2), (3, .int a3)]) dX7_block_9 (by decide) rfl ?_
  refine cj_aload_n dX7_block_11 rfl ?_
  refine rm_get (.ref (ad 44)) flX7_94 dX7_block_12 rfl ?_
  refine cj_iload dX7_block_15 rfl ?_
  refine cj_pc (pc' := 17) rfl ?_
  refine cj_bipush (v := 32) dX7_block_17 (by decide) ?_
  refine cj_iload_n dX7_block_19 rfl ?_
  refine cj_iadd dX7_block_20 ?_
  have i1 := h.1
  replace h := h.2
  refine rm_iast (j := 44) hA rfl dX7_block_21 i1 ?_
  refine cj_aload_n dX7_block_22 rfl ?_
  refine cj_pc (pc' := 23) rfl ?_
  refine rm_get (.ref (ad 44)) flX7_94 dX7_block_23 rfl ?_
  refine cj_iload dX7_block_26 rfl ?_
  refine cj_iconst (v := 1) dX7_block_28 (by decide) ?_
  refine cj_iadd dX7_block_29 ?_
  refine cj_iload_n dX7_block_30 rfl ?_
  refine cj_pc (pc' := 31) rfl ?_
  have i2 := h.1
  replace h := h.2
  refine rm_iast (j := 44) hA rfl dX7_block_31 i2 ?_
  refine cj_aload_n dX7_block_32 rfl ?_
  refine rm_get (.ref (ad 44)) flX7_94 dX7_block_33 rfl ?_
  refine cj_iload dX7_block_36 rfl ?_
  refine cj_iconst (v := 2) dX7_block_38 (by decide) ?_
  refine cj_pc (pc' := 39) rfl ?_
  refine cj_iadd dX7_block_39 ?_
  refine cj_iload_n dX7_block_40 rfl ?_
  have i3 := h.1
  replace h := h.2
  refine rm_iast (j := 44) hA rfl dX7_block_41 i3 ?_
  refine cj_aload_n dX7_block_42 rfl ?_
  refine cj_dup dX7_block_43 rfl ?_
  refine cj_pc (pc' := 44) rfl ?_
  refine rm_get (.int (S.1 46)) flX7_297 dX7_block_44 rfl ?_
  refine cj_iconst (v := 3) dX7_block_47 (by decide) ?_
  refine cj_iadd dX7_block_48 ?_
  refine rm_put flX7_297 dX7_block_49 rmp_46 rfl rfl (by decide) ?_
  refine cj_iconst (v := 4) dX7_block_52 (by decide) ?_
  refine cj_pc (pc' := 53) rfl ?_
  refine cj_iload dX7_block_53 rfl ?_
  refine cj_imul dX7_block_55 ?_
  refine cj_iret rfl dX7_block_56 ?_
  exact ⟨_, _, rfl, rfl, h⟩
def wl_move_55 (v1 : Int32) (v2 : Int32) (v3 : Int32) (v4 : Int32) (Q : Int32 → rm_S → Prop) (K : Int32 → rm_S → Prop) : Nat → Int32 → rm_S → Prop
  | 0, _, _ => False
  | n + 1, v5, S => ((v4 ≤ v5 → K v5 S) ∧ (¬ v4 ≤ v5 → (vp_in (v3 + v5) 400 ∧ (vp_in ((v2 + (S.1 46)) + v5) 400 ∧ wl_move_55 v1 v2 v3 v4 Q K n (v5 + 1) (rm_pa S 44 (((v2 + (S.1 46)) + v5).toNatClampNeg) ((S.2 44) ((v3 + v5).toNatClampNeg)))))))
def wp_move (S : rm_S) (a1 : Int32) (a2 : Int32) (Q : Int32 → rm_S → Prop) : Prop := wp_isPointer a1 (fun x2 => ((¬ x2 = 0 → (vp_in (a1 / 4) 400 ∧ ((((S.2 48) ((a1 / 4).toNatClampNeg)) < 0 → wp_blockSize S a1 (fun x7 S8 => (vp_in (a1 / 4) 400 ∧ (∃ n9 : Nat, wl_move_55 a1 a2 (a1 / 4) (1 + x7) Q (fun w14 S13 => (vp_in (a1 / 4) 400 ∧ Q (4 * ((S13.2 48) ((a1 / 4).toNatClampNeg))) (rm_pf S13 46 ((S13.1 46) + (1 + x7))))) n9 0 (rm_pa S8 48 ((a1 / 4).toNatClampNeg) (a2 + (S8.1 46))))))) ∧ (¬ ((S.2 48) ((a1 / 4).toNatClampNeg)) < 0 → (vp_in (a1 / 4) 400 ∧ Q (4 * ((S.2 48) ((a1 / 4).toNatClampNeg))) S))))) ∧ (x2 = 0 → Q a1 S)))
set_option maxHeartbeats 4000000 in
set_option maxRecDepth 100000 in
theorem wl_move_55_ok {mo : Nat} {ad : Nat → Nat} (hA : rm_A mo ad) {G0 : cj_G} {d k0 n0 k n9 : Nat} (hd9 : 1 ≤ d) (v1 : Int32) (v2 : Int32) (v3 : Int32) (v4 : Int32) {Q : Int32 → rm_S → Prop} {K : Int32 → rm_S → Prop} (hK : ∀ (v5 : Int32) (S : rm_S), K v5 S → cj_J mX7_move d k0 n0 (rm_posti mo ad G0 Q) cj_no k n9 91 [(1, .int v1), (2, .int v2), (3, .int v3), (4, .int v4), (5, .int v5), (0, .ref mo)] [] (rm_md mo ad S G0)) : ∀ (n : Nat) (v5 : Int32) (S : rm_S), wl_move_55 v1 v2 v3 v4 Q K n v5 S → cj_J mX7_move d k0 n0 (rm_posti mo ad G0 Q) cj_no k n9 55 [(1, .int v1), (2, .int v2), (3, .int v3), (4, .int v4), (5, .int v5), (0, .ref mo)] [] (rm_md mo ad S G0) := by
  intro n
  induction n with
  | zero => intro v5 S h; exact absurd h id
  | succ n ih =>
    intro v5 S h
    unfold wl_move_55 at h
    refine cj_iload dX7_move_55 rfl ?_
    refine cj_pc (pc' := 57) rfl ?_
    refine cj_iload dX7_move_57 rfl ?_
    refine cj_icmp_ge (tgt := 91) dX7_move_59 (by decide) (fun c10 => ?_) (fun c10 => ?_)
    · replace h := h.1 c10
      refine cj_sub (lv' := [(1, .int v1), (2, .int v2), (3, .int v3), (4, .int v4), (5, .int v5), (0, .ref mo)]) (by simp) ?_
      exact hK _ _ h
    · replace h := h.2 c10
      refine cj_aload_n dX7_move_62 rfl ?_
      refine rm_get (.ref (ad 44)) flX7_94 dX7_move_63 rfl ?_
      refine cj_iload_n dX7_move_66 rfl ?_
      refine cj_pc (pc' := 67) rfl ?_
      refine cj_aload_n dX7_move_67 rfl ?_
      refine rm_get (.int (S.1 46)) flX7_297 dX7_move_68 rfl ?_
      refine cj_iadd dX7_move_71 ?_
      refine cj_iload dX7_move_72 rfl ?_
      refine cj_iadd dX7_move_74 ?_
      refine cj_pc (pc' := 75) rfl ?_
      refine cj_aload_n dX7_move_75 rfl ?_
      refine rm_get (.ref (ad 44)) flX7_94 dX7_move_76 rfl ?_
      refine cj_iload_n dX7_move_79 rfl ?_
      refine cj_iload dX7_move_80 rfl ?_
      refine cj_iadd dX7_move_82 ?_
      refine cj_pc (pc' := 83) rfl ?_
      have i11 := h.1
      replace h := h.2
      refine rm_iald (j := 44) (x := (S.2 44) ((v3 + v5).toNatClampNeg)) hA rfl dX7_move_83 i11 rfl ?_
      have i12 := h.1
      replace h := h.2
      refine rm_iast (j := 44) hA rfl dX7_move_84 i12 ?_
      refine cj_iinc (v := v5 + 1) (lv' := [(5, .int (v5 + 1)), (1, .int v1), (2, .int v2), (3, .int v3), (4, .int v4), (0, .ref mo)]) dX7_move_85 rfl rfl (by decide) rfl ?_
      refine cj_goto (tgt := 55) dX7_move_88 (by decide) ?_
      refine cj_sub (lv' := [(1, .int v1), (2, .int v2), (3, .int v3), (4, .int v4), (5, .int (v5 + 1)), (0, .ref mo)]) (by simp) ?_
      exact ih _ _ h
set_option maxHeartbeats 4000000 in
set_option maxRecDepth 100000 in
theorem tR_move {mo : Nat} {ad : Nat → Nat} (hA : rm_A mo ad) {G0 : cj_G} {S : rm_S} {a1 : Int32} {a2 : Int32} {Q : Int32 → rm_S → Prop} (h : wp_move S a1 a2 Q) : cj_T mX7_move 1 0 0 [.ref mo, .int a1, .int a2] (rm_md mo ad S G0) (rm_posti mo ad G0 Q) cj_no := by
  refine cj_T_of (by decide +kernel) (Nat.le_of_ble_eq_true rfl) ?_
  refine cj_lvs (lv' := [(0, .ref mo), (1, .int a1), (2, .int a2)]) rfl ?_
  unfold wp_move at h
  refine cj_iload_n dX7_move_0 rfl ?_
  refine cj_callS (M' := mX7_isPointer) (d' := 0) (k' := 0) (n' := 0) (index := 318) (np := 1) (As := [.int a1]) (rest := []) dX7_move_1 lkX7_318 mwX7_isPointer (tR_isPointer h) (by omega) rfl rfl (Nat.le_of_ble_eq_true rfl) (fun v9 G9 q1 => ?_) (fun _ _ h => absurd h id)
  obtain ⟨x2, e8, e9, h⟩ := q1
  subst e8
  subst e9
  refine cj_st (st' := [.int x2]) rfl ?_
  refine cj_if_ne (tgt := 9) dX7_move_4 (by decide) (fun c3 => ?_) (fun c3 => ?_)
  · replace h := h.1 c3
    refine cj_iload_n dX7_move_9 rfl ?_
    refine cj_pc (pc' := 10) rfl ?_
    refine cj_iconst (v := 4) dX7_move_10 (by decide) ?_
    refine cj_idiv dX7_move_11 (by decide) ?_
    refine cj_istore_n (lv' := [(3, .int (a1 / 4)), (0, .ref mo), (1, .int a1), (2, .int a2)]) dX7_move_12 (by decide) rfl ?_
    refine cj_aload_n dX7_move_13 rfl ?_
    refine rm_get (.ref (ad 48)) flX7_97 dX7_move_14 rfl ?_
    refine cj_pc (pc' := 17) rfl ?_
    refine cj_iload_n dX7_move_17 rfl ?_
    have i4 := h.1
    replace h := h.2
    refine rm_iald (j := 48) (x := (S.2 48) ((a1 / 4).toNatClampNeg)) hA rfl dX7_move_18 i4 rfl ?_
    refine cj_if_lt (tgt := 31) dX7_move_19 (by decide) (fun c5 => ?_) (fun c5 => ?_)
    · replace h := h.1 c5
      refine cj_iconst (v := 1) dX7_move_31 (by decide) ?_
      refine cj_aload_n dX7_move_32 rfl ?_
      refine cj_pc (pc' := 33) rfl ?_
      refine cj_iload_n dX7_move_33 rfl ?_
      refine cj_callV (M' := mX7_blockSize) (d' := 0) (k' := 0) (n' := 0) (index := 322) (np := 1) (As := [.int a1]) (rest := [.int 1]) dX7_move_34 lkX7_322 mwX7_blockSize (tR_blockSize hA h) (by omega) rfl rfl (Nat.le_of_ble_eq_true rfl) rm_mo rfl (fun v9 G9 q6 => ?_) (fun _ _ h => absurd h id)
      obtain ⟨x7, S8, e8, e9, h⟩ := q6
      subst e8
      subst e9
      refine cj_st (st' := [.int x7, .int 1]) rfl ?_
      refine cj_iadd dX7_move_37 ?_
      refine cj_istore (lv' := [(4, .int (1 + x7)), (3, .int (a1 / 4)), (0, .ref mo), (1, .int a1), (2, .int a2)]) dX7_move_38 (by decide) rfl ?_
      refine cj_aload_n dX7_move_40 rfl ?_
      refine cj_pc (pc' := 41) rfl ?_
      refine rm_get (.ref (ad 48)) flX7_97 dX7_move_41 rfl ?_
      refine cj_iload_n dX7_move_44 rfl ?_
      refine cj_iload_n dX7_move_45 rfl ?_
      refine cj_aload_n dX7_move_46 rfl ?_
      refine rm_get (.int (S8.1 46)) flX7_297 dX7_move_47 rfl ?_
      refine cj_pc (pc' := 50) rfl ?_
      refine cj_iadd dX7_move_50 ?_
      have i9 := h.1
      replace h := h.2
      refine rm_iast (j := 48) hA rfl dX7_move_51 i9 ?_
      refine cj_iconst (v := 0) dX7_move_52 (by decide) ?_
      refine cj_istore (lv' := [(5, .int 0), (4, .int (1 + x7)), (3, .int (a1 / 4)), (0, .ref mo), (1, .int a1), (2, .int a2)]) dX7_move_53 (by decide) rfl ?_
      obtain ⟨n9, h⟩ := h
      refine cj_sub (lv' := [(1, .int a1), (2, .int a2), (3, .int (a1 / 4)), (4, .int (1 + x7)), (5, .int 0), (0, .ref mo)]) (by simp) ?_
      refine wl_move_55_ok hA (by omega) _ _ _ _ ?_ n9 _ _ h
      clear h
      intro w14 S13 h
      refine cj_aload_n dX7_move_91 rfl ?_
      refine cj_pc (pc' := 92) rfl ?_
      refine cj_dup dX7_move_92 rfl ?_
      refine rm_get (.int (S13.1 46)) flX7_297 dX7_move_93 rfl ?_
      refine cj_iload dX7_move_96 rfl ?_
      refine cj_iadd dX7_move_98 ?_
      refine rm_put flX7_297 dX7_move_99 rmp_46 rfl rfl (by decide) ?_
      refine cj_pc (pc' := 102) rfl ?_
      refine cj_iconst (v := 4) dX7_move_102 (by decide) ?_
      refine cj_aload_n dX7_move_103 rfl ?_
      refine rm_get (.ref (ad 48)) flX7_97 dX7_move_104 rfl ?_
      refine cj_iload_n dX7_move_107 rfl ?_
      have i15 := h.1
      replace h := h.2
      refine rm_iald (j := 48) (x := (S13.2 48) ((a1 / 4).toNatClampNeg)) hA rfl dX7_move_108 i15 rfl ?_
      refine cj_pc (pc' := 109) rfl ?_
      refine cj_imul dX7_move_109 ?_
      refine cj_iret rfl dX7_move_110 ?_
      exact ⟨_, _, rfl, rfl, h⟩
    · replace h := h.2 c5
      refine cj_iconst (v := 4) dX7_move_22 (by decide) ?_
      refine cj_aload_n dX7_move_23 rfl ?_
      refine rm_get (.ref (ad 48)) flX7_97 dX7_move_24 rfl ?_
      refine cj_pc (pc' := 27) rfl ?_
      refine cj_iload_n dX7_move_27 rfl ?_
      have i16 := h.1
      replace h := h.2
      refine rm_iald (j := 48) (x := (S.2 48) ((a1 / 4).toNatClampNeg)) hA rfl dX7_move_28 i16 rfl ?_
      refine cj_imul dX7_move_29 ?_
      refine cj_iret rfl dX7_move_30 ?_
      exact ⟨_, _, rfl, rfl, h⟩
  · replace h := h.2 c3
    refine cj_iload_n dX7_move_7 rfl ?_
    refine cj_pc (pc' := 8) rfl ?_
    refine cj_iret rfl dX7_move_8 ?_
    exact ⟨_, _, rfl, rfl, h⟩
def wl_collect_18 (v1 : Int32) (Q : rm_S → Prop) (K : Int32 → rm_S → Prop) : Nat → Int32 → rm_S → Prop
  | 0, _, _ => False
  | n + 1, v2, S => ((400 ≤ v2 → K v2 S) ∧ (¬ 400 ≤ v2 → (vp_in v2 400 ∧ wl_collect_18 v1 Q K n (v2 + 1) (rm_pa S 48 v2.toNatClampNeg (-1)))))
def wl_collect_71 (v1 : Int32) (Q : rm_S → Prop) (K : Int32 → rm_S → Prop) : Nat → Int32 → rm_S → Prop
  | 0, _, _ => False
  | n + 1, v2, S => (((S.1 51) ≤ v2 → K v2 S) ∧ (¬ (S.1 51) ≤ v2 → (vp_in v2 40 ∧ wp_move S ((S.2 52) v2.toNatClampNeg) v1 (fun x15 S16 => (vp_in v2 40 ∧ wl_collect_71 v1 Q K n (v2 + 1) (rm_pa S16 52 v2.toNatClampNeg x15))))))
def wl_collect_126 (v1 : Int32) (v2 : Int32) (v3 : Int32) (Q : rm_S → Prop) (K : Int32 → rm_S → Prop) : Nat → Int32 → rm_S → Prop
  | 0, _, _ => False
  | n + 1, v4, S => ((v3 < v4 → K v4 S) ∧ (¬ v3 < v4 → (vp_in (v2 + v4) 400 ∧ wp_move S ((S.2 44) ((v2 + v4).toNatClampNeg)) v1 (fun x25 S26 => (vp_in (v2 + v4) 400 ∧ wl_collect_126 v1 v2 v3 Q K n (v4 + 1) (rm_pa S26 44 ((v2 + v4).toNatClampNeg) x25))))))
def wl_collect_104 (v1 : Int32) (Q : rm_S → Prop) (K : Int32 → rm_S → Prop) : Nat → Int32 → rm_S → Prop
  | 0, _, _ => False
  | n + 1, v2, S => (((v1 + (S.1 46)) ≤ v2 → K v2 S) ∧ (¬ (v1 + (S.1 46)) ≤ v2 → (vp_in v2 400 ∧ (∃ n9 : Nat, wl_collect_126 v1 v2 (((S.2 44) v2.toNatClampNeg) >>> ((4 : Int32) &&& 31)) Q (fun w29 S28 => wl_collect_104 v1 Q K n (v2 + (1 + (((S.2 44) v2.toNatClampNeg) >>> ((4 : Int32) &&& 31)))) S28) n9 1 S))))
def wp_collect (S : rm_S) (Q : rm_S → Prop) : Prop := ((¬ (S.1 45) = 0 → (∃ n9 : Nat, wl_collect_18 0 Q (fun w5 S4 => wp_move (rm_pf S4 46 0) (S4.1 49) 0 (fun x7 S8 => wp_move (rm_pf S8 49 x7) (S8.1 50) 0 (fun x10 S11 => (∃ n9 : Nat, wl_collect_71 0 Q (fun w19 S18 => (∃ n9 : Nat, wl_collect_104 0 Q (fun w31 S30 => Q (rm_pf (rm_pf S30 45 0) 47 ((S30.1 47) + 1))) n9 0 S18)) n9 0 (rm_pf S11 50 x10))))) n9 0 S)) ∧ ((S.1 45) = 0 → (∃ n9 : Nat, wl_collect_18 (S.1 43) Q (fun w33 S32 => wp_move (rm_pf S32 46 0) (S32.1 49) (S.1 43) (fun x35 S36 => wp_move (rm_pf S36 49 x35) (S36.1 50) (S.1 43) (fun x38 S39 => (∃ n9 : Nat, wl_collect_71 (S.1 43) Q (fun w41 S40 => (∃ n9 : Nat, wl_collect_104 (S.1 43) Q (fun w43 S42 => Q (rm_pf (rm_pf S42 45 (S.1 43)) 47 ((S42.1 47) + 1))) n9 (S.1 43) S40)) n9 0 (rm_pf S39 50 x38))))) n9 0 S)))
set_option maxHeartbeats 4000000 in
set_option maxRecDepth 100000 in
theorem wl_collect_18_ok {mo : Nat} {ad : Nat → Nat} (hA : rm_A mo ad) {G0 : cj_G} {d k0 n0 k n9 : Nat} (hd9 : 2 ≤ d) (v1 : Int32) {Q : rm_S → Prop} {K : Int32 → rm_S → Prop} (hK : ∀ (v2 : Int32) (S : rm_S), K v2 S → cj_J mX7_collect d k0 n0 (rm_post mo ad G0 Q) cj_no k n9 38 [(1, .int v1), (2, .int v2), (0, .ref mo)] [] (rm_md mo ad S G0)) : ∀ (n : Nat) (v2 : Int32) (S : rm_S), wl_collect_18 v1 Q K n v2 S → cj_J mX7_collect d k0 n0 (rm_post mo ad G0 Q) cj_no k n9 18 [(1, .int v1), (2, .int v2), (0, .ref mo)] [] (rm_md mo ad S G0) := by
  intro n
  induction n with
  | zero => intro v2 S h; exact absurd h id
  | succ n ih =>
    intro v2 S h
    unfold wl_collect_18 at h
    refine cj_iload_n dX7_collect_18 rfl ?_
    refine cj_sipush (v := 400) dX7_collect_19 (by decide) ?_
    refine cj_pc (pc' := 22) rfl ?_
    refine cj_icmp_ge (tgt := 38) dX7_collect_22 (by decide) (fun c2 => ?_) (fun c2 => ?_)
    · replace h := h.1 c2
      refine cj_sub (lv' := [(1, .int v1), (2, .int v2), (0, .ref mo)]) (by simp) ?_
      exact hK _ _ h
    · replace h := h.2 c2
      refine cj_aload_n dX7_collect_25 rfl ?_
      refine rm_get (.ref (ad 48)) flX7_97 dX7_collect_26 rfl ?_
      refine cj_iload_n dX7_collect_29 rfl ?_
      refine cj_iconst (v := (-1)) dX7_collect_30 (by decide) ?_
      refine cj_pc (pc' := 31) rfl ?_
      have i3 := h.1
      replace h := h.2
      refine rm_iast (j := 48) hA rfl dX7_collect_31 i3 ?_
      refine cj_iinc (v := v2 + 1) (lv' := [(2, .int (v2 + 1)), (1, .int v1), (0, .ref mo)]) dX7_collect_32 rfl rfl (by decide) rfl ?_
      refine cj_goto (tgt := 18) dX7_collect_35 (by decide) ?_
      refine cj_sub (lv' := [(1, .int v1), (2, .int (v2 + 1)), (0, .ref mo)]) (by simp) ?_
      exact ih _ _ h
set_option maxHeartbeats 4000000 in
set_option maxRecDepth 100000 in
theorem wl_collect_71_ok {mo : Nat} {ad : Nat → Nat} (hA : rm_A mo ad) {G0 : cj_G} {d k0 n0 k n9 : Nat} (hd9 : 2 ≤ d) (v1 : Int32) {Q : rm_S → Prop} {K : Int32 → rm_S → Prop} (hK : ∀ (v2 : Int32) (S : rm_S), K v2 S → cj_J mX7_collect d k0 n0 (rm_post mo ad G0 Q) cj_no k n9 102 [(1, .int v1), (2, .int v2), (0, .ref mo)] [] (rm_md mo ad S G0)) : ∀ (n : Nat) (v2 : Int32) (S : rm_S), wl_collect_71 v1 Q K n v2 S → cj_J mX7_collect d k0 n0 (rm_post mo ad G0 Q) cj_no k n9 71 [(1, .int v1), (2, .int v2), (0, .ref mo)] [] (rm_md mo ad S G0) := by
  intro n
  induction n with
  | zero => intro v2 S h; exact absurd h id
  | succ n ih =>
    intro v2 S h
    unfold wl_collect_71 at h
    refine cj_iload_n dX7_collect_71 rfl ?_
    refine cj_aload_n dX7_collect_72 rfl ?_
    refine rm_get (.int (S.1 51)) flX7_306 dX7_collect_73 rfl ?_
    refine cj_pc (pc' := 76) rfl ?_
    refine cj_icmp_ge (tgt := 102) dX7_collect_76 (by decide) (fun c12 => ?_) (fun c12 => ?_)
    · replace h := h.1 c12
      refine cj_sub (lv' := [(1, .int v1), (2, .int v2), (0, .ref mo)]) (by simp) ?_
      exact hK _ _ h
    · replace h := h.2 c12
      refine cj_aload_n dX7_collect_79 rfl ?_
      refine rm_get (.ref (ad 52)) flX7_106 dX7_collect_80 rfl ?_
      refine cj_iload_n dX7_collect_83 rfl ?_
      refine cj_aload_n dX7_collect_84 rfl ?_
      refine cj_pc (pc' := 85) rfl ?_
      refine cj_aload_n dX7_collect_85 rfl ?_
      refine rm_get (.ref (ad 52)) flX7_106 dX7_collect_86 rfl ?_
      refine cj_iload_n dX7_collect_89 rfl ?_
      have i13 := h.1
      replace h := h.2
      refine rm_iald (j := 52) (x := (S.2 52) v2.toNatClampNeg) hA rfl dX7_collect_90 i13 rfl ?_
      refine cj_iload_n dX7_collect_91 rfl ?_
      refine cj_pc (pc' := 92) rfl ?_
      refine cj_callV (M' := mX7_move) (d' := 1) (k' := 0) (n' := 0) (index := 325) (np := 2) (As := [.int ((S.2 52) v2.toNatClampNeg), .int v1]) (rest := [.int v2, .ref (ad 52)]) dX7_collect_92 lkX7_325 mwX7_move (tR_move hA h) (by omega) rfl rfl (Nat.le_of_ble_eq_true rfl) rm_mo rfl (fun v9 G9 q14 => ?_) (fun _ _ h => absurd h id)
      obtain ⟨x15, S16, e8, e9, h⟩ := q14
      subst e8
      subst e9
      refine cj_st (st' := [.int x15, .int v2, .ref (ad 52)]) rfl ?_
      have i17 := h.1
      replace h := h.2
      refine rm_iast (j := 52) hA rfl dX7_collect_95 i17 ?_
      refine cj_iinc (v := v2 + 1) (lv' := [(2, .int (v2 + 1)), (1, .int v1), (0, .ref mo)]) dX7_collect_96 rfl rfl (by decide) rfl ?_
      refine cj_goto (tgt := 71) dX7_collect_99 (by decide) ?_
      refine cj_sub (lv' := [(1, .int v1), (2, .int (v2 + 1)), (0, .ref mo)]) (by simp) ?_
      exact ih _ _ h
set_option maxHeartbeats 4000000 in
set_option maxRecDepth 100000 in
theorem wl_collect_126_ok {mo : Nat} {ad : Nat → Nat} (hA : rm_A mo ad) {G0 : cj_G} {d k0 n0 k n9 : Nat} (hd9 : 2 ≤ d) (v1 : Int32) (v2 : Int32) (v3 : Int32) {Q : rm_S → Prop} {K : Int32 → rm_S → Prop} (hK : ∀ (v4 : Int32) (S : rm_S), K v4 S → cj_J mX7_collect d k0 n0 (rm_post mo ad G0 Q) cj_no k n9 161 [(1, .int v1), (2, .int v2), (3, .int v3), (4, .int v4), (0, .ref mo)] [] (rm_md mo ad S G0)) : ∀ (n : Nat) (v4 : Int32) (S : rm_S), wl_collect_126 v1 v2 v3 Q K n v4 S → cj_J mX7_collect d k0 n0 (rm_post mo ad G0 Q) cj_no k n9 126 [(1, .int v1), (2, .int v2), (3, .int v3), (4, .int v4), (0, .ref mo)] [] (rm_md mo ad S G0) := by
  intro n
  induction n with
  | zero => intro v4 S h; exact absurd h id
  | succ n ih =>
    intro v4 S h
    unfold wl_collect_126 at h
    refine cj_iload dX7_collect_126 rfl ?_
    refine cj_iload_n dX7_collect_128 rfl ?_
    refine cj_icmp_gt (tgt := 161) dX7_collect_129 (by decide) (fun c22 => ?_) (fun c22 => ?_)
    · replace h := h.1 c22
      refine cj_sub (lv' := [(1, .int v1), (2, .int v2), (3, .int v3), (4, .int v4), (0, .ref mo)]) (by simp) ?_
      exact hK _ _ h
    · replace h := h.2 c22
      refine cj_aload_n dX7_collect_132 rfl ?_
      refine cj_pc (pc' := 133) rfl ?_
      refine rm_get (.ref (ad 44)) flX7_94 dX7_collect_133 rfl ?_
      refine cj_iload_n dX7_collect_136 rfl ?_
      refine cj_iload dX7_collect_137 rfl ?_
      refine cj_iadd dX7_collect_139 ?_
      refine cj_aload_n dX7_collect_140 rfl ?_
      refine cj_pc (pc' := 141) rfl ?_
      refine cj_aload_n dX7_collect_141 rfl ?_
      refine rm_get (.ref (ad 44)) flX7_94 dX7_collect_142 rfl ?_
      refine cj_iload_n dX7_collect_145 rfl ?_
      refine cj_iload dX7_collect_146 rfl ?_
      refine cj_iadd dX7_collect_148 ?_
      refine cj_pc (pc' := 149) rfl ?_
      have i23 := h.1
      replace h := h.2
      refine rm_iald (j := 44) (x := (S.2 44) ((v2 + v4).toNatClampNeg)) hA rfl dX7_collect_149 i23 rfl ?_
      refine cj_iload_n dX7_collect_150 rfl ?_
      refine cj_callV (M' := mX7_move) (d' := 1) (k' := 0) (n' := 0) (index := 325) (np := 2) (As := [.int ((S.2 44) ((v2 + v4).toNatClampNeg)), .int v1]) (rest := [.int (v2 + v4), .ref (ad 44)]) dX7_collect_151 lkX7_325 mwX7_move (tR_move hA h) (by omega) rfl rfl (Nat.le_of_ble_eq_true rfl) rm_mo rfl (fun v9 G9 q24 => ?_) (fun _ _ h => absurd h id)
      obtain ⟨x25, S26, e8, e9, h⟩ := q24
      subst e8
      subst e9
      refine cj_st (st' := [.int x25, .int (v2 + v4), .ref (ad 44)]) rfl ?_
      have i27 := h.1
      replace h := h.2
      refine rm_iast (j := 44) hA rfl dX7_collect_154 i27 ?_
      refine cj_iinc (v := v4 + 1) (lv' := [(4, .int (v4 + 1)), (1, .int v1), (2, .int v2), (3, .int v3), (0, .ref mo)]) dX7_collect_155 rfl rfl (by decide) rfl ?_
      refine cj_pc (pc' := 158) rfl ?_
      refine cj_goto (tgt := 126) dX7_collect_158 (by decide) ?_
      refine cj_sub (lv' := [(1, .int v1), (2, .int v2), (3, .int v3), (4, .int (v4 + 1)), (0, .ref mo)]) (by simp) ?_
      exact ih _ _ h
set_option maxHeartbeats 4000000 in
set_option maxRecDepth 100000 in
theorem wl_collect_104_ok {mo : Nat} {ad : Nat → Nat} (hA : rm_A mo ad) {G0 : cj_G} {d k0 n0 k n9 : Nat} (hd9 : 2 ≤ d) (v1 : Int32) {Q : rm_S → Prop} {K : Int32 → rm_S → Prop} (hK : ∀ (v2 : Int32) (S : rm_S), K v2 S → cj_J mX7_collect d k0 n0 (rm_post mo ad G0 Q) cj_no k n9 170 [(1, .int v1), (2, .int v2), (0, .ref mo)] [] (rm_md mo ad S G0)) : ∀ (n : Nat) (v2 : Int32) (S : rm_S), wl_collect_104 v1 Q K n v2 S → cj_J mX7_collect d k0 n0 (rm_post mo ad G0 Q) cj_no k n9 104 [(1, .int v1), (2, .int v2), (0, .ref mo)] [] (rm_md mo ad S G0) := by
  intro n
  induction n with
  | zero => intro v2 S h; exact absurd h id
  | succ n ih =>
    intro v2 S h
    unfold wl_collect_104 at h
    refine cj_iload_n dX7_collect_104 rfl ?_
    refine cj_iload_n dX7_collect_105 rfl ?_
    refine cj_aload_n dX7_collect_106 rfl ?_
    refine rm_get (.int (S.1 46)) flX7_297 dX7_collect_107 rfl ?_
    refine cj_pc (pc' := 110) rfl ?_
    refine cj_iadd dX7_collect_110 ?_
    refine cj_icmp_ge (tgt := 170) dX7_collect_111 (by decide) (fun c20 => ?_) (fun c20 => ?_)
    · replace h := h.1 c20
      refine cj_sub (lv' := [(1, .int v1), (2, .int v2), (0, .ref mo)]) (by simp) ?_
      exact hK _ _ h
    · replace h := h.2 c20
      refine cj_aload_n dX7_collect_114 rfl ?_
      refine rm_get (.ref (ad 44)) flX7_94 dX7_collect_115 rfl ?_
      refine cj_iload_n dX7_collect_118 rfl ?_
      refine cj_pc (pc' := 119) rfl ?_
      have i21 := h.1
      replace h := h.2
      refine rm_iald (j := 44) (x := (S.2 44) v2.toNatClampNeg) hA rfl dX7_collect_119 i21 rfl ?_
      refine cj_iconst (v := 4) dX7_collect_120 (by decide) ?_
      refine cj_ishr dX7_collect_121 ?_
      refine cj_istore_n (lv' := [(3, .int (((S.2 44) v2.toNatClampNeg) >>> ((4 : Int32) &&& 31))), (1, .int v1), (2, .int v2), (0, .ref mo)]) dX7_collect_122 (by decide) rfl ?_
      refine cj_iconst (v := 1) dX7_collect_123 (by decide) ?_
      refine cj_pc (pc' := 124) rfl ?_
      refine cj_istore (lv' := [(4, .int 1), (3, .int (((S.2 44) v2.toNatClampNeg) >>> ((4 : Int32) &&& 31))), (1, .int v1), (2, .int v2), (0, .ref mo)]) dX7_collect_124 (by decide) rfl ?_
      obtain ⟨n9, h⟩ := h
      refine cj_sub (lv' := [(1, .int v1), (2, .int v2), (3, .int (((S.2 44) v2.toNatClampNeg) >>> ((4 : Int32) &&& 31))), (4, .int 1), (0, .ref mo)]) (by simp) ?_
      refine wl_collect_126_ok hA (by omega) _ _ _ ?_ n9 _ _ h
      clear h
      intro w29 S28 h
      refine cj_iload_n dX7_collect_161 rfl ?_
      refine cj_iconst (v := 1) dX7_collect_162 (by decide) ?_
      refine cj_iload_n dX7_collect_163 rfl ?_
      refine cj_iadd dX7_collect_164 ?_
      refine cj_pc (pc' := 165) rfl ?_
      refine cj_iadd dX7_collect_165 ?_
      refine cj_istore_n (lv' := [(2, .int (v2 + (1 + (((S.2 44) v2.toNatClampNeg) >>> ((4 : Int32) &&& 31))))), (1, .int v1), (3, .int (((S.2 44) v2.toNatClampNeg) >>> ((4 : Int32) &&& 31))), (4, .int w29), (0, .ref mo)]) dX7_collect_166 (by decide) rfl ?_
      refine cj_goto (tgt := 104) dX7_collect_167 (by decide) ?_
      refine cj_sub (lv' := [(1, .int v1), (2, .int (v2 + (1 + (((S.2 44) v2.toNatClampNeg) >>> ((4 : Int32) &&& 31))))), (0, .ref mo)]) (by simp) ?_
      exact ih _ _ h
set_option maxHeartbeats 4000000 in
set_option maxRecDepth 100000 in
theorem tR_collect {mo : Nat} {ad : Nat → Nat} (hA : rm_A mo ad) {G0 : cj_G} {S : rm_S} {Q : rm_S → Prop} (h : wp_collect S Q) : cj_T mX7_collect 2 0 0 [.ref mo] (rm_md mo ad S G0) (rm_post mo ad G0 Q) cj_no := by
  refine cj_T_of (by decide +kernel) (Nat.le_of_ble_eq_true rfl) ?_
  refine cj_lvs (lv' := [(0, .ref mo)]) rfl ?_
  unfold wp_collect at h
  refine cj_aload_n dX7_collect_0 rfl ?_
  refine rm_get (.int (S.1 45)) flX7_300 dX7_collect_1 rfl ?_
  refine cj_if_ne (tgt := 14) dX7_collect_4 (by decide) (fun c1 => ?_) (fun c1 => ?_)
  · replace h := h.1 c1
    refine cj_iconst (v := 0) dX7_collect_14 (by decide) ?_
    refine cj_pc (pc' := 15) rfl ?_
    refine cj_istore_n (lv' := [(1, .int 0), (0, .ref mo)]) dX7_collect_15 (by decide) rfl ?_
    refine cj_iconst (v := 0) dX7_collect_16 (by decide) ?_
    refine cj_istore_n (lv' := [(2, .int 0), (1, .int 0), (0, .ref mo)]) dX7_collect_17 (by decide) rfl ?_
    obtain ⟨n9, h⟩ := h
    refine cj_sub (lv' := [(1, .int 0), (2, .int 0), (0, .ref mo)]) (by simp) ?_
    refine wl_collect_18_ok hA (by omega) _ ?_ n9 _ _ h
    clear h
    intro w5 S4 h
    refine cj_aload_n dX7_collect_38 rfl ?_
    refine cj_iconst (v := 0) dX7_collect_39 (by decide) ?_
    refine cj_pc (pc' := 40) rfl ?_
    refine rm_put flX7_297 dX7_collect_40 rmp_46 rfl rfl (by decide) ?_
    refine cj_aload_n dX7_collect_43 rfl ?_
    refine cj_aload_n dX7_collect_44 rfl ?_
    refine cj_aload_n dX7_collect_45 rfl ?_
    refine rm_get (.int (S4.1 49)) flX7_100 dX7_collect_46 rfl ?_
    refine cj_pc (pc' := 49) rfl ?_
    refine cj_iload_n dX7_collect_49 rfl ?_
    refine cj_callV (M' := mX7_move) (d' := 1) (k' := 0) (n' := 0) (index := 325) (np := 2) (As := [.int (S4.1 49), .int 0]) (rest := [.ref mo]) dX7_collect_50 lkX7_325 mwX7_move (tR_move hA h) (by omega) rfl rfl (Nat.le_of_ble_eq_true rfl) rm_mo rfl (fun v9 G9 q6 => ?_) (fun _ _ h => absurd h id)
    obtain ⟨x7, S8, e8, e9, h⟩ := q6
    subst e8
    subst e9
    refine cj_st (st' := [.int x7, .ref mo]) rfl ?_
    refine rm_put flX7_100 dX7_collect_53 rmp_49 rfl rfl (by decide) ?_
    refine cj_aload_n dX7_collect_56 rfl ?_
    refine cj_aload_n dX7_collect_57 rfl ?_
    refine cj_pc (pc' := 58) rfl ?_
    refine cj_aload_n dX7_collect_58 rfl ?_
    refine rm_get (.int (S8.1 50)) flX7_103 dX7_collect_59 rfl ?_
    refine cj_iload_n dX7_collect_62 rfl ?_
    refine cj_callV (M' := mX7_move) (d' := 1) (k' := 0) (n' := 0) (index := 325) (np := 2) (As := [.int (S8.1 50), .int 0]) (rest := [.ref mo]) dX7_collect_63 lkX7_325 mwX7_move (tR_move hA h) (by omega) rfl rfl (Nat.le_of_ble_eq_true rfl) rm_mo rfl (fun v9 G9 q9 => ?_) (fun _ _ h => absurd h id)
    obtain ⟨x10, S11, e8, e9, h⟩ := q9
    subst e8
    subst e9
    refine cj_st (st' := [.int x10, .ref mo]) rfl ?_
    refine rm_put flX7_103 dX7_collect_66 rmp_50 rfl rfl (by decide) ?_
    refine cj_pc (pc' := 69) rfl ?_
    refine cj_iconst (v := 0) dX7_collect_69 (by decide) ?_
    refine cj_istore_n (lv' := [(2, .int 0), (1, .int 0), (0, .ref mo)]) dX7_collect_70 (by decide) rfl ?_
    obtain ⟨n9, h⟩ := h
    refine cj_sub (lv' := [(1, .int 0), (2, .int 0), (0, .ref mo)]) (by simp) ?_
    refine wl_collect_71_ok hA (by omega) _ ?_ n9 _ _ h
    clear h
    intro w19 S18 h
    refine cj_iload_n dX7_collect_102 rfl ?_
    refine cj_pc (pc' := 103) rfl ?_
    refine cj_istore_n (lv' := [(2, .int 0), (1, .int 0), (0, .ref mo)]) dX7_collect_103 (by decide) rfl ?_
    obtain ⟨n9, h⟩ := h
    refine cj_sub (lv' := [(1, .int 0), (2, .int 0), (0, .ref mo)]) (by simp) ?_
    refine wl_collect_104_ok hA (by omega) _ ?_ n9 _ _ h
    clear h
    intro w31 S30 h
    refine cj_aload_n dX7_collect_170 rfl ?_
    refine cj_iload_n dX7_collect_171 rfl ?_
    refine cj_pc (pc' := 172) rfl ?_
    refine rm_put flX7_300 dX7_collect_172 rmp_45 rfl rfl (by decide) ?_
    refine cj_aload_n dX7_collect_175 rfl ?_
    refine cj_dup dX7_collect_176 rfl ?_
    refine rm_get (.int (S30.1 47)) flX7_303 dX7_collect_177 rfl ?_
    refine cj_iconst (v := 1) dX7_collect_180 (by decide) ?_
    refine cj_pc (pc' := 181) rfl ?_
    refine cj_iadd dX7_collect_181 ?_
    refine rm_put flX7_303 dX7_collect_182 rmp_47 rfl rfl (by decide) ?_
    refine cj_vret rfl dX7_collect_185 ?_
    exact ⟨_, rfl, rfl, h⟩
  · replace h := h.2 c1
    refine cj_aload_n dX7_collect_7 rfl ?_
    refine rm_get (.int (S.1 43)) flX7_109 dX7_collect_8 rfl ?_
    refine cj_pc (pc' := 11) rfl ?_
    refine cj_goto (tgt := 15) dX7_collect_11 (by decide) ?_
    refine cj_istore_n (lv' := [(1, .int (S.1 43)), (0, .ref mo)]) dX7_collect_15 (by decide) rfl ?_
    refine cj_iconst (v := 0) dX7_collect_16 (by decide) ?_
    refine cj_istore_n (lv' := [(2, .int 0), (1, .int (S.1 43)), (0, .ref mo)]) dX7_collect_17 (by decide) rfl ?_
    obtain ⟨n9, h⟩ := h
    refine cj_sub (lv' := [(1, .int (S.1 43)), (2, .int 0), (0, .ref mo)]) (by simp) ?_
    refine wl_collect_18_ok hA (by omega) _ ?_ n9 _ _ h
    clear h
    intro w33 S32 h
    refine cj_aload_n dX7_collect_38 rfl ?_
    refine cj_pc (pc' := 39) rfl ?_
    refine cj_iconst (v := 0) dX7_collect_39 (by decide) ?_
    refine rm_put flX7_297 dX7_collect_40 rmp_46 rfl rfl (by decide) ?_
    refine cj_aload_n dX7_collect_43 rfl ?_
    refine cj_aload_n dX7_collect_44 rfl ?_
    refine cj_aload_n dX7_collect_45 rfl ?_
    refine cj_pc (pc' := 46) rfl ?_
    refine rm_get (.int (S32.1 49)) flX7_100 dX7_collect_46 rfl ?_
    refine cj_iload_n dX7_collect_49 rfl ?_
    refine cj_callV (M' := mX7_move) (d' := 1) (k' := 0) (n' := 0) (index := 325) (np := 2) (As := [.int (S32.1 49), .int (S.1 43)]) (rest := [.ref mo]) dX7_collect_50 lkX7_325 mwX7_move (tR_move hA h) (by omega) rfl rfl (Nat.le_of_ble_eq_true rfl) rm_mo rfl (fun v9 G9 q34 => ?_) (fun _ _ h => absurd h id)
    obtain ⟨x35, S36, e8, e9, h⟩ := q34
    subst e8
    subst e9
    refine cj_st (st' := [.int x35, .ref mo]) rfl ?_
    refine rm_put flX7_100 dX7_collect_53 rmp_49 rfl rfl (by decide) ?_
    refine cj_aload_n dX7_collect_56 rfl ?_
    refine cj_pc (pc' := 57) rfl ?_
    refine cj_aload_n dX7_collect_57 rfl ?_
    refine cj_aload_n dX7_collect_58 rfl ?_
    refine rm_get (.int (S36.1 50)) flX7_103 dX7_collect_59 rfl ?_
    refine cj_iload_n dX7_collect_62 rfl ?_
    refine cj_callV (M' := mX7_move) (d' := 1) (k' := 0) (n' := 0) (index := 325) (np := 2) (As := [.int (S36.1 50), .int (S.1 43)]) (rest := [.ref mo]) dX7_collect_63 lkX7_325 mwX7_move (tR_move hA h) (by omega) rfl rfl (Nat.le_of_ble_eq_true rfl) rm_mo rfl (fun v9 G9 q37 => ?_) (fun _ _ h => absurd h id)
    obtain ⟨x38, S39, e8, e9, h⟩ := q37
    subst e8
    subst e9
    refine cj_st (st' := [.int x38, .ref mo]) rfl ?_
    refine cj_pc (pc' := 66) rfl ?_
    refine rm_put flX7_103 dX7_collect_66 rmp_50 rfl rfl (by decide) ?_
    refine cj_iconst (v := 0) dX7_collect_69 (by decide) ?_
    refine cj_istore_n (lv' := [(2, .int 0), (1, .int (S.1 43)), (0, .ref mo)]) dX7_collect_70 (by decide) rfl ?_
    obtain ⟨n9, h⟩ := h
    refine cj_sub (lv' := [(1, .int (S.1 43)), (2, .int 0), (0, .ref mo)]) (by simp) ?_
    refine wl_collect_71_ok hA (by omega) _ ?_ n9 _ _ h
    clear h
    intro w41 S40 h
    refine cj_iload_n dX7_collect_102 rfl ?_
    refine cj_istore_n (lv' := [(2, .int (S.1 43)), (1, .int (S.1 43)), (0, .ref mo)]) dX7_collect_103 (by decide) rfl ?_
    obtain ⟨n9, h⟩ := h
    refine cj_sub (lv' := [(1, .int (S.1 43)), (2, .int (S.1 43)), (0, .ref mo)]) (by simp) ?_
    refine wl_collect_104_ok hA (by omega) _ ?_ n9 _ _ h
    clear h
    intro w43 S42 h
    refine cj_aload_n dX7_collect_170 rfl ?_
    refine cj_pc (pc' := 171) rfl ?_
    refine cj_iload_n dX7_collect_171 rfl ?_
    refine rm_put flX7_300 dX7_collect_172 rmp_45 rfl rfl (by decide) ?_
    refine cj_aload_n dX7_collect_175 rfl ?_
    refine cj_dup dX7_collect_176 rfl ?_
    refine rm_get (.int (S42.1 47)) flX7_303 dX7_collect_177 rfl ?_
    refine cj_pc (pc' := 180) rfl ?_
    refine cj_iconst (v := 1) dX7_collect_180 (by decide) ?_
    refine cj_iadd dX7_collect_181 ?_
    refine rm_put flX7_303 dX7_collect_182 rmp_47 rfl rfl (by decide) ?_
    refine cj_vret rfl dX7_collect_185 ?_
    exact ⟨_, rfl, rfl, h⟩
def wp_hasRoom (S : rm_S) (a1 : Int32) (Q : Int32 → rm_S → Prop) : Prop := ((((S.1 46) + a1) ≤ (S.1 43) → (((S.1 43) < ((S.1 46) + a1) → Q 0 S) ∧ (¬ (S.1 43) < ((S.1 46) + a1) → Q 1 S))) ∧ (¬ ((S.1 46) + a1) ≤ (S.1 43) → wp_collect S (fun S4 => (((S4.1 43) < ((S4.1 46) + a1) → Q 0 S4) ∧ (¬ (S4.1 43) < ((S4.1 46) + a1) → Q 1 S4)))))
set_option maxHeartbeats 4000000 in
set_option maxRecDepth 100000 in
theorem tR_hasRoom {mo : Nat} {ad : Nat → Nat} (hA : rm_A mo ad) {G0 : cj_G} {S : rm_S} {a1 : Int32} {Q : Int32 → rm_S → Prop} (h : wp_hasRoom S a1 Q) : cj_T mX7_hasRoom 3 0 0 [.ref mo, .int a1] (rm_md mo ad S G0) (rm_posti mo ad G0 Q) cj_no := by
  refine cj_T_of (by decide +kernel) (Nat.le_of_ble_eq_true rfl) ?_
  refine cj_lvs (lv' := [(0, .ref mo), (1, .int a1)]) rfl ?_
  unfold wp_hasRoom at h
  refine cj_aload_n dX7_hasRoom_0 rfl ?_
  refine rm_get (.int (S.1 46)) flX7_297 dX7_hasRoom_1 rfl ?_
  refine cj_iload_n dX7_hasRoom_4 rfl ?_
  refine cj_iadd dX7_hasRoom_5 ?_
  refine cj_pc (pc' := 6) rfl ?_
  refine cj_aload_n dX7_hasRoom_6 rfl ?_
  refine rm_get (.int (S.1 43)) flX7_109 dX7_hasRoom_7 rfl ?_
  refine cj_icmp_le (tgt := 17) dX7_hasRoom_10 (by decide) (fun c1 => ?_) (fun c1 => ?_)
  · replace h := h.1 c1
    refine cj_aload_n dX7_hasRoom_17 rfl ?_
    refine rm_get (.int (S.1 46)) flX7_297 dX7_hasRoom_18 rfl ?_
    refine cj_pc (pc' := 21) rfl ?_
    refine cj_iload_n dX7_hasRoom_21 rfl ?_
    refine cj_iadd dX7_hasRoom_22 ?_
    refine cj_aload_n dX7_hasRoom_23 rfl ?_
    refine rm_get (.int (S.1 43)) flX7_109 dX7_hasRoom_24 rfl ?_
    refine cj_icmp_gt (tgt := 34) dX7_hasRoom_27 (by decide) (fun c2 => ?_) (fun c2 => ?_)
    · replace h := h.1 c2
      refine cj_iconst (v := 0) dX7_hasRoom_34 (by decide) ?_
      refine cj_pc (pc' := 35) rfl ?_
      refine cj_zret rfl rfl dX7_hasRoom_35 ?_
      exact ⟨_, _, rfl, rfl, h⟩
    · replace h := h.2 c2
      refine cj_iconst (v := 1) dX7_hasRoom_30 (by decide) ?_
      refine cj_goto (tgt := 35) dX7_hasRoom_31 (by decide) ?_
      refine cj_zret rfl rfl dX7_hasRoom_35 ?_
      exact ⟨_, _, rfl, rfl, h⟩
  · replace h := h.2 c1
    refine cj_aload_n dX7_hasRoom_13 rfl ?_
    refine cj_pc (pc' := 14) rfl ?_
    refine cj_callV (M' := mX7_collect) (d' := 2) (k' := 0) (n' := 0) (index := 328) (np := 0) (As := []) (rest := []) dX7_hasRoom_14 lkX7_328 mwX7_collect (tR_collect hA h) (by omega) rfl rfl (Nat.le_of_ble_eq_true rfl) rm_mo rfl (fun v9 G9 q3 => ?_) (fun _ _ h => absurd h id)
    obtain ⟨S4, e8, e9, h⟩ := q3
    subst e8
    subst e9
    refine cj_st (st' := []) rfl ?_
    refine cj_aload_n dX7_hasRoom_17 rfl ?_
    refine rm_get (.int (S4.1 46)) flX7_297 dX7_hasRoom_18 rfl ?_
    refine cj_iload_n dX7_hasRoom_21 rfl ?_
    refine cj_iadd dX7_hasRoom_22 ?_
    refine cj_pc (pc' := 23) rfl ?_
    refine cj_aload_n dX7_hasRoom_23 rfl ?_
    refine rm_get (.int (S4.1 43)) flX7_109 dX7_hasRoom_24 rfl ?_
    refine cj_icmp_gt (tgt := 34) dX7_hasRoom_27 (by decide) (fun c5 => ?_) (fun c5 => ?_)
    · replace h := h.1 c5
      refine cj_iconst (v := 0) dX7_hasRoom_34 (by decide) ?_
      refine cj_zret rfl rfl dX7_hasRoom_35 ?_
      exact ⟨_, _, rfl, rfl, h⟩
    · replace h := h.2 c5
      refine cj_iconst (v := 1) dX7_hasRoom_30 (by decide) ?_
      refine cj_pc (pc' := 31) rfl ?_
      refine cj_goto (tgt := 35) dX7_hasRoom_31 (by decide) ?_
      refine cj_zret rfl rfl dX7_hasRoom_35 ?_
      exact ⟨_, _, rfl, rfl, h⟩
def wp_a (S : rm_S) (Q : Int32 → rm_S → Prop) : Prop := (vp_in ((3 * (S.1 53)) + 1) 372 ∧ Q ((S.2 38) (((3 * (S.1 53)) + 1).toNatClampNeg)) S)
set_option maxHeartbeats 4000000 in
set_option maxRecDepth 100000 in
theorem tR_a {mo : Nat} {ad : Nat → Nat} (hA : rm_A mo ad) {G0 : cj_G} {S : rm_S} {Q : Int32 → rm_S → Prop} (h : wp_a S Q) : cj_T mX7_a 0 0 0 [.ref mo] (rm_md mo ad S G0) (rm_posti mo ad G0 Q) cj_no := by
  refine cj_T_of (by decide +kernel) (Nat.le_of_ble_eq_true rfl) ?_
  refine cj_lvs (lv' := [(0, .ref mo)]) rfl ?_
  unfold wp_a at h
  refine cj_aload_n dX7_a_0 rfl ?_
  refine rm_get (.ref (ad 38)) flX7_82 dX7_a_1 rfl ?_
  refine cj_iconst (v := 3) dX7_a_4 (by decide) ?_
  refine cj_aload_n dX7_a_5 rfl ?_
  refine cj_pc (pc' := 6) rfl ?_
  refine rm_get (.int (S.1 53)) flX7_309 dX7_a_6 rfl ?_
  refine cj_imul dX7_a_9 ?_
  refine cj_iconst (v := 1) dX7_a_10 (by decide) ?_
  refine cj_iadd dX7_a_11 ?_
  have i1 := h.1
  replace h := h.2
  refine rm_iald (j := 38) (x := (S.2 38) (((3 * (S.1 53)) + 1).toNatClampNeg)) hA rfl dX7_a_12 i1 rfl ?_
  refine cj_pc (pc' := 13) rfl ?_
  refine cj_iret rfl dX7_a_13 ?_
  exact ⟨_, _, rfl, rfl, h⟩
def wp_stop (S : rm_S) (a1 : Int32) (Q : Int32 → rm_S → Prop) : Prop := Q a1 (rm_pf (rm_pf S 54 3) 55 a1)
set_option maxHeartbeats 4000000 in
set_option maxRecDepth 100000 in
theorem tR_stop {mo : Nat} {ad : Nat → Nat} (hA : rm_A mo ad) {G0 : cj_G} {S : rm_S} {a1 : Int32} {Q : Int32 → rm_S → Prop} (h : wp_stop S a1 Q) : cj_T mX7_stop 0 0 0 [.ref mo, .int a1] (rm_md mo ad S G0) (rm_posti mo ad G0 Q) cj_no := by
  refine cj_T_of (by decide +kernel) (Nat.le_of_ble_eq_true rfl) ?_
  refine cj_lvs (lv' := [(0, .ref mo), (1, .int a1)]) rfl ?_
  unfold wp_stop at h
  refine cj_aload_n dX7_stop_0 rfl ?_
  refine cj_iconst (v := 3) dX7_stop_1 (by decide) ?_
  refine rm_put flX7_312 dX7_stop_2 rmp_54 rfl rfl (by decide) ?_
  refine cj_aload_n dX7_stop_5 rfl ?_
  refine cj_pc (pc' := 6) rfl ?_
  refine cj_iload_n dX7_stop_6 rfl ?_
  refine rm_put flX7_315 dX7_stop_7 rmp_55 rfl rfl (by decide) ?_
  refine cj_iload_n dX7_stop_10 rfl ?_
  refine cj_iret rfl dX7_stop_11 ?_
  exact ⟨_, _, rfl, rfl, h⟩
def wp_isFunction (S : rm_S) (a1 : Int32) (Q : Int32 → rm_S → Prop) : Prop := wp_isPointer a1 (fun x2 => ((x2 = 0 → Q 0 S) ∧ (¬ x2 = 0 → wp_blockKind S a1 (fun x5 S6 => ((x5 = 8 → Q 1 S6) ∧ (¬ x5 = 8 → wp_blockKind S6 a1 (fun x9 S10 => ((¬ x9 = 9 → Q 0 S10) ∧ (x9 = 9 → Q 1 S10)))))))))
set_option maxHeartbeats 4000000 in
set_option maxRecDepth 100000 in
theorem tR_isFunction {mo : Nat} {ad : Nat → Nat} (hA : rm_A mo ad) {G0 : cj_G} {S : rm_S} {a1 : Int32} {Q : Int32 → rm_S → Prop} (h : wp_isFunction S a1 Q) : cj_T mX7_isFunction 1 0 0 [.ref mo, .int a1] (rm_md mo ad S G0) (rm_posti mo ad G0 Q) cj_no := by
  refine cj_T_of (by decide +kernel) (Nat.le_of_ble_eq_true rfl) ?_
  refine cj_lvs (lv' := [(0, .ref mo), (1, .int a1)]) rfl ?_
  unfold wp_isFunction at h
  refine cj_iload_n dX7_isFunction_0 rfl ?_
  refine cj_callS (M' := mX7_isPointer) (d' := 0) (k' := 0) (n' := 0) (index := 318) (np := 1) (As := [.int a1]) (rest := []) dX7_isFunction_1 lkX7_318 mwX7_isPointer (tR_isPointer h) (by omega) rfl rfl (Nat.le_of_ble_eq_true rfl) (fun v9 G9 q1 => ?_) (fun _ _ h => absurd h id)
  obtain ⟨x2, e8, e9, h⟩ := q1
  subst e8
  subst e9
  refine cj_st (st' := [.int x2]) rfl ?_
  refine cj_if_eq (tgt := 31) dX7_isFunction_4 (by decide) (fun c3 => ?_) (fun c3 => ?_)
  · replace h := h.1 c3
    refine cj_iconst (v := 0) dX7_isFunction_31 (by decide) ?_
    refine cj_pc (pc' := 32) rfl ?_
    refine cj_zret rfl rfl dX7_isFunction_32 ?_
    exact ⟨_, _, rfl, rfl, h⟩
  · replace h := h.2 c3
    refine cj_aload_n dX7_isFunction_7 rfl ?_
    refine cj_iload_n dX7_isFunction_8 rfl ?_
    refine cj_callV (M' := mX7_blockKind) (d' := 0) (k' := 0) (n' := 0) (index := 331) (np := 1) (As := [.int a1]) (rest := []) dX7_isFunction_9 lkX7_331 mwX7_blockKind (tR_blockKind hA h) (by omega) rfl rfl (Nat.le_of_ble_eq_true rfl) rm_mo rfl (fun v9 G9 q4 => ?_) (fun _ _ h => absurd h id)
    obtain ⟨x5, S6, e8, e9, h⟩ := q4
    subst e8
    subst e9
    refine cj_st (st' := [.int x5]) rfl ?_
    refine cj_bipush (v := 8) dX7_isFunction_12 (by decide) ?_
    refine cj_pc (pc' := 14) rfl ?_
    refine cj_icmp_eq (tgt := 27) dX7_isFunction_14 (by decide) (fun c7 => ?_) (fun c7 => ?_)
    · replace h := h.1 c7
      refine cj_iconst (v := 1) dX7_isFunction_27 (by decide) ?_
      refine cj_goto (tgt := 32) dX7_isFunction_28 (by decide) ?_
      refine cj_zret rfl rfl dX7_isFunction_32 ?_
      exact ⟨_, _, rfl, rfl, h⟩
    · replace h := h.2 c7
      refine cj_aload_n dX7_isFunction_17 rfl ?_
      refine cj_pc (pc' := 18) rfl ?_
      refine cj_iload_n dX7_isFunction_18 rfl ?_
      refine cj_callV (M' := mX7_blockKind) (d' := 0) (k' := 0) (n' := 0) (index := 331) (np := 1) (As := [.int a1]) (rest := []) dX7_isFunction_19 lkX7_331 mwX7_blockKind (tR_blockKind hA h) (by omega) rfl rfl (Nat.le_of_ble_eq_true rfl) rm_mo rfl (fun v9 G9 q8 => ?_) (fun _ _ h => absurd h id)
      obtain ⟨x9, S10, e8, e9, h⟩ := q8
      subst e8
      subst e9
      refine cj_st (st' := [.int x9]) rfl ?_
      refine cj_bipush (v := 9) dX7_isFunction_22 (by decide) ?_
      refine cj_icmp_ne (tgt := 31) dX7_isFunction_24 (by decide) (fun c11 => ?_) (fun c11 => ?_)
      · replace h := h.1 c11
        refine cj_iconst (v := 0) dX7_isFunction_31 (by decide) ?_
        refine cj_pc (pc' := 32) rfl ?_
        refine cj_zret rfl rfl dX7_isFunction_32 ?_
        exact ⟨_, _, rfl, rfl, h⟩
      · replace h := h.2 c11
        refine cj_iconst (v := 1) dX7_isFunction_27 (by decide) ?_
        refine cj_goto (tgt := 32) dX7_isFunction_28 (by decide) ?_
        refine cj_zret rfl rfl dX7_isFunction_32 ?_
        exact ⟨_, _, rfl, rfl, h⟩
def wp_isBuilt (S : rm_S) (a1 : Int32) (Q : Int32 → rm_S → Prop) : Prop := wp_isTag a1 (fun x2 => ((¬ x2 = 0 → Q 1 S) ∧ (x2 = 0 → wp_isPointer a1 (fun x5 => ((x5 = 0 → Q 0 S) ∧ (¬ x5 = 0 → wp_blockKind S a1 (fun x8 S9 => ((8 ≤ x8 → Q 0 S9) ∧ (¬ 8 ≤ x8 → Q 1 S9)))))))))
set_option maxHeartbeats 4000000 in
set_option maxRecDepth 100000 in
theorem tR_isBuilt {mo : Nat} {ad : Nat → Nat} (hA : rm_A mo ad) {G0 : cj_G} {S : rm_S} {a1 : Int32} {Q : Int32 → rm_S → Prop} (h : wp_isBuilt S a1 Q) : cj_T mX7_isBuilt 1 0 0 [.ref mo, .int a1] (rm_md mo ad S G0) (rm_posti mo ad G0 Q) cj_no := by
  refine cj_T_of (by decide +kernel) (Nat.le_of_ble_eq_true rfl) ?_
  refine cj_lvs (lv' := [(0, .ref mo), (1, .int a1)]) rfl ?_
  unfold wp_isBuilt at h
  refine cj_iload_n dX7_isBuilt_0 rfl ?_
  refine cj_callS (M' := mX7_isTag) (d' := 0) (k' := 0) (n' := 0) (index := 334) (np := 1) (As := [.int a1]) (rest := []) dX7_isBuilt_1 lkX7_334 mwX7_isTag (tR_isTag h) (by omega) rfl rfl (Nat.le_of_ble_eq_true rfl) (fun v9 G9 q1 => ?_) (fun _ _ h => absurd h id)
  obtain ⟨x2, e8, e9, h⟩ := q1
  subst e8
  subst e9
  refine cj_st (st' := [.int x2]) rfl ?_
  refine cj_if_ne (tgt := 24) dX7_isBuilt_4 (by decide) (fun c3 => ?_) (fun c3 => ?_)
  · replace h := h.1 c3
    refine cj_iconst (v := 1) dX7_isBuilt_24 (by decide) ?_
    refine cj_pc (pc' := 25) rfl ?_
    refine cj_goto (tgt := 29) dX7_isBuilt_25 (by decide) ?_
    refine cj_zret rfl rfl dX7_isBuilt_29 ?_
    exact ⟨_, _, rfl, rfl, h⟩
  · replace h := h.2 c3
    refine cj_iload_n dX7_isBuilt_7 rfl ?_
    refine cj_callS (M' := mX7_isPointer) (d' := 0) (k' := 0) (n' := 0) (index := 318) (np := 1) (As := [.int a1]) (rest := []) dX7_isBuilt_8 lkX7_318 mwX7_isPointer (tR_isPointer h) (by omega) rfl rfl (Nat.le_of_ble_eq_true rfl) (fun v9 G9 q4 => ?_) (fun _ _ h => absurd h id)
    obtain ⟨x5, e8, e9, h⟩ := q4
    subst e8
    subst e9
    refine cj_st (st' := [.int x5]) rfl ?_
    refine cj_if_eq (tgt := 28) dX7_isBuilt_11 (by decide) (fun c6 => ?_) (fun c6 => ?_)
    · replace h := h.1 c6
      refine cj_iconst (v := 0) dX7_isBuilt_28 (by decide) ?_
      refine cj_pc (pc' := 29) rfl ?_
      refine cj_zret rfl rfl dX7_isBuilt_29 ?_
      exact ⟨_, _, rfl, rfl, h⟩
    · replace h := h.2 c6
      refine cj_aload_n dX7_isBuilt_14 rfl ?_
      refine cj_iload_n dX7_isBuilt_15 rfl ?_
      refine cj_callV (M' := mX7_blockKind) (d' := 0) (k' := 0) (n' := 0) (index := 331) (np := 1) (As := [.int a1]) (rest := []) dX7_isBuilt_16 lkX7_331 mwX7_blockKind (tR_blockKind hA h) (by omega) rfl rfl (Nat.le_of_ble_eq_true rfl) rm_mo rfl (fun v9 G9 q7 => ?_) (fun _ _ h => absurd h id)
      obtain ⟨x8, S9, e8, e9, h⟩ := q7
      subst e8
      subst e9
      refine cj_st (st' := [.int x8]) rfl ?_
      refine cj_bipush (v := 8) dX7_isBuilt_19 (by decide) ?_
      refine cj_pc (pc' := 21) rfl ?_
      refine cj_icmp_ge (tgt := 28) dX7_isBuilt_21 (by decide) (fun c10 => ?_) (fun c10 => ?_)
      · replace h := h.1 c10
        refine cj_iconst (v := 0) dX7_isBuilt_28 (by decide) ?_
        refine cj_zret rfl rfl dX7_isBuilt_29 ?_
        exact ⟨_, _, rfl, rfl, h⟩
      · replace h := h.2 c10
        refine cj_iconst (v := 1) dX7_isBuilt_24 (by decide) ?_
        refine cj_goto (tgt := 29) dX7_isBuilt_25 (by decide) ?_
        refine cj_pc (pc' := 29) rfl ?_
        refine cj_zret rfl rfl dX7_isBuilt_29 ?_
        exact ⟨_, _, rfl, rfl, h⟩
def wp_tagOf (S : rm_S) (a1 : Int32) (Q : Int32 → rm_S → Prop) : Prop := wp_isTag a1 (fun x2 => ((x2 = 0 → wp_blockKind S a1 (fun x5 S6 => Q x5 S6)) ∧ (¬ x2 = 0 → Q (a1 >>> ((2 : Int32) &&& 31)) S)))
set_option maxHeartbeats 4000000 in
set_option maxRecDepth 100000 in
theorem tR_tagOf {mo : Nat} {ad : Nat → Nat} (hA : rm_A mo ad) {G0 : cj_G} {S : rm_S} {a1 : Int32} {Q : Int32 → rm_S → Prop} (h : wp_tagOf S a1 Q) : cj_T mX7_tagOf 1 0 0 [.ref mo, .int a1] (rm_md mo ad S G0) (rm_posti mo ad G0 Q) cj_no := by
  refine cj_T_of (by decide +kernel) (Nat.le_of_ble_eq_true rfl) ?_
  refine cj_lvs (lv' := [(0, .ref mo), (1, .int a1)]) rfl ?_
  unfold wp_tagOf at h
  refine cj_iload_n dX7_tagOf_0 rfl ?_
  refine cj_callS (M' := mX7_isTag) (d' := 0) (k' := 0) (n' := 0) (index := 334) (np := 1) (As := [.int a1]) (rest := []) dX7_tagOf_1 lkX7_334 mwX7_isTag (tR_isTag h) (by omega) rfl rfl (Nat.le_of_ble_eq_true rfl) (fun v9 G9 q1 => ?_) (fun _ _ h => absurd h id)
  obtain ⟨x2, e8, e9, h⟩ := q1
  subst e8
  subst e9
  refine cj_st (st' := [.int x2]) rfl ?_
  refine cj_if_eq (tgt := 13) dX7_tagOf_4 (by decide) (fun c3 => ?_) (fun c3 => ?_)
  · replace h := h.1 c3
    refine cj_aload_n dX7_tagOf_13 rfl ?_
    refine cj_pc (pc' := 14) rfl ?_
    refine cj_iload_n dX7_tagOf_14 rfl ?_
    refine cj_callV (M' := mX7_blockKind) (d' := 0) (k' := 0) (n' := 0) (index := 331) (np := 1) (As := [.int a1]) (rest := []) dX7_tagOf_15 lkX7_331 mwX7_blockKind (tR_blockKind hA h) (by omega) rfl rfl (Nat.le_of_ble_eq_true rfl) rm_mo rfl (fun v9 G9 q4 => ?_) (fun _ _ h => absurd h id)
    obtain ⟨x5, S6, e8, e9, h⟩ := q4
    subst e8
    subst e9
    refine cj_st (st' := [.int x5]) rfl ?_
    refine cj_iret rfl dX7_tagOf_18 ?_
    exact ⟨_, _, rfl, rfl, h⟩
  · replace h := h.2 c3
    refine cj_iload_n dX7_tagOf_7 rfl ?_
    refine cj_iconst (v := 2) dX7_tagOf_8 (by decide) ?_
    refine cj_pc (pc' := 9) rfl ?_
    refine cj_ishr dX7_tagOf_9 ?_
    refine cj_goto (tgt := 18) dX7_tagOf_10 (by decide) ?_
    refine cj_iret rfl dX7_tagOf_18 ?_
    exact ⟨_, _, rfl, rfl, h⟩
def wp_calculate (S : rm_S) (a1 : Int32) (Q : rm_S → Prop) : Prop := (vp_in ((S.1 51) - 1) 40 ∧ ((¬ a1 = 4 → ((¬ a1 = 5 → ((¬ a1 = 7 → ((¬ (((S.2 52) (((S.1 51) - 1).toNatClampNeg)) >>> ((1 : Int32) &&& 31)) = ((S.1 49) >>> ((1 : Int32) &&& 31)) → ((7 ≤ a1 → Q (rm_pf (rm_pf S 51 ((S.1 51) - 1)) 49 2)) ∧ (¬ 7 ≤ a1 → Q (rm_pf (rm_pf S 51 ((S.1 51) - 1)) 49 ((((((S.2 52) (((S.1 51) - 1).toNatClampNeg)) >>> ((1 : Int32) &&& 31)) * ((S.1 49) >>> ((1 : Int32) &&& 31))) <<< ((1 : Int32) &&& 31)) + 1))))) ∧ ((((S.2 52) (((S.1 51) - 1).toNatClampNeg)) >>> ((1 : Int32) &&& 31)) = ((S.1 49) >>> ((1 : Int32) &&& 31)) → ((7 ≤ a1 → Q (rm_pf (rm_pf S 51 ((S.1 51) - 1)) 49 18)) ∧ (¬ 7 ≤ a1 → Q (rm_pf (rm_pf S 51 ((S.1 51) - 1)) 49 ((((((S.2 52) (((S.1 51) - 1).toNatClampNeg)) >>> ((1 : Int32) &&& 31)) * ((S.1 49) >>> ((1 : Int32) &&& 31))) <<< ((1 : Int32) &&& 31)) + 1))))))) ∧ (a1 = 7 → ((((S.1 49) >>> ((1 : Int32) &&& 31)) ≤ (((S.2 52) (((S.1 51) - 1).toNatClampNeg)) >>> ((1 : Int32) &&& 31)) → ((7 ≤ a1 → Q (rm_pf (rm_pf S 51 ((S.1 51) - 1)) 49 2)) ∧ (¬ 7 ≤ a1 → Q (rm_pf (rm_pf S 51 ((S.1 51) - 1)) 49 ((((((S.2 52) (((S.1 51) - 1).toNatClampNeg)) >>> ((1 : Int32) &&& 31)) * ((S.1 49) >>> ((1 : Int32) &&& 31))) <<< ((1 : Int32) &&& 31)) + 1))))) ∧ (¬ ((S.1 49) >>> ((1 : Int32) &&& 31)) ≤ (((S.2 52) (((S.1 51) - 1).toNatClampNeg)) >>> ((1 : Int32) &&& 31)) → ((7 ≤ a1 → Q (rm_pf (rm_pf S 51 ((S.1 51) - 1)) 49 18)) ∧ (¬ 7 ≤ a1 → Q (rm_pf (rm_pf S 51 ((S.1 51) - 1)) 49 ((((((S.2 52) (((S.1 51) - 1).toNatClampNeg)) >>> ((1 : Int32) &&& 31)) * ((S.1 49) >>> ((1 : Int32) &&& 31))) <<< ((1 : Int32) &&& 31)) + 1))))))))) ∧ (a1 = 5 → ((¬ a1 = 7 → ((¬ (((S.2 52) (((S.1 51) - 1).toNatClampNeg)) >>> ((1 : Int32) &&& 31)) = ((S.1 49) >>> ((1 : Int32) &&& 31)) → ((7 ≤ a1 → Q (rm_pf (rm_pf S 51 ((S.1 51) - 1)) 49 2)) ∧ (¬ 7 ≤ a1 → Q (rm_pf (rm_pf S 51 ((S.1 51) - 1)) 49 ((((((S.2 52) (((S.1 51) - 1).toNatClampNeg)) >>> ((1 : Int32) &&& 31)) - ((S.1 49) >>> ((1 : Int32) &&& 31))) <<< ((1 : Int32) &&& 31)) + 1))))) ∧ ((((S.2 52) (((S.1 51) - 1).toNatClampNeg)) >>> ((1 : Int32) &&& 31)) = ((S.1 49) >>> ((1 : Int32) &&& 31)) → ((7 ≤ a1 → Q (rm_pf (rm_pf S 51 ((S.1 51) - 1)) 49 18)) ∧ (¬ 7 ≤ a1 → Q (rm_pf (rm_pf S 51 ((S.1 51) - 1)) 49 ((((((S.2 52) (((S.1 51) - 1).toNatClampNeg)) >>> ((1 : Int32) &&& 31)) - ((S.1 49) >>> ((1 : Int32) &&& 31))) <<< ((1 : Int32) &&& 31)) + 1))))))) ∧ (a1 = 7 → ((((S.1 49) >>> ((1 : Int32) &&& 31)) ≤ (((S.2 52) (((S.1 51) - 1).toNatClampNeg)) >>> ((1 : Int32) &&& 31)) → ((7 ≤ a1 → Q (rm_pf (rm_pf S 51 ((S.1 51) - 1)) 49 2)) ∧ (¬ 7 ≤ a1 → Q (rm_pf (rm_pf S 51 ((S.1 51) - 1)) 49 ((((((S.2 52) (((S.1 51) - 1).toNatClampNeg)) >>> ((1 : Int32) &&& 31)) - ((S.1 49) >>> ((1 : Int32) &&& 31))) <<< ((1 : Int32) &&& 31)) + 1))))) ∧ (¬ ((S.1 49) >>> ((1 : Int32) &&& 31)) ≤ (((S.2 52) (((S.1 51) - 1).toNatClampNeg)) >>> ((1 : Int32) &&& 31)) → ((7 ≤ a1 → Q (rm_pf (rm_pf S 51 ((S.1 51) - 1)) 49 18)) ∧ (¬ 7 ≤ a1 → Q (rm_pf (rm_pf S 51 ((S.1 51) - 1)) 49 ((((((S.2 52) (((S.1 51) - 1).toNatClampNeg)) >>> ((1 : Int32) &&& 31)) - ((S.1 49) >>> ((1 : Int32) &&& 31))) <<< ((1 : Int32) &&& 31)) + 1))))))))))) ∧ (a1 = 4 → ((¬ a1 = 7 → ((¬ (((S.2 52) (((S.1 51) - 1).toNatClampNeg)) >>> ((1 : Int32) &&& 31)) = ((S.1 49) >>> ((1 : Int32) &&& 31)) → ((7 ≤ a1 → Q (rm_pf (rm_pf S 51 ((S.1 51) - 1)) 49 2)) ∧ (¬ 7 ≤ a1 → Q (rm_pf (rm_pf S 51 ((S.1 51) - 1)) 49 ((((((S.2 52) (((S.1 51) - 1).toNatClampNeg)) >>> ((1 : Int32) &&& 31)) + ((S.1 49) >>> ((1 : Int32) &&& 31))) <<< ((1 : Int32) &&& 31)) + 1))))) ∧ ((((S.2 52) (((S.1 51) - 1).toNatClampNeg)) >>> ((1 : Int32) &&& 31)) = ((S.1 49) >>> ((1 : Int32) &&& 31)) → ((7 ≤ a1 → Q (rm_pf (rm_pf S 51 ((S.1 51) - 1)) 49 18)) ∧ (¬ 7 ≤ a1 → Q (rm_pf (rm_pf S 51 ((S.1 51) - 1)) 49 ((((((S.2 52) (((S.1 51) - 1).toNatClampNeg)) >>> ((1 : Int32) &&& 31)) + ((S.1 49) >>> ((1 : Int32) &&& 31))) <<< ((1 : Int32) &&& 31)) + 1))))))) ∧ (a1 = 7 → ((((S.1 49) >>> ((1 : Int32) &&& 31)) ≤ (((S.2 52) (((S.1 51) - 1).toNatClampNeg)) >>> ((1 : Int32) &&& 31)) → ((7 ≤ a1 → Q (rm_pf (rm_pf S 51 ((S.1 51) - 1)) 49 2)) ∧ (¬ 7 ≤ a1 → Q (rm_pf (rm_pf S 51 ((S.1 51) - 1)) 49 ((((((S.2 52) (((S.1 51) - 1).toNatClampNeg)) >>> ((1 : Int32) &&& 31)) + ((S.1 49) >>> ((1 : Int32) &&& 31))) <<< ((1 : Int32) &&& 31)) + 1))))) ∧ (¬ ((S.1 49) >>> ((1 : Int32) &&& 31)) ≤ (((S.2 52) (((S.1 51) - 1).toNatClampNeg)) >>> ((1 : Int32) &&& 31)) → ((7 ≤ a1 → Q (rm_pf (rm_pf S 51 ((S.1 51) - 1)) 49 18)) ∧ (¬ 7 ≤ a1 → Q (rm_pf (rm_pf S 51 ((S.1 51) - 1)) 49 ((((((S.2 52) (((S.1 51) - 1).toNatClampNeg)) >>> ((1 : Int32) &&& 31)) + ((S.1 49) >>> ((1 : Int32) &&& 31))) <<< ((1 : Int32) &&& 31)) + 1)))))))))))
set_option maxHeartbeats 4000000 in
set_option maxRecDepth 100000 in
theorem tR_calculate {mo : Nat} {ad : Nat → Nat} (hA : rm_A mo ad) {G0 : cj_G} {S : rm_S} {a1 : Int32} {Q : rm_S → Prop} (h : wp_calculate S a1 Q) : cj_T mX7_calculate 0 0 0 [.ref mo, .int a1] (rm_md mo ad S G0) (rm_post mo ad G0 Q) cj_no := by
  refine cj_T_of (by decide +kernel) (Nat.le_of_ble_eq_true rfl) ?_
  refine cj_lvs (lv' := [(0, .ref mo), (1, .int a1)]) rfl ?_
  unfold wp_calculate at h
  refine cj_aload_n dX7_calculate_0 rfl ?_
  refine cj_dup dX7_calculate_1 rfl ?_
  refine rm_get (.int (S.1 51)) flX7_306 dX7_calculate_2 rfl ?_
  refine cj_iconst (v := 1) dX7_calculate_5 (by decide) ?_
  refine cj_pc (pc' := 6) rfl ?_
  refine cj_isub dX7_calculate_6 ?_
  refine rm_put flX7_306 dX7_calculate_7 rmp_51 rfl rfl (by decide) ?_
  refine cj_aload_n dX7_calculate_10 rfl ?_
  refine rm_get (.ref (ad 52)) flX7_106 dX7_calculate_11 rfl ?_
  refine cj_aload_n dX7_calculate_14 rfl ?_
  refine cj_pc (pc' := 15) rfl ?_
  refine rm_get (.int ((S.1 51) - 1)) flX7_306 dX7_calculate_15 rfl ?_
  have i1 := h.1
  replace h := h.2
  refine rm_iald (j := 52) (x := (S.2 52) (((S.1 51) - 1).toNatClampNeg)) hA rfl dX7_calculate_18 i1 rfl ?_
  refine cj_iconst (v := 1) dX7_calculate_19 (by decide) ?_
  refine cj_ishr dX7_calculate_20 ?_
  refine cj_istore_n (lv' := [(2, .int (((S.2 52) (((S.1 51) - 1).toNatClampNeg)) >>> ((1 : Int32) &&& 31))), (0, .ref mo), (1, .int a1)]) dX7_calculate_21 (by decide) rfl ?_
  refine cj_pc (pc' := 22) rfl ?_
  refine cj_aload_n dX7_calculate_22 rfl ?_
  refine rm_get (.int (S.1 49)) flX7_100 dX7_calculate_23 rfl ?_
  refine cj_iconst (v := 1) dX7_calculate_26 (by decide) ?_
  refine cj_ishr dX7_calculate_27 ?_
  refine cj_istore_n (lv' := [(3, .int ((S.1 49) >>> ((1 : Int32) &&& 31))), (2, .int (((S.2 52) (((S.1 51) - 1).toNatClampNeg)) >>> ((1 : Int32) &&& 31))), (0, .ref mo), (1, .int a1)]) dX7_calculate_28 (by decide) rfl ?_
  refine cj_pc (pc' := 29) rfl ?_
  refine cj_iload_n dX7_calculate_29 rfl ?_
  refine cj_iconst (v := 4) dX7_calculate_30 (by decide) ?_
  refine cj_icmp_ne (tgt := 40) dX7_calculate_31 (by decide) (fun c2 => ?_) (fun c2 => ?_)
  · replace h := h.1 c2
    refine cj_iload_n dX7_calculate_40 rfl ?_
    refine cj_iconst (v := 5) dX7_calculate_41 (by decide) ?_
    refine cj_pc (pc' := 42) rfl ?_
    refine cj_icmp_ne (tgt := 51) dX7_calculate_42 (by decide) (fun c3 => ?_) (fun c3 => ?_)
    · replace h := h.1 c3
      refine cj_iload_n dX7_calculate_51 rfl ?_
      refine cj_iload_n dX7_calculate_52 rfl ?_
      refine cj_imul dX7_calculate_53 ?_
      refine cj_istore (lv' := [(4, .int ((((S.2 52) (((S.1 51) - 1).toNatClampNeg)) >>> ((1 : Int32) &&& 31)) * ((S.1 49) >>> ((1 : Int32) &&& 31)))), (3, .int ((S.1 49) >>> ((1 : Int32) &&& 31))), (2, .int (((S.2 52) (((S.1 51) - 1).toNatClampNeg)) >>> ((1 : Int32) &&& 31))), (0, .ref mo), (1, .int a1)]) dX7_calculate_54 (by decide) rfl ?_
      refine cj_pc (pc' := 56) rfl ?_
      refine cj_iload_n dX7_calculate_56 rfl ?_
      refine cj_bipush (v := 7) dX7_calculate_57 (by decide) ?_
      refine cj_icmp_ne (tgt := 75) dX7_calculate_59 (by decide) (fun c4 => ?_) (fun c4 => ?_)
      · replace h := h.1 c4
        refine cj_iload_n dX7_calculate_75 rfl ?_
        refine cj_iload_n dX7_calculate_76 rfl ?_
        refine cj_pc (pc' := 77) rfl ?_
        refine cj_icmp_ne (tgt := 84) dX7_calculate_77 (by decide) (fun c5 => ?_) (fun c5 => ?_)
        · replace h := h.1 c5
          refine cj_iconst (v := 0) dX7_calculate_84 (by decide) ?_
          refine cj_istore (lv' := [(5, .int 0), (4, .int ((((S.2 52) (((S.1 51) - 1).toNatClampNeg)) >>> ((1 : Int32) &&& 31)) * ((S.1 49) >>> ((1 : Int32) &&& 31)))), (3, .int ((S.1 49) >>> ((1 : Int32) &&& 31))), (2, .int (((S.2 52) (((S.1 51) - 1).toNatClampNeg)) >>> ((1 : Int32) &&& 31))), (0, .ref mo), (1, .int a1)]) dX7_calculate_85 (by decide) rfl ?_
          refine cj_aload_n dX7_calculate_87 rfl ?_
          refine cj_iload_n dX7_calculate_88 rfl ?_
          refine cj_pc (pc' := 89) rfl ?_
          refine cj_bipush (v := 7) dX7_calculate_89 (by decide) ?_
          refine cj_icmp_ge (tgt := 103) dX7_calculate_91 (by decide) (fun c6 => ?_) (fun c6 => ?_)
          · replace h := h.1 c6
            refine cj_iload dX7_calculate_103 rfl ?_
            refine cj_if_eq (tgt := 113) dX7_calculate_105 (by decide) (fun _ => ?_) (fun c => absurd (by decide) c)
            refine cj_iconst (v := 2) dX7_calculate_113 (by decide) ?_
            refine cj_pc (pc' := 114) rfl ?_
            refine rm_put flX7_100 dX7_calculate_114 rmp_49 rfl rfl (by decide) ?_
            refine cj_vret rfl dX7_calculate_117 ?_
            exact ⟨_, rfl, rfl, h⟩
          · replace h := h.2 c6
            refine cj_iload dX7_calculate_94 rfl ?_
            refine cj_iconst (v := 1) dX7_calculate_96 (by decide) ?_
            refine cj_ishl dX7_calculate_97 ?_
            refine cj_pc (pc' := 98) rfl ?_
            refine cj_iconst (v := 1) dX7_calculate_98 (by decide) ?_
            refine cj_iadd dX7_calculate_99 ?_
            refine cj_goto (tgt := 114) dX7_calculate_100 (by decide) ?_
            refine rm_put flX7_100 dX7_calculate_114 rmp_49 rfl rfl (by decide) ?_
            refine cj_vret rfl dX7_calculate_117 ?_
            exact ⟨_, rfl, rfl, h⟩
        · replace h := h.2 c5
          refine cj_iconst (v := 1) dX7_calculate_80 (by decide) ?_
          refine cj_pc (pc' := 81) rfl ?_
          refine cj_goto (tgt := 85) dX7_calculate_81 (by decide) ?_
          refine cj_istore (lv' := [(5, .int 1), (4, .int ((((S.2 52) (((S.1 51) - 1).toNatClampNeg)) >>> ((1 : Int32) &&& 31)) * ((S.1 49) >>> ((1 : Int32) &&& 31)))), (3, .int ((S.1 49) >>> ((1 : Int32) &&& 31))), (2, .int (((S.2 52) (((S.1 51) - 1).toNatClampNeg)) >>> ((1 : Int32) &&& 31))), (0, .ref mo), (1, .int a1)]) dX7_calculate_85 (by decide) rfl ?_
          refine cj_aload_n dX7_calculate_87 rfl ?_
          refine cj_iload_n dX7_calculate_88 rfl ?_
          refine cj_bipush (v := 7) dX7_calculate_89 (by decide) ?_
          refine cj_pc (pc' := 91) rfl ?_
          refine cj_icmp_ge (tgt := 103) dX7_calculate_91 (by decide) (fun c7 => ?_) (fun c7 => ?_)
          · replace h := h.1 c7
            refine cj_iload dX7_calculate_103 rfl ?_
            refine cj_if_eq (tgt := 113) dX7_calculate_105 (by decide) (fun c => absurd c (by decide)) (fun _ => ?_)
            refine cj_bipush (v := 18) dX7_calculate_108 (by decide) ?_
            refine cj_goto (tgt := 114) dX7_calculate_110 (by decide) ?_
            refine cj_pc (pc' := 114) rfl ?_
            refine rm_put flX7_100 dX7_calculate_114 rmp_49 rfl rfl (by decide) ?_
            refine cj_vret rfl dX7_calculate_117 ?_
            exact ⟨_, rfl, rfl, h⟩
          · replace h := h.2 c7
            refine cj_iload dX7_calculate_94 rfl ?_
            refine cj_iconst (v := 1) dX7_calculate_96 (by decide) ?_
            refine cj_ishl dX7_calculate_97 ?_
            refine cj_pc (pc' := 98) rfl ?_
            refine cj_iconst (v := 1) dX7_calculate_98 (by decide) ?_
            refine cj_iadd dX7_calculate_99 ?_
            refine cj_goto (tgt := 114) dX7_calculate_100 (by decide) ?_
            refine rm_put flX7_100 dX7_calculate_114 rmp_49 rfl rfl (by decide) ?_
            refine cj_vret rfl dX7_calculate_117 ?_
            exact ⟨_, rfl, rfl, h⟩
      · replace h := h.2 c4
        refine cj_iload_n dX7_calculate_62 rfl ?_
        refine cj_pc (pc' := 63) rfl ?_
        refine cj_iload_n dX7_calculate_63 rfl ?_
        refine cj_icmp_ge (tgt := 71) dX7_calculate_64 (by decide) (fun c8 => ?_) (fun c8 => ?_)
        · replace h := h.1 c8
          refine cj_iconst (v := 0) dX7_calculate_71 (by decide) ?_
          refine cj_goto (tgt := 85) dX7_calculate_72 (by decide) ?_
          refine cj_istore (lv' := [(5, .int 0), (4, .int ((((S.2 52) (((S.1 51) - 1).toNatClampNeg)) >>> ((1 : Int32) &&& 31)) * ((S.1 49) >>> ((1 : Int32) &&& 31)))), (3, .int ((S.1 49) >>> ((1 : Int32) &&& 31))), (2, .int (((S.2 52) (((S.1 51) - 1).toNatClampNeg)) >>> ((1 : Int32) &&& 31))), (0, .ref mo), (1, .int a1)]) dX7_calculate_85 (by decide) rfl ?_
          refine cj_pc (pc' := 87) rfl ?_
          refine cj_aload_n dX7_calculate_87 rfl ?_
          refine cj_iload_n dX7_calculate_88 rfl ?_
          refine cj_bipush (v := 7) dX7_calculate_89 (by decide) ?_
          refine cj_icmp_ge (tgt := 103) dX7_calculate_91 (by decide) (fun c9 => ?_) (fun c9 => ?_)
          · replace h := h.1 c9
            refine cj_iload dX7_calculate_103 rfl ?_
            refine cj_pc (pc' := 105) rfl ?_
            refine cj_if_eq (tgt := 113) dX7_calculate_105 (by decide) (fun _ => ?_) (fun c => absurd (by decide) c)
            refine cj_iconst (v := 2) dX7_calculate_113 (by decide) ?_
            refine rm_put flX7_100 dX7_calculate_114 rmp_49 rfl rfl (by decide) ?_
            refine cj_vret rfl dX7_calculate_117 ?_
            exact ⟨_, rfl, rfl, h⟩
          · replace h := h.2 c9
            refine cj_iload dX7_calculate_94 rfl ?_
            refine cj_pc (pc' := 96) rfl ?_
            refine cj_iconst (v := 1) dX7_calculate_96 (by decide) ?_
            refine cj_ishl dX7_calculate_97 ?_
            refine cj_iconst (v := 1) dX7_calculate_98 (by decide) ?_
            refine cj_iadd dX7_calculate_99 ?_
            refine cj_goto (tgt := 114) dX7_calculate_100 (by decide) ?_
            refine cj_pc (pc' := 114) rfl ?_
            refine rm_put flX7_100 dX7_calculate_114 rmp_49 rfl rfl (by decide) ?_
            refine cj_vret rfl dX7_calculate_117 ?_
            exact ⟨_, rfl, rfl, h⟩
        · replace h := h.2 c8
          refine cj_iconst (v := 1) dX7_calculate_67 (by decide) ?_
          refine cj_goto (tgt := 85) dX7_calculate_68 (by decide) ?_
          refine cj_istore (lv' := [(5, .int 1), (4, .int ((((S.2 52) (((S.1 51) - 1).toNatClampNeg)) >>> ((1 : Int32) &&& 31)) * ((S.1 49) >>> ((1 : Int32) &&& 31)))), (3, .int ((S.1 49) >>> ((1 : Int32) &&& 31))), (2, .int (((S.2 52) (((S.1 51) - 1).toNatClampNeg)) >>> ((1 : Int32) &&& 31))), (0, .ref mo), (1, .int a1)]) dX7_calculate_85 (by decide) rfl ?_
          refine cj_pc (pc' := 87) rfl ?_
          refine cj_aload_n dX7_calculate_87 rfl ?_
          refine cj_iload_n dX7_calculate_88 rfl ?_
          refine cj_bipush (v := 7) dX7_calculate_89 (by decide) ?_
          refine cj_icmp_ge (tgt := 103) dX7_calculate_91 (by decide) (fun c10 => ?_) (fun c10 => ?_)
          · replace h := h.1 c10
            refine cj_iload dX7_calculate_103 rfl ?_
            refine cj_pc (pc' := 105) rfl ?_
            refine cj_if_eq (tgt := 113) dX7_calculate_105 (by decide) (fun c => absurd c (by decide)) (fun _ => ?_)
            refine cj_bipush (v := 18) dX7_calculate_108 (by decide) ?_
            refine cj_goto (tgt := 114) dX7_calculate_110 (by decide) ?_
            refine rm_put flX7_100 dX7_calculate_114 rmp_49 rfl rfl (by decide) ?_
            refine cj_vret rfl dX7_calculate_117 ?_
            exact ⟨_, rfl, rfl, h⟩
          · replace h := h.2 c10
            refine cj_iload dX7_calculate_94 rfl ?_
            refine cj_pc (pc' := 96) rfl ?_
            refine cj_iconst (v := 1) dX7_calculate_96 (by decide) ?_
            refine cj_ishl dX7_calculate_97 ?_
            refine cj_iconst (v := 1) dX7_calculate_98 (by decide) ?_
            refine cj_iadd dX7_calculate_99 ?_
            refine cj_goto (tgt := 114) dX7_calculate_100 (by decide) ?_
            refine cj_pc (pc' := 114) rfl ?_
            refine rm_put flX7_100 dX7_calculate_114 rmp_49 rfl rfl (by decide) ?_
            refine cj_vret rfl dX7_calculate_117 ?_
            exact ⟨_, rfl, rfl, h⟩
    · replace h := h.2 c3
      refine cj_iload_n dX7_calculate_45 rfl ?_
      refine cj_iload_n dX7_calculate_46 rfl ?_
      refine cj_isub dX7_calculate_47 ?_
      refine cj_pc (pc' := 48) rfl ?_
      refine cj_goto (tgt := 54) dX7_calculate_48 (by decide) ?_
      refine cj_istore (lv' := [(4, .int ((((S.2 52) (((S.1 51) - 1).toNatClampNeg)) >>> ((1 : Int32) &&& 31)) - ((S.1 49) >>> ((1 : Int32) &&& 31)))), (3, .int ((S.1 49) >>> ((1 : Int32) &&& 31))), (2, .int (((S.2 52) (((S.1 51) - 1).toNatClampNeg)) >>> ((1 : Int32) &&& 31))), (0, .ref mo), (1, .int a1)]) dX7_calculate_54 (by decide) rfl ?_
      refine cj_iload_n dX7_calculate_56 rfl ?_
      refine cj_bipush (v := 7) dX7_calculate_57 (by decide) ?_
      refine cj_icmp_ne (tgt := 75) dX7_calculate_59 (by decide) (fun c11 => ?_) (fun c11 => ?_)
      · replace h := h.1 c11
        refine cj_iload_n dX7_calculate_75 rfl ?_
        refine cj_pc (pc' := 76) rfl ?_
        refine cj_iload_n dX7_calculate_76 rfl ?_
        refine cj_icmp_ne (tgt := 84) dX7_calculate_77 (by decide) (fun c12 => ?_) (fun c12 => ?_)
        · replace h := h.1 c12
          refine cj_iconst (v := 0) dX7_calculate_84 (by decide) ?_
          refine cj_istore (lv' := [(5, .int 0), (4, .int ((((S.2 52) (((S.1 51) - 1).toNatClampNeg)) >>> ((1 : Int32) &&& 31)) - ((S.1 49) >>> ((1 : Int32) &&& 31)))), (3, .int ((S.1 49) >>> ((1 : Int32) &&& 31))), (2, .int (((S.2 52) (((S.1 51) - 1).toNatClampNeg)) >>> ((1 : Int32) &&& 31))), (0, .ref mo), (1, .int a1)]) dX7_calculate_85 (by decide) rfl ?_
          refine cj_aload_n dX7_calculate_87 rfl ?_
          refine cj_pc (pc' := 88) rfl ?_
          refine cj_iload_n dX7_calculate_88 rfl ?_
          refine cj_bipush (v := 7) dX7_calculate_89 (by decide) ?_
          refine cj_icmp_ge (tgt := 103) dX7_calculate_91 (by decide) (fun c13 => ?_) (fun c13 => ?_)
          · replace h := h.1 c13
            refine cj_iload dX7_calculate_103 rfl ?_
            refine cj_if_eq (tgt := 113) dX7_calculate_105 (by decide) (fun _ => ?_) (fun c => absurd (by decide) c)
            refine cj_pc (pc' := 113) rfl ?_
            refine cj_iconst (v := 2) dX7_calculate_113 (by decide) ?_
            refine rm_put flX7_100 dX7_calculate_114 rmp_49 rfl rfl (by decide) ?_
            refine cj_vret rfl dX7_calculate_117 ?_
            exact ⟨_, rfl, rfl, h⟩
          · replace h := h.2 c13
            refine cj_iload dX7_calculate_94 rfl ?_
            refine cj_iconst (v := 1) dX7_calculate_96 (by decide) ?_
            refine cj_pc (pc' := 97) rfl ?_
            refine cj_ishl dX7_calculate_97 ?_
            refine cj_iconst (v := 1) dX7_calculate_98 (by decide) ?_
            refine cj_iadd dX7_calculate_99 ?_
            refine cj_goto (tgt := 114) dX7_calculate_100 (by decide) ?_
            refine rm_put flX7_100 dX7_calculate_114 rmp_49 rfl rfl (by decide) ?_
            refine cj_pc (pc' := 117) rfl ?_
            refine cj_vret rfl dX7_calculate_117 ?_
            exact ⟨_, rfl, rfl, h⟩
        · replace h := h.2 c12
          refine cj_iconst (v := 1) dX7_calculate_80 (by decide) ?_
          refine cj_goto (tgt := 85) dX7_calculate_81 (by decide) ?_
          refine cj_istore (lv' := [(5, .int 1), (4, .int ((((S.2 52) (((S.1 51) - 1).toNatClampNeg)) >>> ((1 : Int32) &&& 31)) - ((S.1 49) >>> ((1 : Int32) &&& 31)))), (3, .int ((S.1 49) >>> ((1 : Int32) &&& 31))), (2, .int (((S.2 52) (((S.1 51) - 1).toNatClampNeg)) >>> ((1 : Int32) &&& 31))), (0, .ref mo), (1, .int a1)]) dX7_calculate_85 (by decide) rfl ?_
          refine cj_aload_n dX7_calculate_87 rfl ?_
          refine cj_pc (pc' := 88) rfl ?_
          refine cj_iload_n dX7_calculate_88 rfl ?_
          refine cj_bipush (v := 7) dX7_calculate_89 (by decide) ?_
          refine cj_icmp_ge (tgt := 103) dX7_calculate_91 (by decide) (fun c14 => ?_) (fun c14 => ?_)
          · replace h := h.1 c14
            refine cj_iload dX7_calculate_103 rfl ?_
            refine cj_if_eq (tgt := 113) dX7_calculate_105 (by decide) (fun c => absurd c (by decide)) (fun _ => ?_)
            refine cj_pc (pc' := 108) rfl ?_
            refine cj_bipush (v := 18) dX7_calculate_108 (by decide) ?_
            refine cj_goto (tgt := 114) dX7_calculate_110 (by decide) ?_
            refine rm_put flX7_100 dX7_calculate_114 rmp_49 rfl rfl (by decide) ?_
            refine cj_vret rfl dX7_calculate_117 ?_
            exact ⟨_, rfl, rfl, h⟩
          · replace h := h.2 c14
            refine cj_iload dX7_calculate_94 rfl ?_
            refine cj_pc (pc' := 96) rfl ?_
            refine cj_iconst (v := 1) dX7_calculate_96 (by decide) ?_
            refine cj_ishl dX7_calculate_97 ?_
            refine cj_iconst (v := 1) dX7_calculate_98 (by decide) ?_
            refine cj_iadd dX7_calculate_99 ?_
            refine cj_goto (tgt := 114) dX7_calculate_100 (by decide) ?_
            refine cj_pc (pc' := 114) rfl ?_
            refine rm_put flX7_100 dX7_calculate_114 rmp_49 rfl rfl (by decide) ?_
            refine cj_vret rfl dX7_calculate_117 ?_
            exact ⟨_, rfl, rfl, h⟩
      · replace h := h.2 c11
        refine cj_iload_n dX7_calculate_62 rfl ?_
        refine cj_iload_n dX7_calculate_63 rfl ?_
        refine cj_icmp_ge (tgt := 71) dX7_calculate_64 (by decide) (fun c15 => ?_) (fun c15 => ?_)
        · replace h := h.1 c15
          refine cj_iconst (v := 0) dX7_calculate_71 (by decide) ?_
          refine cj_pc (pc' := 72) rfl ?_
          refine cj_goto (tgt := 85) dX7_calculate_72 (by decide) ?_
          refine cj_istore (lv' := [(5, .int 0), (4, .int ((((S.2 52) (((S.1 51) - 1).toNatClampNeg)) >>> ((1 : Int32) &&& 31)) - ((S.1 49) >>> ((1 : Int32) &&& 31)))), (3, .int ((S.1 49) >>> ((1 : Int32) &&& 31))), (2, .int (((S.2 52) (((S.1 51) - 1).toNatClampNeg)) >>> ((1 : Int32) &&& 31))), (0, .ref mo), (1, .int a1)]) dX7_calculate_85 (by decide) rfl ?_
          refine cj_aload_n dX7_calculate_87 rfl ?_
          refine cj_iload_n dX7_calculate_88 rfl ?_
          refine cj_bipush (v := 7) dX7_calculate_89 (by decide) ?_
          refine cj_pc (pc' := 91) rfl ?_
          refine cj_icmp_ge (tgt := 103) dX7_calculate_91 (by decide) (fun c16 => ?_) (fun c16 => ?_)
          · replace h := h.1 c16
            refine cj_iload dX7_calculate_103 rfl ?_
            refine cj_if_eq (tgt := 113) dX7_calculate_105 (by decide) (fun _ => ?_) (fun c => absurd (by decide) c)
            refine cj_iconst (v := 2) dX7_calculate_113 (by decide) ?_
            refine rm_put flX7_100 dX7_calculate_114 rmp_49 rfl rfl (by decide) ?_
            refine cj_pc (pc' := 117) rfl ?_
            refine cj_vret rfl dX7_calculate_117 ?_
            exact ⟨_, rfl, rfl, h⟩
          · replace h := h.2 c16
            refine cj_iload dX7_calculate_94 rfl ?_
            refine cj_iconst (v := 1) dX7_calculate_96 (by decide) ?_
            refine cj_ishl dX7_calculate_97 ?_
            refine cj_iconst (v := 1) dX7_calculate_98 (by decide) ?_
            refine cj_pc (pc' := 99) rfl ?_
            refine cj_iadd dX7_calculate_99 ?_
            refine cj_goto (tgt := 114) dX7_calculate_100 (by decide) ?_
            refine rm_put flX7_100 dX7_calculate_114 rmp_49 rfl rfl (by decide) ?_
            refine cj_vret rfl dX7_calculate_117 ?_
            exact ⟨_, rfl, rfl, h⟩
        · replace h := h.2 c15
          refine cj_iconst (v := 1) dX7_calculate_67 (by decide) ?_
          refine cj_pc (pc' := 68) rfl ?_
          refine cj_goto (tgt := 85) dX7_calculate_68 (by decide) ?_
          refine cj_istore (lv' := [(5, .int 1), (4, .int ((((S.2 52) (((S.1 51) - 1).toNatClampNeg)) >>> ((1 : Int32) &&& 31)) - ((S.1 49) >>> ((1 : Int32) &&& 31)))), (3, .int ((S.1 49) >>> ((1 : Int32) &&& 31))), (2, .int (((S.2 52) (((S.1 51) - 1).toNatClampNeg)) >>> ((1 : Int32) &&& 31))), (0, .ref mo), (1, .int a1)]) dX7_calculate_85 (by decide) rfl ?_
          refine cj_aload_n dX7_calculate_87 rfl ?_
          refine cj_iload_n dX7_calculate_88 rfl ?_
          refine cj_bipush (v := 7) dX7_calculate_89 (by decide) ?_
          refine cj_pc (pc' := 91) rfl ?_
          refine cj_icmp_ge (tgt := 103) dX7_calculate_91 (by decide) (fun c17 => ?_) (fun c17 => ?_)
          · replace h := h.1 c17
            refine cj_iload dX7_calculate_103 rfl ?_
            refine cj_if_eq (tgt := 113) dX7_calculate_105 (by decide) (fun c => absurd c (by decide)) (fun _ => ?_)
            refine cj_bipush (v := 18) dX7_calculate_108 (by decide) ?_
            refine cj_goto (tgt := 114) dX7_calculate_110 (by decide) ?_
            refine cj_pc (pc' := 114) rfl ?_
            refine rm_put flX7_100 dX7_calculate_114 rmp_49 rfl rfl (by decide) ?_
            refine cj_vret rfl dX7_calculate_117 ?_
            exact ⟨_, rfl, rfl, h⟩
          · replace h := h.2 c17
            refine cj_iload dX7_calculate_94 rfl ?_
            refine cj_iconst (v := 1) dX7_calculate_96 (by decide) ?_
            refine cj_ishl dX7_calculate_97 ?_
            refine cj_pc (pc' := 98) rfl ?_
            refine cj_iconst (v := 1) dX7_calculate_98 (by decide) ?_
            refine cj_iadd dX7_calculate_99 ?_
            refine cj_goto (tgt := 114) dX7_calculate_100 (by decide) ?_
            refine rm_put flX7_100 dX7_calculate_114 rmp_49 rfl rfl (by decide) ?_
            refine cj_vret rfl dX7_calculate_117 ?_
            exact ⟨_, rfl, rfl, h⟩
  · replace h := h.2 c2
    refine cj_iload_n dX7_calculate_34 rfl ?_
    refine cj_pc (pc' := 35) rfl ?_
    refine cj_iload_n dX7_calculate_35 rfl ?_
    refine cj_iadd dX7_calculate_36 ?_
    refine cj_goto (tgt := 54) dX7_calculate_37 (by decide) ?_
    refine cj_istore (lv' := [(4, .int ((((S.2 52) (((S.1 51) - 1).toNatClampNeg)) >>> ((1 : Int32) &&& 31)) + ((S.1 49) >>> ((1 : Int32) &&& 31)))), (3, .int ((S.1 49) >>> ((1 : Int32) &&& 31))), (2, .int (((S.2 52) (((S.1 51) - 1).toNatClampNeg)) >>> ((1 : Int32) &&& 31))), (0, .ref mo), (1, .int a1)]) dX7_calculate_54 (by decide) rfl ?_
    refine cj_iload_n dX7_calculate_56 rfl ?_
    refine cj_pc (pc' := 57) rfl ?_
    refine cj_bipush (v := 7) dX7_calculate_57 (by decide) ?_
    refine cj_icmp_ne (tgt := 75) dX7_calculate_59 (by decide) (fun c18 => ?_) (fun c18 => ?_)
    · replace h := h.1 c18
      refine cj_iload_n dX7_calculate_75 rfl ?_
      refine cj_iload_n dX7_calculate_76 rfl ?_
      refine cj_icmp_ne (tgt := 84) dX7_calculate_77 (by decide) (fun c19 => ?_) (fun c19 => ?_)
      · replace h := h.1 c19
        refine cj_iconst (v := 0) dX7_calculate_84 (by decide) ?_
        refine cj_pc (pc' := 85) rfl ?_
        refine cj_istore (lv' := [(5, .int 0), (4, .int ((((S.2 52) (((S.1 51) - 1).toNatClampNeg)) >>> ((1 : Int32) &&& 31)) + ((S.1 49) >>> ((1 : Int32) &&& 31)))), (3, .int ((S.1 49) >>> ((1 : Int32) &&& 31))), (2, .int (((S.2 52) (((S.1 51) - 1).toNatClampNeg)) >>> ((1 : Int32) &&& 31))), (0, .ref mo), (1, .int a1)]) dX7_calculate_85 (by decide) rfl ?_
        refine cj_aload_n dX7_calculate_87 rfl ?_
        refine cj_iload_n dX7_calculate_88 rfl ?_
        refine cj_bipush (v := 7) dX7_calculate_89 (by decide) ?_
        refine cj_icmp_ge (tgt := 103) dX7_calculate_91 (by decide) (fun c20 => ?_) (fun c20 => ?_)
        · replace h := h.1 c20
          refine cj_iload dX7_calculate_103 rfl ?_
          refine cj_pc (pc' := 105) rfl ?_
          refine cj_if_eq (tgt := 113) dX7_calculate_105 (by decide) (fun _ => ?_) (fun c => absurd (by decide) c)
          refine cj_iconst (v := 2) dX7_calculate_113 (by decide) ?_
          refine rm_put flX7_100 dX7_calculate_114 rmp_49 rfl rfl (by decide) ?_
          refine cj_vret rfl dX7_calculate_117 ?_
          exact ⟨_, rfl, rfl, h⟩
        · replace h := h.2 c20
          refine cj_iload dX7_calculate_94 rfl ?_
          refine cj_pc (pc' := 96) rfl ?_
          refine cj_iconst (v := 1) dX7_calculate_96 (by decide) ?_
          refine cj_ishl dX7_calculate_97 ?_
          refine cj_iconst (v := 1) dX7_calculate_98 (by decide) ?_
          refine cj_iadd dX7_calculate_99 ?_
          refine cj_goto (tgt := 114) dX7_calculate_100 (by decide) ?_
          refine cj_pc (pc' := 114) rfl ?_
          refine rm_put flX7_100 dX7_calculate_114 rmp_49 rfl rfl (by decide) ?_
          refine cj_vret rfl dX7_calculate_117 ?_
          exact ⟨_, rfl, rfl, h⟩
      · replace h := h.2 c19
        refine cj_iconst (v := 1) dX7_calculate_80 (by decide) ?_
        refine cj_goto (tgt := 85) dX7_calculate_81 (by decide) ?_
        refine cj_istore (lv' := [(5, .int 1), (4, .int ((((S.2 52) (((S.1 51) - 1).toNatClampNeg)) >>> ((1 : Int32) &&& 31)) + ((S.1 49) >>> ((1 : Int32) &&& 31)))), (3, .int ((S.1 49) >>> ((1 : Int32) &&& 31))), (2, .int (((S.2 52) (((S.1 51) - 1).toNatClampNeg)) >>> ((1 : Int32) &&& 31))), (0, .ref mo), (1, .int a1)]) dX7_calculate_85 (by decide) rfl ?_
        refine cj_pc (pc' := 87) rfl ?_
        refine cj_aload_n dX7_calculate_87 rfl ?_
        refine cj_iload_n dX7_calculate_88 rfl ?_
        refine cj_bipush (v := 7) dX7_calculate_89 (by decide) ?_
        refine cj_icmp_ge (tgt := 103) dX7_calculate_91 (by decide) (fun c21 => ?_) (fun c21 => ?_)
        · replace h := h.1 c21
          refine cj_iload dX7_calculate_103 rfl ?_
          refine cj_pc (pc' := 105) rfl ?_
          refine cj_if_eq (tgt := 113) dX7_calculate_105 (by decide) (fun c => absurd c (by decide)) (fun _ => ?_)
          refine cj_bipush (v := 18) dX7_calculate_108 (by decide) ?_
          refine cj_goto (tgt := 114) dX7_calculate_110 (by decide) ?_
          refine rm_put flX7_100 dX7_calculate_114 rmp_49 rfl rfl (by decide) ?_
          refine cj_vret rfl dX7_calculate_117 ?_
          exact ⟨_, rfl, rfl, h⟩
        · replace h := h.2 c21
          refine cj_iload dX7_calculate_94 rfl ?_
          refine cj_pc (pc' := 96) rfl ?_
          refine cj_iconst (v := 1) dX7_calculate_96 (by decide) ?_
          refine cj_ishl dX7_calculate_97 ?_
          refine cj_iconst (v := 1) dX7_calculate_98 (by decide) ?_
          refine cj_iadd dX7_calculate_99 ?_
          refine cj_goto (tgt := 114) dX7_calculate_100 (by decide) ?_
          refine cj_pc (pc' := 114) rfl ?_
          refine rm_put flX7_100 dX7_calculate_114 rmp_49 rfl rfl (by decide) ?_
          refine cj_vret rfl dX7_calculate_117 ?_
          exact ⟨_, rfl, rfl, h⟩
    · replace h := h.2 c18
      refine cj_iload_n dX7_calculate_62 rfl ?_
      refine cj_iload_n dX7_calculate_63 rfl ?_
      refine cj_icmp_ge (tgt := 71) dX7_calculate_64 (by decide) (fun c22 => ?_) (fun c22 => ?_)
      · replace h := h.1 c22
        refine cj_iconst (v := 0) dX7_calculate_71 (by decide) ?_
        refine cj_pc (pc' := 72) rfl ?_
        refine cj_goto (tgt := 85) dX7_calculate_72 (by decide) ?_
        refine cj_istore (lv' := [(5, .int 0), (4, .int ((((S.2 52) (((S.1 51) - 1).toNatClampNeg)) >>> ((1 : Int32) &&& 31)) + ((S.1 49) >>> ((1 : Int32) &&& 31)))), (3, .int ((S.1 49) >>> ((1 : Int32) &&& 31))), (2, .int (((S.2 52) (((S.1 51) - 1).toNatClampNeg)) >>> ((1 : Int32) &&& 31))), (0, .ref mo), (1, .int a1)]) dX7_calculate_85 (by decide) rfl ?_
        refine cj_aload_n dX7_calculate_87 rfl ?_
        refine cj_iload_n dX7_calculate_88 rfl ?_
        refine cj_bipush (v := 7) dX7_calculate_89 (by decide) ?_
        refine cj_pc (pc' := 91) rfl ?_
        refine cj_icmp_ge (tgt := 103) dX7_calculate_91 (by decide) (fun c23 => ?_) (fun c23 => ?_)
        · replace h := h.1 c23
          refine cj_iload dX7_calculate_103 rfl ?_
          refine cj_if_eq (tgt := 113) dX7_calculate_105 (by decide) (fun _ => ?_) (fun c => absurd (by decide) c)
          refine cj_iconst (v := 2) dX7_calculate_113 (by decide) ?_
          refine rm_put flX7_100 dX7_calculate_114 rmp_49 rfl rfl (by decide) ?_
          refine cj_pc (pc' := 117) rfl ?_
          refine cj_vret rfl dX7_calculate_117 ?_
          exact ⟨_, rfl, rfl, h⟩
        · replace h := h.2 c23
          refine cj_iload dX7_calculate_94 rfl ?_
          refine cj_iconst (v := 1) dX7_calculate_96 (by decide) ?_
          refine cj_ishl dX7_calculate_97 ?_
          refine cj_iconst (v := 1) dX7_calculate_98 (by decide) ?_
          refine cj_pc (pc' := 99) rfl ?_
          refine cj_iadd dX7_calculate_99 ?_
          refine cj_goto (tgt := 114) dX7_calculate_100 (by decide) ?_
          refine rm_put flX7_100 dX7_calculate_114 rmp_49 rfl rfl (by decide) ?_
          refine cj_vret rfl dX7_calculate_117 ?_
          exact ⟨_, rfl, rfl, h⟩
      · replace h := h.2 c22
        refine cj_iconst (v := 1) dX7_calculate_67 (by decide) ?_
        refine cj_pc (pc' := 68) rfl ?_
        refine cj_goto (tgt := 85) dX7_calculate_68 (by decide) ?_
        refine cj_istore (lv' := [(5, .int 1), (4, .int ((((S.2 52) (((S.1 51) - 1).toNatClampNeg)) >>> ((1 : Int32) &&& 31)) + ((S.1 49) >>> ((1 : Int32) &&& 31)))), (3, .int ((S.1 49) >>> ((1 : Int32) &&& 31))), (2, .int (((S.2 52) (((S.1 51) - 1).toNatClampNeg)) >>> ((1 : Int32) &&& 31))), (0, .ref mo), (1, .int a1)]) dX7_calculate_85 (by decide) rfl ?_
        refine cj_aload_n dX7_calculate_87 rfl ?_
        refine cj_iload_n dX7_calculate_88 rfl ?_
        refine cj_bipush (v := 7) dX7_calculate_89 (by decide) ?_
        refine cj_pc (pc' := 91) rfl ?_
        refine cj_icmp_ge (tgt := 103) dX7_calculate_91 (by decide) (fun c24 => ?_) (fun c24 => ?_)
        · replace h := h.1 c24
          refine cj_iload dX7_calculate_103 rfl ?_
          refine cj_if_eq (tgt := 113) dX7_calculate_105 (by decide) (fun c => absurd c (by decide)) (fun _ => ?_)
          refine cj_bipush (v := 18) dX7_calculate_108 (by decide) ?_
          refine cj_goto (tgt := 114) dX7_calculate_110 (by decide) ?_
          refine cj_pc (pc' := 114) rfl ?_
          refine rm_put flX7_100 dX7_calculate_114 rmp_49 rfl rfl (by decide) ?_
          refine cj_vret rfl dX7_calculate_117 ?_
          exact ⟨_, rfl, rfl, h⟩
        · replace h := h.2 c24
          refine cj_iload dX7_calculate_94 rfl ?_
          refine cj_iconst (v := 1) dX7_calculate_96 (by decide) ?_
          refine cj_ishl dX7_calculate_97 ?_
          refine cj_pc (pc' := 98) rfl ?_
          refine cj_iconst (v := 1) dX7_calculate_98 (by decide) ?_
          refine cj_iadd dX7_calculate_99 ?_
          refine cj_goto (tgt := 114) dX7_calculate_100 (by decide) ?_
          refine rm_put flX7_100 dX7_calculate_114 rmp_49 rfl rfl (by decide) ?_
          refine cj_vret rfl dX7_calculate_117 ?_
          exact ⟨_, rfl, rfl, h⟩
def wl_findCase_11 (v1 : Int32) (Q : Int32 → rm_S → Prop) (K : Int32 → rm_S → Prop) : Nat → Int32 → rm_S → Prop
  | 0, _, _ => False
  | n + 1, v2, S => wp_a S (fun x5 S6 => ((x5 < v2 → K v2 S6) ∧ (¬ x5 < v2 → (vp_in ((3 * ((S6.1 53) + v2)) + 1) 372 ∧ ((¬ ((S6.2 38) (((3 * ((S6.1 53) + v2)) + 1).toNatClampNeg)) = v1 → wl_findCase_11 v1 Q K n (v2 + 1) S6) ∧ (((S6.2 38) (((3 * ((S6.1 53) + v2)) + 1).toNatClampNeg)) = v1 → (vp_in ((3 * ((S6.1 53) + v2)) + 2) 372 ∧ Q ((S6.2 38) (((3 * ((S6.1 53) + v2)) + 2).toNatClampNeg)) S6)))))))
def wp_findCase (S : rm_S) (Q : Int32 → rm_S → Prop) : Prop := wp_tagOf S (S.1 49) (fun x2 S3 => (∃ n9 : Nat, wl_findCase_11 x2 Q (fun w12 S11 => Q (-1) S11) n9 1 S3))
set_option maxHeartbeats 4000000 in
set_option maxRecDepth 100000 in
theorem wl_findCase_11_ok {mo : Nat} {ad : Nat → Nat} (hA : rm_A mo ad) {G0 : cj_G} {d k0 n0 k n9 : Nat} (hd9 : 2 ≤ d) (v1 : Int32) {Q : Int32 → rm_S → Prop} {K : Int32 → rm_S → Prop} (hK : ∀ (v2 : Int32) (S : rm_S), K v2 S → cj_J mX7_findCase d k0 n0 (rm_posti mo ad G0 Q) cj_no k n9 60 [(1, .int v1), (2, .int v2), (0, .ref mo)] [] (rm_md mo ad S G0)) : ∀ (n : Nat) (v2 : Int32) (S : rm_S), wl_findCase_11 v1 Q K n v2 S → cj_J mX7_findCase d k0 n0 (rm_posti mo ad G0 Q) cj_no k n9 11 [(1, .int v1), (2, .int v2), (0, .ref mo)] [] (rm_md mo ad S G0) := by
  intro n
  induction n with
  | zero => intro v2 S h; exact absurd h id
  | succ n ih =>
    intro v2 S h
    unfold wl_findCase_11 at h
    refine cj_iload_n dX7_findCase_11 rfl ?_
    refine cj_aload_n dX7_findCase_12 rfl ?_
    refine cj_pc (pc' := 13) rfl ?_
    refine cj_callV (M' := mX7_a) (d' := 0) (k' := 0) (n' := 0) (index := 340) (np := 0) (As := []) (rest := [.int v2]) dX7_findCase_13 lkX7_340 mwX7_a (tR_a hA h) (by omega) rfl rfl (Nat.le_of_ble_eq_true rfl) rm_mo rfl (fun v9 G9 q4 => ?_) (fun _ _ h => absurd h id)
    obtain ⟨x5, S6, e8, e9, h⟩ := q4
    subst e8
    subst e9
    refine cj_st (st' := [.int x5, .int v2]) rfl ?_
    refine cj_icmp_gt (tgt := 60) dX7_findCase_16 (by decide) (fun c7 => ?_) (fun c7 => ?_)
    · replace h := h.1 c7
      refine cj_sub (lv' := [(1, .int v1), (2, .int v2), (0, .ref mo)]) (by simp) ?_
      exact hK _ _ h
    · replace h := h.2 c7
      refine cj_aload_n dX7_findCase_19 rfl ?_
      refine rm_get (.ref (ad 38)) flX7_82 dX7_findCase_20 rfl ?_
      refine cj_iconst (v := 3) dX7_findCase_23 (by decide) ?_
      refine cj_pc (pc' := 24) rfl ?_
      refine cj_aload_n dX7_findCase_24 rfl ?_
      refine rm_get (.int (S6.1 53)) flX7_309 dX7_findCase_25 rfl ?_
      refine cj_iload_n dX7_findCase_28 rfl ?_
      refine cj_iadd dX7_findCase_29 ?_
      refine cj_imul dX7_findCase_30 ?_
      refine cj_pc (pc' := 31) rfl ?_
      refine cj_iconst (v := 1) dX7_findCase_31 (by decide) ?_
      refine cj_iadd dX7_findCase_32 ?_
      have i8 := h.1
      replace h := h.2
      refine rm_iald (j := 38) (x := (S6.2 38) (((3 * ((S6.1 53) + v2)) + 1).toNatClampNeg)) hA rfl dX7_findCase_33 i8 rfl ?_
      refine cj_iload_n dX7_findCase_34 rfl ?_
      refine cj_icmp_ne (tgt := 54) dX7_findCase_35 (by decide) (fun c9 => ?_) (fun c9 => ?_)
      · replace h := h.1 c9
        refine cj_iinc (v := v2 + 1) (lv' := [(2, .int (v2 + 1)), (1, .int v1), (0, .ref mo)]) dX7_findCase_54 rfl rfl (by decide) rfl ?_
        refine cj_pc (pc' := 57) rfl ?_
        refine cj_goto (tgt := 11) dX7_findCase_57 (by decide) ?_
        refine cj_sub (lv' := [(1, .int v1), (2, .int (v2 + 1)), (0, .ref mo)]) (by simp) ?_
        exact ih _ _ h
      · replace h := h.2 c9
        refine cj_aload_n dX7_findCase_38 rfl ?_
        refine rm_get (.ref (ad 38)) flX7_82 dX7_findCase_39 rfl ?_
        refine cj_iconst (v := 3) dX7_findCase_42 (by decide) ?_
        refine cj_aload_n dX7_findCase_43 rfl ?_
        refine cj_pc (pc' := 44) rfl ?_
        refine rm_get (.int (S6.1 53)) flX7_309 dX7_findCase_44 rfl ?_
        refine cj_iload_n dX7_findCase_47 rfl ?_
        refine cj_iadd dX7_findCase_48 ?_
        refine cj_imul dX7_findCase_49 ?_
        refine cj_iconst (v := 2) dX7_findCase_50 (by decide) ?_
        refine cj_pc (pc' := 51) rfl ?_
        refine cj_iadd dX7_findCase_51 ?_
        have i10 := h.1
        replace h := h.2
        refine rm_iald (j := 38) (x := (S6.2 38) (((3 * ((S6.1 53) + v2)) + 2).toNatClampNeg)) hA rfl dX7_findCase_52 i10 rfl ?_
        refine cj_iret rfl dX7_findCase_53 ?_
        exact ⟨_, _, rfl, rfl, h⟩
set_option maxHeartbeats 4000000 in
set_option maxRecDepth 100000 in
theorem tR_findCase {mo : Nat} {ad : Nat → Nat} (hA : rm_A mo ad) {G0 : cj_G} {S : rm_S} {Q : Int32 → rm_S → Prop} (h : wp_findCase S Q) : cj_T mX7_findCase 2 0 0 [.ref mo] (rm_md mo ad S G0) (rm_posti mo ad G0 Q) cj_no := by
  refine cj_T_of (by decide +kernel) (Nat.le_of_ble_eq_true rfl) ?_
  refine cj_lvs (lv' := [(0, .ref mo)]) rfl ?_
  unfold wp_findCase at h
  refine cj_aload_n dX7_findCase_0 rfl ?_
  refine cj_aload_n dX7_findCase_1 rfl ?_
  refine rm_get (.int (S.1 49)) flX7_100 dX7_findCase_2 rfl ?_
  refine cj_callV (M' := mX7_tagOf) (d' := 1) (k' := 0) (n' := 0) (index := 337) (np := 1) (As := [.int (S.1 49)]) (rest := []) dX7_findCase_5 lkX7_337 mwX7_tagOf (tR_tagOf hA h) (by omega) rfl rfl (Nat.le_of_ble_eq_true rfl) rm_mo rfl (fun v9 G9 q1 => ?_) (fun _ _ h => absurd h id)
  obtain ⟨x2, S3, e8, e9, h⟩ := q1
  subst e8
  subst e9
  refine cj_st (st' := [.int x2]) rfl ?_
  refine cj_pc (pc' := 8) rfl ?_
  refine cj_istore_n (lv' := [(1, .int x2), (0, .ref mo)]) dX7_findCase_8 (by decide) rfl ?_
  refine cj_iconst (v := 1) dX7_findCase_9 (by decide) ?_
  refine cj_istore_n (lv' := [(2, .int 1), (1, .int x2), (0, .ref mo)]) dX7_findCase_10 (by decide) rfl ?_
  obtain ⟨n9, h⟩ := h
  refine cj_sub (lv' := [(1, .int x2), (2, .int 1), (0, .ref mo)]) (by simp) ?_
  refine wl_findCase_11_ok hA (by omega) _ ?_ n9 _ _ h
  clear h
  intro w12 S11 h
  refine cj_iconst (v := (-1)) dX7_findCase_60 (by decide) ?_
  refine cj_iret rfl dX7_findCase_61 ?_
  exact ⟨_, _, rfl, rfl, h⟩
def wp_wrong (S : rm_S) (a1 : Int32) (Q : Int32 → rm_S → Prop) : Prop := ((a1 < 4 → ((¬ a1 = 13 → ((¬ a1 = 18 → ((a1 = 3 → ((¬ (S.1 51) = 40 → Q 0 S) ∧ ((S.1 51) = 40 → Q 3 S))) ∧ (¬ a1 = 3 → ((¬ a1 = 13 → Q 0 S) ∧ (a1 = 13 → ((¬ (S.1 51) = 40 → Q 0 S) ∧ ((S.1 51) = 40 → Q 3 S))))))) ∧ (a1 = 18 → wp_isBuilt S (S.1 49) (fun x9 S10 => ((x9 = 0 → Q 1 S10) ∧ (¬ x9 = 0 → wp_findCase S10 (fun x13 S14 => ((0 ≤ x13 → ((a1 = 3 → ((¬ (S14.1 51) = 40 → Q 0 S14) ∧ ((S14.1 51) = 40 → Q 3 S14))) ∧ (¬ a1 = 3 → ((¬ a1 = 13 → Q 0 S14) ∧ (a1 = 13 → ((¬ (S14.1 51) = 40 → Q 0 S14) ∧ ((S14.1 51) = 40 → Q 3 S14))))))) ∧ (¬ 0 ≤ x13 → Q 1 S14))))))))) ∧ (a1 = 13 → wp_isFunction S (S.1 49) (fun x21 S22 => ((¬ x21 = 0 → ((¬ a1 = 18 → ((a1 = 3 → ((¬ (S22.1 51) = 40 → Q 0 S22) ∧ ((S22.1 51) = 40 → Q 3 S22))) ∧ (¬ a1 = 3 → ((¬ a1 = 13 → Q 0 S22) ∧ (a1 = 13 → ((¬ (S22.1 51) = 40 → Q 0 S22) ∧ ((S22.1 51) = 40 → Q 3 S22))))))) ∧ (a1 = 18 → wp_isBuilt S22 (S22.1 49) (fun x30 S31 => ((x30 = 0 → Q 1 S31) ∧ (¬ x30 = 0 → wp_findCase S31 (fun x34 S35 => ((0 ≤ x34 → ((a1 = 3 → ((¬ (S35.1 51) = 40 → Q 0 S35) ∧ ((S35.1 51) = 40 → Q 3 S35))) ∧ (¬ a1 = 3 → ((¬ a1 = 13 → Q 0 S35) ∧ (a1 = 13 → ((¬ (S35.1 51) = 40 → Q 0 S35) ∧ ((S35.1 51) = 40 → Q 3 S35))))))) ∧ (¬ 0 ≤ x34 → Q 1 S35))))))))) ∧ (x21 = 0 → Q 1 S22)))))) ∧ (¬ a1 < 4 → ((8 < a1 → ((¬ a1 = 13 → ((¬ a1 = 18 → ((a1 = 3 → ((¬ (S.1 51) = 40 → Q 0 S) ∧ ((S.1 51) = 40 → Q 3 S))) ∧ (¬ a1 = 3 → ((¬ a1 = 13 → Q 0 S) ∧ (a1 = 13 → ((¬ (S.1 51) = 40 → Q 0 S) ∧ ((S.1 51) = 40 → Q 3 S))))))) ∧ (a1 = 18 → wp_isBuilt S (S.1 49) (fun x49 S50 => ((x49 = 0 → Q 1 S50) ∧ (¬ x49 = 0 → wp_findCase S50 (fun x53 S54 => ((0 ≤ x53 → ((a1 = 3 → ((¬ (S54.1 51) = 40 → Q 0 S54) ∧ ((S54.1 51) = 40 → Q 3 S54))) ∧ (¬ a1 = 3 → ((¬ a1 = 13 → Q 0 S54) ∧ (a1 = 13 → ((¬ (S54.1 51) = 40 → Q 0 S54) ∧ ((S54.1 51) = 40 → Q 3 S54))))))) ∧ (¬ 0 ≤ x53 → Q 1 S54))))))))) ∧ (a1 = 13 → wp_isFunction S (S.1 49) (fun x61 S62 => ((¬ x61 = 0 → ((¬ a1 = 18 → ((a1 = 3 → ((¬ (S62.1 51) = 40 → Q 0 S62) ∧ ((S62.1 51) = 40 → Q 3 S62))) ∧ (¬ a1 = 3 → ((¬ a1 = 13 → Q 0 S62) ∧ (a1 = 13 → ((¬ (S62.1 51) = 40 → Q 0 S62) ∧ ((S62.1 51) = 40 → Q 3 S62))))))) ∧ (a1 = 18 → wp_isBuilt S62 (S62.1 49) (fun x70 S71 => ((x70 = 0 → Q 1 S71) ∧ (¬ x70 = 0 → wp_findCase S71 (fun x74 S75 => ((0 ≤ x74 → ((a1 = 3 → ((¬ (S75.1 51) = 40 → Q 0 S75) ∧ ((S75.1 51) = 40 → Q 3 S75))) ∧ (¬ a1 = 3 → ((¬ a1 = 13 → Q 0 S75) ∧ (a1 = 13 → ((¬ (S75.1 51) = 40 → Q 0 S75) ∧ ((S75.1 51) = 40 → Q 3 S75))))))) ∧ (¬ 0 ≤ x74 → Q 1 S75))))))))) ∧ (x61 = 0 → Q 1 S62)))))) ∧ (¬ 8 < a1 → (vp_in ((S.1 51) - 1) 40 ∧ wp_isInt ((S.2 52) (((S.1 51) - 1).toNatClampNeg)) (fun x83 => ((x83 = 0 → Q 1 S) ∧ (¬ x83 = 0 → wp_isInt (S.1 49) (fun x86 => ((¬ x86 = 0 → ((¬ a1 = 13 → ((¬ a1 = 18 → ((a1 = 3 → ((¬ (S.1 51) = 40 → Q 0 S) ∧ ((S.1 51) = 40 → Q 3 S))) ∧ (¬ a1 = 3 → ((¬ a1 = 13 → Q 0 S) ∧ (a1 = 13 → ((¬ (S.1 51) = 40 → Q 0 S) ∧ ((S.1 51) = 40 → Q 3 S))))))) ∧ (a1 = 18 → wp_isBuilt S (S.1 49) (fun x95 S96 => ((x95 = 0 → Q 1 S96) ∧ (¬ x95 = 0 → wp_findCase S96 (fun x99 S100 => ((0 ≤ x99 → ((a1 = 3 → ((¬ (S100.1 51) = 40 → Q 0 S100) ∧ ((S100.1 51) = 40 → Q 3 S100))) ∧ (¬ a1 = 3 → ((¬ a1 = 13 → Q 0 S100) ∧ (a1 = 13 → ((¬ (S100.1 51) = 40 → Q 0 S100) ∧ ((S100.1 51) = 40 → Q 3 S100))))))) ∧ (¬ 0 ≤ x99 → Q 1 S100))))))))) ∧ (a1 = 13 → wp_isFunction S (S.1 49) (fun x107 S108 => ((¬ x107 = 0 → ((¬ a1 = 18 → ((a1 = 3 → ((¬ (S108.1 51) = 40 → Q 0 S108) ∧ ((S108.1 51) = 40 → Q 3 S108))) ∧ (¬ a1 = 3 → ((¬ a1 = 13 → Q 0 S108) ∧ (a1 = 13 → ((¬ (S108.1 51) = 40 → Q 0 S108) ∧ ((S108.1 51) = 40 → Q 3 S108))))))) ∧ (a1 = 18 → wp_isBuilt S108 (S108.1 49) (fun x116 S117 => ((x116 = 0 → Q 1 S117) ∧ (¬ x116 = 0 → wp_findCase S117 (fun x120 S121 => ((0 ≤ x120 → ((a1 = 3 → ((¬ (S121.1 51) = 40 → Q 0 S121) ∧ ((S121.1 51) = 40 → Q 3 S121))) ∧ (¬ a1 = 3 → ((¬ a1 = 13 → Q 0 S121) ∧ (a1 = 13 → ((¬ (S121.1 51) = 40 → Q 0 S121) ∧ ((S121.1 51) = 40 → Q 3 S121))))))) ∧ (¬ 0 ≤ x120 → Q 1 S121))))))))) ∧ (x107 = 0 → Q 1 S108)))))) ∧ (x86 = 0 → Q 1 S)))))))))))
set_option maxHeartbeats 4000000 in
set_option maxRecDepth 100000 in
theorem tR_wrong {mo : Nat} {ad : Nat → Nat} (hA : rm_A mo ad) {G0 : cj_G} {S : rm_S} {a1 : Int32} {Q : Int32 → rm_S → Prop} (h : wp_wrong S a1 Q) : cj_T mX7_wrong 3 0 0 [.ref mo, .int a1] (rm_md mo ad S G0) (rm_posti mo ad G0 Q) cj_no := by
  refine cj_T_of (by decide +kernel) (Nat.le_of_ble_eq_true rfl) ?_
  refine cj_lvs (lv' := [(0, .ref mo), (1, .int a1)]) rfl ?_
  unfold wp_wrong at h
  refine cj_iload_n dX7_wrong_0 rfl ?_
  refine cj_iconst (v := 4) dX7_wrong_1 (by decide) ?_
  refine cj_icmp_lt (tgt := 40) dX7_wrong_2 (by decide) (fun c1 => ?_) (fun c1 => ?_)
  · replace h := h.1 c1
    refine cj_iload_n dX7_wrong_40 rfl ?_
    refine cj_pc (pc' := 41) rfl ?_
    refine cj_bipush (v := 13) dX7_wrong_41 (by decide) ?_
    refine cj_icmp_ne (tgt := 59) dX7_wrong_43 (by decide) (fun c2 => ?_) (fun c2 => ?_)
    · replace h := h.1 c2
      refine cj_iload_n dX7_wrong_59 rfl ?_
      refine cj_bipush (v := 18) dX7_wrong_60 (by decide) ?_
      refine cj_icmp_ne (tgt := 85) dX7_wrong_62 (by decide) (fun c3 => ?_) (fun c3 => ?_)
      · replace h := h.1 c3
        refine cj_iload_n dX7_wrong_85 rfl ?_
        refine cj_pc (pc' := 86) rfl ?_
        refine cj_iconst (v := 3) dX7_wrong_86 (by decide) ?_
        refine cj_icmp_eq (tgt := 96) dX7_wrong_87 (by decide) (fun c4 => ?_) (fun c4 => ?_)
        · replace h := h.1 c4
          refine cj_aload_n dX7_wrong_96 rfl ?_
          refine rm_get (.int (S.1 51)) flX7_306 dX7_wrong_97 rfl ?_
          refine cj_bipush (v := 40) dX7_wrong_100 (by decide) ?_
          refine cj_pc (pc' := 102) rfl ?_
          refine cj_icmp_ne (tgt := 109) dX7_wrong_102 (by decide) (fun c5 => ?_) (fun c5 => ?_)
          · replace h := h.1 c5
            refine cj_iconst (v := 0) dX7_wrong_109 (by decide) ?_
            refine cj_iret rfl dX7_wrong_110 ?_
            exact ⟨_, _, rfl, rfl, h⟩
          · replace h := h.2 c5
            refine cj_iconst (v := 3) dX7_wrong_105 (by decide) ?_
            refine cj_goto (tgt := 110) dX7_wrong_106 (by decide) ?_
            refine cj_pc (pc' := 110) rfl ?_
            refine cj_iret rfl dX7_wrong_110 ?_
            exact ⟨_, _, rfl, rfl, h⟩
        · replace h := h.2 c4
          refine cj_iload_n dX7_wrong_90 rfl ?_
          refine cj_bipush (v := 13) dX7_wrong_91 (by decide) ?_
          refine cj_icmp_ne (tgt := 109) dX7_wrong_93 (by decide) (fun c6 => ?_) (fun c6 => ?_)
          · replace h := h.1 c6
            refine cj_iconst (v := 0) dX7_wrong_109 (by decide) ?_
            refine cj_pc (pc' := 110) rfl ?_
            refine cj_iret rfl dX7_wrong_110 ?_
            exact ⟨_, _, rfl, rfl, h⟩
          · replace h := h.2 c6
            refine cj_aload_n dX7_wrong_96 rfl ?_
            refine rm_get (.int (S.1 51)) flX7_306 dX7_wrong_97 rfl ?_
            refine cj_bipush (v := 40) dX7_wrong_100 (by decide) ?_
            refine cj_icmp_ne (tgt := 109) dX7_wrong_102 (by decide) (fun c7 => ?_) (fun c7 => ?_)
            · replace h := h.1 c7
              refine cj_iconst (v := 0) dX7_wrong_109 (by decide) ?_
              refine cj_pc (pc' := 110) rfl ?_
              refine cj_iret rfl dX7_wrong_110 ?_
              exact ⟨_, _, rfl, rfl, h⟩
            · replace h := h.2 c7
              refine cj_iconst (v := 3) dX7_wrong_105 (by decide) ?_
              refine cj_goto (tgt := 110) dX7_wrong_106 (by decide) ?_
              refine cj_iret rfl dX7_wrong_110 ?_
              exact ⟨_, _, rfl, rfl, h⟩
      · replace h := h.2 c3
        refine cj_aload_n dX7_wrong_65 rfl ?_
        refine cj_pc (pc' := 66) rfl ?_
        refine cj_aload_n dX7_wrong_66 rfl ?_
        refine rm_get (.int (S.1 49)) flX7_100 dX7_wrong_67 rfl ?_
        refine cj_callV (M' := mX7_isBuilt) (d' := 1) (k' := 0) (n' := 0) (index := 350) (np := 1) (As := [.int (S.1 49)]) (rest := []) dX7_wrong_70 lkX7_350 mwX7_isBuilt (tR_isBuilt hA h) (by omega) rfl rfl (Nat.le_of_ble_eq_true rfl) rm_mo rfl (fun v9 G9 q8 => ?_) (fun _ _ h => absurd h id)
        obtain ⟨x9, S10, e8, e9, h⟩ := q8
        subst e8
        subst e9
        refine cj_st (st' := [.int x9]) rfl ?_
        refine cj_if_eq (tgt := 83) dX7_wrong_73 (by decide) (fun c11 => ?_) (fun c11 => ?_)
        · replace h := h.1 c11
          refine cj_iconst (v := 1) dX7_wrong_83 (by decide) ?_
          refine cj_pc (pc' := 84) rfl ?_
          refine cj_iret rfl dX7_wrong_84 ?_
          exact ⟨_, _, rfl, rfl, h⟩
        · replace h := h.2 c11
          refine cj_aload_n dX7_wrong_76 rfl ?_
          refine cj_callV (M' := mX7_findCase) (d' := 2) (k' := 0) (n' := 0) (index := 353) (np := 0) (As := []) (rest := []) dX7_wrong_77 lkX7_353 mwX7_findCase (tR_findCase hA h) (by omega) rfl rfl (Nat.le_of_ble_eq_true rfl) rm_mo rfl (fun v9 G9 q12 => ?_) (fun _ _ h => absurd h id)
          obtain ⟨x13, S14, e8, e9, h⟩ := q12
          subst e8
          subst e9
          refine cj_st (st' := [.int x13]) rfl ?_
          refine cj_if_ge (tgt := 85) dX7_wrong_80 (by decide) (fun c15 => ?_) (fun c15 => ?_)
          · replace h := h.1 c15
            refine cj_iload_n dX7_wrong_85 rfl ?_
            refine cj_pc (pc' := 86) rfl ?_
            refine cj_iconst (v := 3) dX7_wrong_86 (by decide) ?_
            refine cj_icmp_eq (tgt := 96) dX7_wrong_87 (by decide) (fun c16 => ?_) (fun c16 => ?_)
            · replace h := h.1 c16
              refine cj_aload_n dX7_wrong_96 rfl ?_
              refine rm_get (.int (S14.1 51)) flX7_306 dX7_wrong_97 rfl ?_
              refine cj_bipush (v := 40) dX7_wrong_100 (by decide) ?_
              refine cj_pc (pc' := 102) rfl ?_
              refine cj_icmp_ne (tgt := 109) dX7_wrong_102 (by decide) (fun c17 => ?_) (fun c17 => ?_)
              · replace h := h.1 c17
                refine cj_iconst (v := 0) dX7_wrong_109 (by decide) ?_
                refine cj_iret rfl dX7_wrong_110 ?_
                exact ⟨_, _, rfl, rfl, h⟩
              · replace h := h.2 c17
                refine cj_iconst (v := 3) dX7_wrong_105 (by decide) ?_
                refine cj_goto (tgt := 110) dX7_wrong_106 (by decide) ?_
                refine cj_pc (pc' := 110) rfl ?_
                refine cj_iret rfl dX7_wrong_110 ?_
                exact ⟨_, _, rfl, rfl, h⟩
            · replace h := h.2 c16
              refine cj_iload_n dX7_wrong_90 rfl ?_
              refine cj_bipush (v := 13) dX7_wrong_91 (by decide) ?_
              refine cj_icmp_ne (tgt := 109) dX7_wrong_93 (by decide) (fun c18 => ?_) (fun c18 => ?_)
              · replace h := h.1 c18
                refine cj_iconst (v := 0) dX7_wrong_109 (by decide) ?_
                refine cj_pc (pc' := 110) rfl ?_
                refine cj_iret rfl dX7_wrong_110 ?_
                exact ⟨_, _, rfl, rfl, h⟩
              · replace h := h.2 c18
                refine cj_aload_n dX7_wrong_96 rfl ?_
                refine rm_get (.int (S14.1 51)) flX7_306 dX7_wrong_97 rfl ?_
                refine cj_bipush (v := 40) dX7_wrong_100 (by decide) ?_
                refine cj_icmp_ne (tgt := 109) dX7_wrong_102 (by decide) (fun c19 => ?_) (fun c19 => ?_)
                · replace h := h.1 c19
                  refine cj_iconst (v := 0) dX7_wrong_109 (by decide) ?_
                  refine cj_pc (pc' := 110) rfl ?_
                  refine cj_iret rfl dX7_wrong_110 ?_
                  exact ⟨_, _, rfl, rfl, h⟩
                · replace h := h.2 c19
                  refine cj_iconst (v := 3) dX7_wrong_105 (by decide) ?_
                  refine cj_goto (tgt := 110) dX7_wrong_106 (by decide) ?_
                  refine cj_iret rfl dX7_wrong_110 ?_
                  exact ⟨_, _, rfl, rfl, h⟩
          · replace h := h.2 c15
            refine cj_iconst (v := 1) dX7_wrong_83 (by decide) ?_
            refine cj_pc (pc' := 84) rfl ?_
            refine cj_iret rfl dX7_wrong_84 ?_
            exact ⟨_, _, rfl, rfl, h⟩
    · replace h := h.2 c2
      refine cj_aload_n dX7_wrong_46 rfl ?_
      refine cj_aload_n dX7_wrong_47 rfl ?_
      refine rm_get (.int (S.1 49)) flX7_100 dX7_wrong_48 rfl ?_
      refine cj_callV (M' := mX7_isFunction) (d' := 1) (k' := 0) (n' := 0) (index := 347) (np := 1) (As := [.int (S.1 49)]) (rest := []) dX7_wrong_51 lkX7_347 mwX7_isFunction (tR_isFunction hA h) (by omega) rfl rfl (Nat.le_of_ble_eq_true rfl) rm_mo rfl (fun v9 G9 q20 => ?_) (fun _ _ h => absurd h id)
      obtain ⟨x21, S22, e8, e9, h⟩ := q20
      subst e8
      subst e9
      refine cj_st (st' := [.int x21]) rfl ?_
      refine cj_pc (pc' := 54) rfl ?_
      refine cj_if_ne (tgt := 59) dX7_wrong_54 (by decide) (fun c23 => ?_) (fun c23 => ?_)
      · replace h := h.1 c23
        refine cj_iload_n dX7_wrong_59 rfl ?_
        refine cj_bipush (v := 18) dX7_wrong_60 (by decide) ?_
        refine cj_icmp_ne (tgt := 85) dX7_wrong_62 (by decide) (fun c24 => ?_) (fun c24 => ?_)
        · replace h := h.1 c24
          refine cj_iload_n dX7_wrong_85 rfl ?_
          refine cj_pc (pc' := 86) rfl ?_
          refine cj_iconst (v := 3) dX7_wrong_86 (by decide) ?_
          refine cj_icmp_eq (tgt := 96) dX7_wrong_87 (by decide) (fun c25 => ?_) (fun c25 => ?_)
          · replace h := h.1 c25
            refine cj_aload_n dX7_wrong_96 rfl ?_
            refine rm_get (.int (S22.1 51)) flX7_306 dX7_wrong_97 rfl ?_
            refine cj_bipush (v := 40) dX7_wrong_100 (by decide) ?_
            refine cj_pc (pc' := 102) rfl ?_
            refine cj_icmp_ne (tgt := 109) dX7_wrong_102 (by decide) (fun c26 => ?_) (fun c26 => ?_)
            · replace h := h.1 c26
              refine cj_iconst (v := 0) dX7_wrong_109 (by decide) ?_
              refine cj_iret rfl dX7_wrong_110 ?_
              exact ⟨_, _, rfl, rfl, h⟩
            · replace h := h.2 c26
              refine cj_iconst (v := 3) dX7_wrong_105 (by decide) ?_
              refine cj_goto (tgt := 110) dX7_wrong_106 (by decide) ?_
              refine cj_pc (pc' := 110) rfl ?_
              refine cj_iret rfl dX7_wrong_110 ?_
              exact ⟨_, _, rfl, rfl, h⟩
          · replace h := h.2 c25
            refine cj_iload_n dX7_wrong_90 rfl ?_
            refine cj_bipush (v := 13) dX7_wrong_91 (by decide) ?_
            refine cj_icmp_ne (tgt := 109) dX7_wrong_93 (by decide) (fun c27 => ?_) (fun c27 => ?_)
            · replace h := h.1 c27
              refine cj_iconst (v := 0) dX7_wrong_109 (by decide) ?_
              refine cj_pc (pc' := 110) rfl ?_
              refine cj_iret rfl dX7_wrong_110 ?_
              exact ⟨_, _, rfl, rfl, h⟩
            · replace h := h.2 c27
              refine cj_aload_n dX7_wrong_96 rfl ?_
              refine rm_get (.int (S22.1 51)) flX7_306 dX7_wrong_97 rfl ?_
              refine cj_bipush (v := 40) dX7_wrong_100 (by decide) ?_
              refine cj_icmp_ne (tgt := 109) dX7_wrong_102 (by decide) (fun c28 => ?_) (fun c28 => ?_)
              · replace h := h.1 c28
                refine cj_iconst (v := 0) dX7_wrong_109 (by decide) ?_
                refine cj_pc (pc' := 110) rfl ?_
                refine cj_iret rfl dX7_wrong_110 ?_
                exact ⟨_, _, rfl, rfl, h⟩
              · replace h := h.2 c28
                refine cj_iconst (v := 3) dX7_wrong_105 (by decide) ?_
                refine cj_goto (tgt := 110) dX7_wrong_106 (by decide) ?_
                refine cj_iret rfl dX7_wrong_110 ?_
                exact ⟨_, _, rfl, rfl, h⟩
        · replace h := h.2 c24
          refine cj_aload_n dX7_wrong_65 rfl ?_
          refine cj_pc (pc' := 66) rfl ?_
          refine cj_aload_n dX7_wrong_66 rfl ?_
          refine rm_get (.int (S22.1 49)) flX7_100 dX7_wrong_67 rfl ?_
          refine cj_callV (M' := mX7_isBuilt) (d' := 1) (k' := 0) (n' := 0) (index := 350) (np := 1) (As := [.int (S22.1 49)]) (rest := []) dX7_wrong_70 lkX7_350 mwX7_isBuilt (tR_isBuilt hA h) (by omega) rfl rfl (Nat.le_of_ble_eq_true rfl) rm_mo rfl (fun v9 G9 q29 => ?_) (fun _ _ h => absurd h id)
          obtain ⟨x30, S31, e8, e9, h⟩ := q29
          subst e8
          subst e9
          refine cj_st (st' := [.int x30]) rfl ?_
          refine cj_if_eq (tgt := 83) dX7_wrong_73 (by decide) (fun c32 => ?_) (fun c32 => ?_)
          · replace h := h.1 c32
            refine cj_iconst (v := 1) dX7_wrong_83 (by decide) ?_
            refine cj_pc (pc' := 84) rfl ?_
            refine cj_iret rfl dX7_wrong_84 ?_
            exact ⟨_, _, rfl, rfl, h⟩
          · replace h := h.2 c32
            refine cj_aload_n dX7_wrong_76 rfl ?_
            refine cj_callV (M' := mX7_findCase) (d' := 2) (k' := 0) (n' := 0) (index := 353) (np := 0) (As := []) (rest := []) dX7_wrong_77 lkX7_353 mwX7_findCase (tR_findCase hA h) (by omega) rfl rfl (Nat.le_of_ble_eq_true rfl) rm_mo rfl (fun v9 G9 q33 => ?_) (fun _ _ h => absurd h id)
            obtain ⟨x34, S35, e8, e9, h⟩ := q33
            subst e8
            subst e9
            refine cj_st (st' := [.int x34]) rfl ?_
            refine cj_if_ge (tgt := 85) dX7_wrong_80 (by decide) (fun c36 => ?_) (fun c36 => ?_)
            · replace h := h.1 c36
              refine cj_iload_n dX7_wrong_85 rfl ?_
              refine cj_pc (pc' := 86) rfl ?_
              refine cj_iconst (v := 3) dX7_wrong_86 (by decide) ?_
              refine cj_icmp_eq (tgt := 96) dX7_wrong_87 (by decide) (fun c37 => ?_) (fun c37 => ?_)
              · replace h := h.1 c37
                refine cj_aload_n dX7_wrong_96 rfl ?_
                refine rm_get (.int (S35.1 51)) flX7_306 dX7_wrong_97 rfl ?_
                refine cj_bipush (v := 40) dX7_wrong_100 (by decide) ?_
                refine cj_pc (pc' := 102) rfl ?_
                refine cj_icmp_ne (tgt := 109) dX7_wrong_102 (by decide) (fun c38 => ?_) (fun c38 => ?_)
                · replace h := h.1 c38
                  refine cj_iconst (v := 0) dX7_wrong_109 (by decide) ?_
                  refine cj_iret rfl dX7_wrong_110 ?_
                  exact ⟨_, _, rfl, rfl, h⟩
                · replace h := h.2 c38
                  refine cj_iconst (v := 3) dX7_wrong_105 (by decide) ?_
                  refine cj_goto (tgt := 110) dX7_wrong_106 (by decide) ?_
                  refine cj_pc (pc' := 110) rfl ?_
                  refine cj_iret rfl dX7_wrong_110 ?_
                  exact ⟨_, _, rfl, rfl, h⟩
              · replace h := h.2 c37
                refine cj_iload_n dX7_wrong_90 rfl ?_
                refine cj_bipush (v := 13) dX7_wrong_91 (by decide) ?_
                refine cj_icmp_ne (tgt := 109) dX7_wrong_93 (by decide) (fun c39 => ?_) (fun c39 => ?_)
                · replace h := h.1 c39
                  refine cj_iconst (v := 0) dX7_wrong_109 (by decide) ?_
                  refine cj_pc (pc' := 110) rfl ?_
                  refine cj_iret rfl dX7_wrong_110 ?_
                  exact ⟨_, _, rfl, rfl, h⟩
                · replace h := h.2 c39
                  refine cj_aload_n dX7_wrong_96 rfl ?_
                  refine rm_get (.int (S35.1 51)) flX7_306 dX7_wrong_97 rfl ?_
                  refine cj_bipush (v := 40) dX7_wrong_100 (by decide) ?_
                  refine cj_icmp_ne (tgt := 109) dX7_wrong_102 (by decide) (fun c40 => ?_) (fun c40 => ?_)
                  · replace h := h.1 c40
                    refine cj_iconst (v := 0) dX7_wrong_109 (by decide) ?_
                    refine cj_pc (pc' := 110) rfl ?_
                    refine cj_iret rfl dX7_wrong_110 ?_
                    exact ⟨_, _, rfl, rfl, h⟩
                  · replace h := h.2 c40
                    refine cj_iconst (v := 3) dX7_wrong_105 (by decide) ?_
                    refine cj_goto (tgt := 110) dX7_wrong_106 (by decide) ?_
                    refine cj_iret rfl dX7_wrong_110 ?_
                    exact ⟨_, _, rfl, rfl, h⟩
            · replace h := h.2 c36
              refine cj_iconst (v := 1) dX7_wrong_83 (by decide) ?_
              refine cj_pc (pc' := 84) rfl ?_
              refine cj_iret rfl dX7_wrong_84 ?_
              exact ⟨_, _, rfl, rfl, h⟩
      · replace h := h.2 c23
        refine cj_iconst (v := 1) dX7_wrong_57 (by decide) ?_
        refine cj_iret rfl dX7_wrong_58 ?_
        exact ⟨_, _, rfl, rfl, h⟩
  · replace h := h.2 c1
    refine cj_iload_n dX7_wrong_5 rfl ?_
    refine cj_bipush (v := 8) dX7_wrong_6 (by decide) ?_
    refine cj_pc (pc' := 8) rfl ?_
    refine cj_icmp_gt (tgt := 40) dX7_wrong_8 (by decide) (fun c41 => ?_) (fun c41 => ?_)
    · replace h := h.1 c41
      refine cj_iload_n dX7_wrong_40 rfl ?_
      refine cj_bipush (v := 13) dX7_wrong_41 (by decide) ?_
      refine cj_icmp_ne (tgt := 59) dX7_wrong_43 (by decide) (fun c42 => ?_) (fun c42 => ?_)
      · replace h := h.1 c42
        refine cj_iload_n dX7_wrong_59 rfl ?_
        refine cj_pc (pc' := 60) rfl ?_
        refine cj_bipush (v := 18) dX7_wrong_60 (by decide) ?_
        refine cj_icmp_ne (tgt := 85) dX7_wrong_62 (by decide) (fun c43 => ?_) (fun c43 => ?_)
        · replace h := h.1 c43
          refine cj_iload_n dX7_wrong_85 rfl ?_
          refine cj_iconst (v := 3) dX7_wrong_86 (by decide) ?_
          refine cj_icmp_eq (tgt := 96) dX7_wrong_87 (by decide) (fun c44 => ?_) (fun c44 => ?_)
          · replace h := h.1 c44
            refine cj_aload_n dX7_wrong_96 rfl ?_
            refine cj_pc (pc' := 97) rfl ?_
            refine rm_get (.int (S.1 51)) flX7_306 dX7_wrong_97 rfl ?_
            refine cj_bipush (v := 40) dX7_wrong_100 (by decide) ?_
            refine cj_icmp_ne (tgt := 109) dX7_wrong_102 (by decide) (fun c45 => ?_) (fun c45 => ?_)
            · replace h := h.1 c45
              refine cj_iconst (v := 0) dX7_wrong_109 (by decide) ?_
              refine cj_iret rfl dX7_wrong_110 ?_
              exact ⟨_, _, rfl, rfl, h⟩
            · replace h := h.2 c45
              refine cj_iconst (v := 3) dX7_wrong_105 (by decide) ?_
              refine cj_pc (pc' := 106) rfl ?_
              refine cj_goto (tgt := 110) dX7_wrong_106 (by decide) ?_
              refine cj_iret rfl dX7_wrong_110 ?_
              exact ⟨_, _, rfl, rfl, h⟩
          · replace h := h.2 c44
            refine cj_iload_n dX7_wrong_90 rfl ?_
            refine cj_bipush (v := 13) dX7_wrong_91 (by decide) ?_
            refine cj_icmp_ne (tgt := 109) dX7_wrong_93 (by decide) (fun c46 => ?_) (fun c46 => ?_)
            · replace h := h.1 c46
              refine cj_iconst (v := 0) dX7_wrong_109 (by decide) ?_
              refine cj_pc (pc' := 110) rfl ?_
              refine cj_iret rfl dX7_wrong_110 ?_
              exact ⟨_, _, rfl, rfl, h⟩
            · replace h := h.2 c46
              refine cj_aload_n dX7_wrong_96 rfl ?_
              refine rm_get (.int (S.1 51)) flX7_306 dX7_wrong_97 rfl ?_
              refine cj_bipush (v := 40) dX7_wrong_100 (by decide) ?_
              refine cj_icmp_ne (tgt := 109) dX7_wrong_102 (by decide) (fun c47 => ?_) (fun c47 => ?_)
              · replace h := h.1 c47
                refine cj_iconst (v := 0) dX7_wrong_109 (by decide) ?_
                refine cj_pc (pc' := 110) rfl ?_
                refine cj_iret rfl dX7_wrong_110 ?_
                exact ⟨_, _, rfl, rfl, h⟩
              · replace h := h.2 c47
                refine cj_iconst (v := 3) dX7_wrong_105 (by decide) ?_
                refine cj_goto (tgt := 110) dX7_wrong_106 (by decide) ?_
                refine cj_iret rfl dX7_wrong_110 ?_
                exact ⟨_, _, rfl, rfl, h⟩
        · replace h := h.2 c43
          refine cj_aload_n dX7_wrong_65 rfl ?_
          refine cj_pc (pc' := 66) rfl ?_
          refine cj_aload_n dX7_wrong_66 rfl ?_
          refine rm_get (.int (S.1 49)) flX7_100 dX7_wrong_67 rfl ?_
          refine cj_callV (M' := mX7_isBuilt) (d' := 1) (k' := 0) (n' := 0) (index := 350) (np := 1) (As := [.int (S.1 49)]) (rest := []) dX7_wrong_70 lkX7_350 mwX7_isBuilt (tR_isBuilt hA h) (by omega) rfl rfl (Nat.le_of_ble_eq_true rfl) rm_mo rfl (fun v9 G9 q48 => ?_) (fun _ _ h => absurd h id)
          obtain ⟨x49, S50, e8, e9, h⟩ := q48
          subst e8
          subst e9
          refine cj_st (st' := [.int x49]) rfl ?_
          refine cj_if_eq (tgt := 83) dX7_wrong_73 (by decide) (fun c51 => ?_) (fun c51 => ?_)
          · replace h := h.1 c51
            refine cj_iconst (v := 1) dX7_wrong_83 (by decide) ?_
            refine cj_pc (pc' := 84) rfl ?_
            refine cj_iret rfl dX7_wrong_84 ?_
            exact ⟨_, _, rfl, rfl, h⟩
          · replace h := h.2 c51
            refine cj_aload_n dX7_wrong_76 rfl ?_
            refine cj_callV (M' := mX7_findCase) (d' := 2) (k' := 0) (n' := 0) (index := 353) (np := 0) (As := []) (rest := []) dX7_wrong_77 lkX7_353 mwX7_findCase (tR_findCase hA h) (by omega) rfl rfl (Nat.le_of_ble_eq_true rfl) rm_mo rfl (fun v9 G9 q52 => ?_) (fun _ _ h => absurd h id)
            obtain ⟨x53, S54, e8, e9, h⟩ := q52
            subst e8
            subst e9
            refine cj_st (st' := [.int x53]) rfl ?_
            refine cj_if_ge (tgt := 85) dX7_wrong_80 (by decide) (fun c55 => ?_) (fun c55 => ?_)
            · replace h := h.1 c55
              refine cj_iload_n dX7_wrong_85 rfl ?_
              refine cj_pc (pc' := 86) rfl ?_
              refine cj_iconst (v := 3) dX7_wrong_86 (by decide) ?_
              refine cj_icmp_eq (tgt := 96) dX7_wrong_87 (by decide) (fun c56 => ?_) (fun c56 => ?_)
              · replace h := h.1 c56
                refine cj_aload_n dX7_wrong_96 rfl ?_
                refine rm_get (.int (S54.1 51)) flX7_306 dX7_wrong_97 rfl ?_
                refine cj_bipush (v := 40) dX7_wrong_100 (by decide) ?_
                refine cj_pc (pc' := 102) rfl ?_
                refine cj_icmp_ne (tgt := 109) dX7_wrong_102 (by decide) (fun c57 => ?_) (fun c57 => ?_)
                · replace h := h.1 c57
                  refine cj_iconst (v := 0) dX7_wrong_109 (by decide) ?_
                  refine cj_iret rfl dX7_wrong_110 ?_
                  exact ⟨_, _, rfl, rfl, h⟩
                · replace h := h.2 c57
                  refine cj_iconst (v := 3) dX7_wrong_105 (by decide) ?_
                  refine cj_goto (tgt := 110) dX7_wrong_106 (by decide) ?_
                  refine cj_pc (pc' := 110) rfl ?_
                  refine cj_iret rfl dX7_wrong_110 ?_
                  exact ⟨_, _, rfl, rfl, h⟩
              · replace h := h.2 c56
                refine cj_iload_n dX7_wrong_90 rfl ?_
                refine cj_bipush (v := 13) dX7_wrong_91 (by decide) ?_
                refine cj_icmp_ne (tgt := 109) dX7_wrong_93 (by decide) (fun c58 => ?_) (fun c58 => ?_)
                · replace h := h.1 c58
                  refine cj_iconst (v := 0) dX7_wrong_109 (by decide) ?_
                  refine cj_pc (pc' := 110) rfl ?_
                  refine cj_iret rfl dX7_wrong_110 ?_
                  exact ⟨_, _, rfl, rfl, h⟩
                · replace h := h.2 c58
                  refine cj_aload_n dX7_wrong_96 rfl ?_
                  refine rm_get (.int (S54.1 51)) flX7_306 dX7_wrong_97 rfl ?_
                  refine cj_bipush (v := 40) dX7_wrong_100 (by decide) ?_
                  refine cj_icmp_ne (tgt := 109) dX7_wrong_102 (by decide) (fun c59 => ?_) (fun c59 => ?_)
                  · replace h := h.1 c59
                    refine cj_iconst (v := 0) dX7_wrong_109 (by decide) ?_
                    refine cj_pc (pc' := 110) rfl ?_
                    refine cj_iret rfl dX7_wrong_110 ?_
                    exact ⟨_, _, rfl, rfl, h⟩
                  · replace h := h.2 c59
                    refine cj_iconst (v := 3) dX7_wrong_105 (by decide) ?_
                    refine cj_goto (tgt := 110) dX7_wrong_106 (by decide) ?_
                    refine cj_iret rfl dX7_wrong_110 ?_
                    exact ⟨_, _, rfl, rfl, h⟩
            · replace h := h.2 c55
              refine cj_iconst (v := 1) dX7_wrong_83 (by decide) ?_
              refine cj_pc (pc' := 84) rfl ?_
              refine cj_iret rfl dX7_wrong_84 ?_
              exact ⟨_, _, rfl, rfl, h⟩
      · replace h := h.2 c42
        refine cj_aload_n dX7_wrong_46 rfl ?_
        refine cj_aload_n dX7_wrong_47 rfl ?_
        refine rm_get (.int (S.1 49)) flX7_100 dX7_wrong_48 rfl ?_
        refine cj_callV (M' := mX7_isFunction) (d' := 1) (k' := 0) (n' := 0) (index := 347) (np := 1) (As := [.int (S.1 49)]) (rest := []) dX7_wrong_51 lkX7_347 mwX7_isFunction (tR_isFunction hA h) (by omega) rfl rfl (Nat.le_of_ble_eq_true rfl) rm_mo rfl (fun v9 G9 q60 => ?_) (fun _ _ h => absurd h id)
        obtain ⟨x61, S62, e8, e9, h⟩ := q60
        subst e8
        subst e9
        refine cj_st (st' := [.int x61]) rfl ?_
        refine cj_pc (pc' := 54) rfl ?_
        refine cj_if_ne (tgt := 59) dX7_wrong_54 (by decide) (fun c63 => ?_) (fun c63 => ?_)
        · replace h := h.1 c63
          refine cj_iload_n dX7_wrong_59 rfl ?_
          refine cj_bipush (v := 18) dX7_wrong_60 (by decide) ?_
          refine cj_icmp_ne (tgt := 85) dX7_wrong_62 (by decide) (fun c64 => ?_) (fun c64 => ?_)
          · replace h := h.1 c64
            refine cj_iload_n dX7_wrong_85 rfl ?_
            refine cj_pc (pc' := 86) rfl ?_
            refine cj_iconst (v := 3) dX7_wrong_86 (by decide) ?_
            refine cj_icmp_eq (tgt := 96) dX7_wrong_87 (by decide) (fun c65 => ?_) (fun c65 => ?_)
            · replace h := h.1 c65
              refine cj_aload_n dX7_wrong_96 rfl ?_
              refine rm_get (.int (S62.1 51)) flX7_306 dX7_wrong_97 rfl ?_
              refine cj_bipush (v := 40) dX7_wrong_100 (by decide) ?_
              refine cj_pc (pc' := 102) rfl ?_
              refine cj_icmp_ne (tgt := 109) dX7_wrong_102 (by decide) (fun c66 => ?_) (fun c66 => ?_)
              · replace h := h.1 c66
                refine cj_iconst (v := 0) dX7_wrong_109 (by decide) ?_
                refine cj_iret rfl dX7_wrong_110 ?_
                exact ⟨_, _, rfl, rfl, h⟩
              · replace h := h.2 c66
                refine cj_iconst (v := 3) dX7_wrong_105 (by decide) ?_
                refine cj_goto (tgt := 110) dX7_wrong_106 (by decide) ?_
                refine cj_pc (pc' := 110) rfl ?_
                refine cj_iret rfl dX7_wrong_110 ?_
                exact ⟨_, _, rfl, rfl, h⟩
            · replace h := h.2 c65
              refine cj_iload_n dX7_wrong_90 rfl ?_
              refine cj_bipush (v := 13) dX7_wrong_91 (by decide) ?_
              refine cj_icmp_ne (tgt := 109) dX7_wrong_93 (by decide) (fun c67 => ?_) (fun c67 => ?_)
              · replace h := h.1 c67
                refine cj_iconst (v := 0) dX7_wrong_109 (by decide) ?_
                refine cj_pc (pc' := 110) rfl ?_
                refine cj_iret rfl dX7_wrong_110 ?_
                exact ⟨_, _, rfl, rfl, h⟩
              · replace h := h.2 c67
                refine cj_aload_n dX7_wrong_96 rfl ?_
                refine rm_get (.int (S62.1 51)) flX7_306 dX7_wrong_97 rfl ?_
                refine cj_bipush (v := 40) dX7_wrong_100 (by decide) ?_
                refine cj_icmp_ne (tgt := 109) dX7_wrong_102 (by decide) (fun c68 => ?_) (fun c68 => ?_)
                · replace h := h.1 c68
                  refine cj_iconst (v := 0) dX7_wrong_109 (by decide) ?_
                  refine cj_pc (pc' := 110) rfl ?_
                  refine cj_iret rfl dX7_wrong_110 ?_
                  exact ⟨_, _, rfl, rfl, h⟩
                · replace h := h.2 c68
                  refine cj_iconst (v := 3) dX7_wrong_105 (by decide) ?_
                  refine cj_goto (tgt := 110) dX7_wrong_106 (by decide) ?_
                  refine cj_iret rfl dX7_wrong_110 ?_
                  exact ⟨_, _, rfl, rfl, h⟩
          · replace h := h.2 c64
            refine cj_aload_n dX7_wrong_65 rfl ?_
            refine cj_pc (pc' := 66) rfl ?_
            refine cj_aload_n dX7_wrong_66 rfl ?_
            refine rm_get (.int (S62.1 49)) flX7_100 dX7_wrong_67 rfl ?_
            refine cj_callV (M' := mX7_isBuilt) (d' := 1) (k' := 0) (n' := 0) (index := 350) (np := 1) (As := [.int (S62.1 49)]) (rest := []) dX7_wrong_70 lkX7_350 mwX7_isBuilt (tR_isBuilt hA h) (by omega) rfl rfl (Nat.le_of_ble_eq_true rfl) rm_mo rfl (fun v9 G9 q69 => ?_) (fun _ _ h => absurd h id)
            obtain ⟨x70, S71, e8, e9, h⟩ := q69
            subst e8
            subst e9
            refine cj_st (st' := [.int x70]) rfl ?_
            refine cj_if_eq (tgt := 83) dX7_wrong_73 (by decide) (fun c72 => ?_) (fun c72 => ?_)
            · replace h := h.1 c72
              refine cj_iconst (v := 1) dX7_wrong_83 (by decide) ?_
              refine cj_pc (pc' := 84) rfl ?_
              refine cj_iret rfl dX7_wrong_84 ?_
              exact ⟨_, _, rfl, rfl, h⟩
            · replace h := h.2 c72
              refine cj_aload_n dX7_wrong_76 rfl ?_
              refine cj_callV (M' := mX7_findCase) (d' := 2) (k' := 0) (n' := 0) (index := 353) (np := 0) (As := []) (rest := []) dX7_wrong_77 lkX7_353 mwX7_findCase (tR_findCase hA h) (by omega) rfl rfl (Nat.le_of_ble_eq_true rfl) rm_mo rfl (fun v9 G9 q73 => ?_) (fun _ _ h => absurd h id)
              obtain ⟨x74, S75, e8, e9, h⟩ := q73
              subst e8
              subst e9
              refine cj_st (st' := [.int x74]) rfl ?_
              refine cj_if_ge (tgt := 85) dX7_wrong_80 (by decide) (fun c76 => ?_) (fun c76 => ?_)
              · replace h := h.1 c76
                refine cj_iload_n dX7_wrong_85 rfl ?_
                refine cj_pc (pc' := 86) rfl ?_
                refine cj_iconst (v := 3) dX7_wrong_86 (by decide) ?_
                refine cj_icmp_eq (tgt := 96) dX7_wrong_87 (by decide) (fun c77 => ?_) (fun c77 => ?_)
                · replace h := h.1 c77
                  refine cj_aload_n dX7_wrong_96 rfl ?_
                  refine rm_get (.int (S75.1 51)) flX7_306 dX7_wrong_97 rfl ?_
                  refine cj_bipush (v := 40) dX7_wrong_100 (by decide) ?_
                  refine cj_pc (pc' := 102) rfl ?_
                  refine cj_icmp_ne (tgt := 109) dX7_wrong_102 (by decide) (fun c78 => ?_) (fun c78 => ?_)
                  · replace h := h.1 c78
                    refine cj_iconst (v := 0) dX7_wrong_109 (by decide) ?_
                    refine cj_iret rfl dX7_wrong_110 ?_
                    exact ⟨_, _, rfl, rfl, h⟩
                  · replace h := h.2 c78
                    refine cj_iconst (v := 3) dX7_wrong_105 (by decide) ?_
                    refine cj_goto (tgt := 110) dX7_wrong_106 (by decide) ?_
                    refine cj_pc (pc' := 110) rfl ?_
                    refine cj_iret rfl dX7_wrong_110 ?_
                    exact ⟨_, _, rfl, rfl, h⟩
                · replace h := h.2 c77
                  refine cj_iload_n dX7_wrong_90 rfl ?_
                  refine cj_bipush (v := 13) dX7_wrong_91 (by decide) ?_
                  refine cj_icmp_ne (tgt := 109) dX7_wrong_93 (by decide) (fun c79 => ?_) (fun c79 => ?_)
                  · replace h := h.1 c79
                    refine cj_iconst (v := 0) dX7_wrong_109 (by decide) ?_
                    refine cj_pc (pc' := 110) rfl ?_
                    refine cj_iret rfl dX7_wrong_110 ?_
                    exact ⟨_, _, rfl, rfl, h⟩
                  · replace h := h.2 c79
                    refine cj_aload_n dX7_wrong_96 rfl ?_
                    refine rm_get (.int (S75.1 51)) flX7_306 dX7_wrong_97 rfl ?_
                    refine cj_bipush (v := 40) dX7_wrong_100 (by decide) ?_
                    refine cj_icmp_ne (tgt := 109) dX7_wrong_102 (by decide) (fun c80 => ?_) (fun c80 => ?_)
                    · replace h := h.1 c80
                      refine cj_iconst (v := 0) dX7_wrong_109 (by decide) ?_
                      refine cj_pc (pc' := 110) rfl ?_
                      refine cj_iret rfl dX7_wrong_110 ?_
                      exact ⟨_, _, rfl, rfl, h⟩
                    · replace h := h.2 c80
                      refine cj_iconst (v := 3) dX7_wrong_105 (by decide) ?_
                      refine cj_goto (tgt := 110) dX7_wrong_106 (by decide) ?_
                      refine cj_iret rfl dX7_wrong_110 ?_
                      exact ⟨_, _, rfl, rfl, h⟩
              · replace h := h.2 c76
                refine cj_iconst (v := 1) dX7_wrong_83 (by decide) ?_
                refine cj_pc (pc' := 84) rfl ?_
                refine cj_iret rfl dX7_wrong_84 ?_
                exact ⟨_, _, rfl, rfl, h⟩
        · replace h := h.2 c63
          refine cj_iconst (v := 1) dX7_wrong_57 (by decide) ?_
          refine cj_iret rfl dX7_wrong_58 ?_
          exact ⟨_, _, rfl, rfl, h⟩
    · replace h := h.2 c41
      refine cj_aload_n dX7_wrong_11 rfl ?_
      refine rm_get (.ref (ad 52)) flX7_106 dX7_wrong_12 rfl ?_
      refine cj_pc (pc' := 15) rfl ?_
      refine cj_aload_n dX7_wrong_15 rfl ?_
      refine rm_get (.int (S.1 51)) flX7_306 dX7_wrong_16 rfl ?_
      refine cj_iconst (v := 1) dX7_wrong_19 (by decide) ?_
      refine cj_isub dX7_wrong_20 ?_
      have i81 := h.1
      replace h := h.2
      refine rm_iald (j := 52) (x := (S.2 52) (((S.1 51) - 1).toNatClampNeg)) hA rfl dX7_wrong_21 i81 rfl ?_
      refine cj_pc (pc' := 22) rfl ?_
      refine cj_callS (M' := mX7_isInt) (d' := 0) (k' := 0) (n' := 0) (index := 344) (np := 1) (As := [.int ((S.2 52) (((S.1 51) - 1).toNatClampNeg))]) (rest := []) dX7_wrong_22 lkX7_344 mwX7_isInt (tR_isInt h) (by omega) rfl rfl (Nat.le_of_ble_eq_true rfl) (fun v9 G9 q82 => ?_) (fun _ _ h => absurd h id)
      obtain ⟨x83, e8, e9, h⟩ := q82
      subst e8
      subst e9
      refine cj_st (st' := [.int x83]) rfl ?_
      refine cj_if_eq (tgt := 38) dX7_wrong_25 (by decide) (fun c84 => ?_) (fun c84 => ?_)
      · replace h := h.1 c84
        refine cj_iconst (v := 1) dX7_wrong_38 (by decide) ?_
        refine cj_iret rfl dX7_wrong_39 ?_
        exact ⟨_, _, rfl, rfl, h⟩
      · replace h := h.2 c84
        refine cj_aload_n dX7_wrong_28 rfl ?_
        refine cj_pc (pc' := 29) rfl ?_
        refine rm_get (.int (S.1 49)) flX7_100 dX7_wrong_29 rfl ?_
        refine cj_callS (M' := mX7_isInt) (d' := 0) (k' := 0) (n' := 0) (index := 344) (np := 1) (As := [.int (S.1 49)]) (rest := []) dX7_wrong_32 lkX7_344 mwX7_isInt (tR_isInt h) (by omega) rfl rfl (Nat.le_of_ble_eq_true rfl) (fun v9 G9 q85 => ?_) (fun _ _ h => absurd h id)
        obtain ⟨x86, e8, e9, h⟩ := q85
        subst e8
        subst e9
        refine cj_st (st' := [.int x86]) rfl ?_
        refine cj_if_ne (tgt := 40) dX7_wrong_35 (by decide) (fun c87 => ?_) (fun c87 => ?_)
        · replace h := h.1 c87
          refine cj_iload_n dX7_wrong_40 rfl ?_
          refine cj_bipush (v := 13) dX7_wrong_41 (by decide) ?_
          refine cj_pc (pc' := 43) rfl ?_
          refine cj_icmp_ne (tgt := 59) dX7_wrong_43 (by decide) (fun c88 => ?_) (fun c88 => ?_)
          · replace h := h.1 c88
            refine cj_iload_n dX7_wrong_59 rfl ?_
            refine cj_bipush (v := 18) dX7_wrong_60 (by decide) ?_
            refine cj_icmp_ne (tgt := 85) dX7_wrong_62 (by decide) (fun c89 => ?_) (fun c89 => ?_)
            · replace h := h.1 c89
              refine cj_iload_n dX7_wrong_85 rfl ?_
              refine cj_pc (pc' := 86) rfl ?_
              refine cj_iconst (v := 3) dX7_wrong_86 (by decide) ?_
              refine cj_icmp_eq (tgt := 96) dX7_wrong_87 (by decide) (fun c90 => ?_) (fun c90 => ?_)
              · replace h := h.1 c90
                refine cj_aload_n dX7_wrong_96 rfl ?_
                refine rm_get (.int (S.1 51)) flX7_306 dX7_wrong_97 rfl ?_
                refine cj_bipush (v := 40) dX7_wrong_100 (by decide) ?_
                refine cj_pc (pc' := 102) rfl ?_
                refine cj_icmp_ne (tgt := 109) dX7_wrong_102 (by decide) (fun c91 => ?_) (fun c91 => ?_)
                · replace h := h.1 c91
                  refine cj_iconst (v := 0) dX7_wrong_109 (by decide) ?_
                  refine cj_iret rfl dX7_wrong_110 ?_
                  exact ⟨_, _, rfl, rfl, h⟩
                · replace h := h.2 c91
                  refine cj_iconst (v := 3) dX7_wrong_105 (by decide) ?_
                  refine cj_goto (tgt := 110) dX7_wrong_106 (by decide) ?_
                  refine cj_pc (pc' := 110) rfl ?_
                  refine cj_iret rfl dX7_wrong_110 ?_
                  exact ⟨_, _, rfl, rfl, h⟩
              · replace h := h.2 c90
                refine cj_iload_n dX7_wrong_90 rfl ?_
                refine cj_bipush (v := 13) dX7_wrong_91 (by decide) ?_
                refine cj_icmp_ne (tgt := 109) dX7_wrong_93 (by decide) (fun c92 => ?_) (fun c92 => ?_)
                · replace h := h.1 c92
                  refine cj_iconst (v := 0) dX7_wrong_109 (by decide) ?_
                  refine cj_pc (pc' := 110) rfl ?_
                  refine cj_iret rfl dX7_wrong_110 ?_
                  exact ⟨_, _, rfl, rfl, h⟩
                · replace h := h.2 c92
                  refine cj_aload_n dX7_wrong_96 rfl ?_
                  refine rm_get (.int (S.1 51)) flX7_306 dX7_wrong_97 rfl ?_
                  refine cj_bipush (v := 40) dX7_wrong_100 (by decide) ?_
                  refine cj_icmp_ne (tgt := 109) dX7_wrong_102 (by decide) (fun c93 => ?_) (fun c93 => ?_)
                  · replace h := h.1 c93
                    refine cj_iconst (v := 0) dX7_wrong_109 (by decide) ?_
                    refine cj_pc (pc' := 110) rfl ?_
                    refine cj_iret rfl dX7_wrong_110 ?_
                    exact ⟨_, _, rfl, rfl, h⟩
                  · replace h := h.2 c93
                    refine cj_iconst (v := 3) dX7_wrong_105 (by decide) ?_
                    refine cj_goto (tgt := 110) dX7_wrong_106 (by decide) ?_
                    refine cj_iret rfl dX7_wrong_110 ?_
                    exact ⟨_, _, rfl, rfl, h⟩
            · replace h := h.2 c89
              refine cj_aload_n dX7_wrong_65 rfl ?_
              refine cj_pc (pc' := 66) rfl ?_
              refine cj_aload_n dX7_wrong_66 rfl ?_
              refine rm_get (.int (S.1 49)) flX7_100 dX7_wrong_67 rfl ?_
              refine cj_callV (M' := mX7_isBuilt) (d' := 1) (k' := 0) (n' := 0) (index := 350) (np := 1) (As := [.int (S.1 49)]) (rest := []) dX7_wrong_70 lkX7_350 mwX7_isBuilt (tR_isBuilt hA h) (by omega) rfl rfl (Nat.le_of_ble_eq_true rfl) rm_mo rfl (fun v9 G9 q94 => ?_) (fun _ _ h => absurd h id)
              obtain ⟨x95, S96, e8, e9, h⟩ := q94
              subst e8
              subst e9
              refine cj_st (st' := [.int x95]) rfl ?_
              refine cj_if_eq (tgt := 83) dX7_wrong_73 (by decide) (fun c97 => ?_) (fun c97 => ?_)
              · replace h := h.1 c97
                refine cj_iconst (v := 1) dX7_wrong_83 (by decide) ?_
                refine cj_pc (pc' := 84) rfl ?_
                refine cj_iret rfl dX7_wrong_84 ?_
                exact ⟨_, _, rfl, rfl, h⟩
              · replace h := h.2 c97
                refine cj_aload_n dX7_wrong_76 rfl ?_
                refine cj_callV (M' := mX7_findCase) (d' := 2) (k' := 0) (n' := 0) (index := 353) (np := 0) (As := []) (rest := []) dX7_wrong_77 lkX7_353 mwX7_findCase (tR_findCase hA h) (by omega) rfl rfl (Nat.le_of_ble_eq_true rfl) rm_mo rfl (fun v9 G9 q98 => ?_) (fun _ _ h => absurd h id)
                obtain ⟨x99, S100, e8, e9, h⟩ := q98
                subst e8
                subst e9
                refine cj_st (st' := [.int x99]) rfl ?_
                refine cj_if_ge (tgt := 85) dX7_wrong_80 (by decide) (fun c101 => ?_) (fun c101 => ?_)
                · replace h := h.1 c101
                  refine cj_iload_n dX7_wrong_85 rfl ?_
                  refine cj_pc (pc' := 86) rfl ?_
                  refine cj_iconst (v := 3) dX7_wrong_86 (by decide) ?_
                  refine cj_icmp_eq (tgt := 96) dX7_wrong_87 (by decide) (fun c102 => ?_) (fun c102 => ?_)
                  · replace h := h.1 c102
                    refine cj_aload_n dX7_wrong_96 rfl ?_
                    refine rm_get (.int (S100.1 51)) flX7_306 dX7_wrong_97 rfl ?_
                    refine cj_bipush (v := 40) dX7_wrong_100 (by decide) ?_
                    refine cj_pc (pc' := 102) rfl ?_
                    refine cj_icmp_ne (tgt := 109) dX7_wrong_102 (by decide) (fun c103 => ?_) (fun c103 => ?_)
                    · replace h := h.1 c103
                      refine cj_iconst (v := 0) dX7_wrong_109 (by decide) ?_
                      refine cj_iret rfl dX7_wrong_110 ?_
                      exact ⟨_, _, rfl, rfl, h⟩
                    · replace h := h.2 c103
                      refine cj_iconst (v := 3) dX7_wrong_105 (by decide) ?_
                      refine cj_goto (tgt := 110) dX7_wrong_106 (by decide) ?_
                      refine cj_pc (pc' := 110) rfl ?_
                      refine cj_iret rfl dX7_wrong_110 ?_
                      exact ⟨_, _, rfl, rfl, h⟩
                  · replace h := h.2 c102
                    refine cj_iload_n dX7_wrong_90 rfl ?_
                    refine cj_bipush (v := 13) dX7_wrong_91 (by decide) ?_
                    refine cj_icmp_ne (tgt := 109) dX7_wrong_93 (by decide) (fun c104 => ?_) (fun c104 => ?_)
                    · replace h := h.1 c104
                      refine cj_iconst (v := 0) dX7_wrong_109 (by decide) ?_
                      refine cj_pc (pc' := 110) rfl ?_
                      refine cj_iret rfl dX7_wrong_110 ?_
                      exact ⟨_, _, rfl, rfl, h⟩
                    · replace h := h.2 c104
                      refine cj_aload_n dX7_wrong_96 rfl ?_
                      refine rm_get (.int (S100.1 51)) flX7_306 dX7_wrong_97 rfl ?_
                      refine cj_bipush (v := 40) dX7_wrong_100 (by decide) ?_
                      refine cj_icmp_ne (tgt := 109) dX7_wrong_102 (by decide) (fun c105 => ?_) (fun c105 => ?_)
                      · replace h := h.1 c105
                        refine cj_iconst (v := 0) dX7_wrong_109 (by decide) ?_
                        refine cj_pc (pc' := 110) rfl ?_
                        refine cj_iret rfl dX7_wrong_110 ?_
                        exact ⟨_, _, rfl, rfl, h⟩
                      · replace h := h.2 c105
                        refine cj_iconst (v := 3) dX7_wrong_105 (by decide) ?_
                        refine cj_goto (tgt := 110) dX7_wrong_106 (by decide) ?_
                        refine cj_iret rfl dX7_wrong_110 ?_
                        exact ⟨_, _, rfl, rfl, h⟩
                · replace h := h.2 c101
                  refine cj_iconst (v := 1) dX7_wrong_83 (by decide) ?_
                  refine cj_pc (pc' := 84) rfl ?_
                  refine cj_iret rfl dX7_wrong_84 ?_
                  exact ⟨_, _, rfl, rfl, h⟩
          · replace h := h.2 c88
            refine cj_aload_n dX7_wrong_46 rfl ?_
            refine cj_aload_n dX7_wrong_47 rfl ?_
            refine rm_get (.int (S.1 49)) flX7_100 dX7_wrong_48 rfl ?_
            refine cj_callV (M' := mX7_isFunction) (d' := 1) (k' := 0) (n' := 0) (index := 347) (np := 1) (As := [.int (S.1 49)]) (rest := []) dX7_wrong_51 lkX7_347 mwX7_isFunction (tR_isFunction hA h) (by omega) rfl rfl (Nat.le_of_ble_eq_true rfl) rm_mo rfl (fun v9 G9 q106 => ?_) (fun _ _ h => absurd h id)
            obtain ⟨x107, S108, e8, e9, h⟩ := q106
            subst e8
            subst e9
            refine cj_st (st' := [.int x107]) rfl ?_
            refine cj_pc (pc' := 54) rfl ?_
            refine cj_if_ne (tgt := 59) dX7_wrong_54 (by decide) (fun c109 => ?_) (fun c109 => ?_)
            · replace h := h.1 c109
              refine cj_iload_n dX7_wrong_59 rfl ?_
              refine cj_bipush (v := 18) dX7_wrong_60 (by decide) ?_
              refine cj_icmp_ne (tgt := 85) dX7_wrong_62 (by decide) (fun c110 => ?_) (fun c110 => ?_)
              · replace h := h.1 c110
                refine cj_iload_n dX7_wrong_85 rfl ?_
                refine cj_pc (pc' := 86) rfl ?_
                refine cj_iconst (v := 3) dX7_wrong_86 (by decide) ?_
                refine cj_icmp_eq (tgt := 96) dX7_wrong_87 (by decide) (fun c111 => ?_) (fun c111 => ?_)
                · replace h := h.1 c111
                  refine cj_aload_n dX7_wrong_96 rfl ?_
                  refine rm_get (.int (S108.1 51)) flX7_306 dX7_wrong_97 rfl ?_
                  refine cj_bipush (v := 40) dX7_wrong_100 (by decide) ?_
                  refine cj_pc (pc' := 102) rfl ?_
                  refine cj_icmp_ne (tgt := 109) dX7_wrong_102 (by decide) (fun c112 => ?_) (fun c112 => ?_)
                  · replace h := h.1 c112
                    refine cj_iconst (v := 0) dX7_wrong_109 (by decide) ?_
                    refine cj_iret rfl dX7_wrong_110 ?_
                    exact ⟨_, _, rfl, rfl, h⟩
                  · replace h := h.2 c112
                    refine cj_iconst (v := 3) dX7_wrong_105 (by decide) ?_
                    refine cj_goto (tgt := 110) dX7_wrong_106 (by decide) ?_
                    refine cj_pc (pc' := 110) rfl ?_
                    refine cj_iret rfl dX7_wrong_110 ?_
                    exact ⟨_, _, rfl, rfl, h⟩
                · replace h := h.2 c111
                  refine cj_iload_n dX7_wrong_90 rfl ?_
                  refine cj_bipush (v := 13) dX7_wrong_91 (by decide) ?_
                  refine cj_icmp_ne (tgt := 109) dX7_wrong_93 (by decide) (fun c113 => ?_) (fun c113 => ?_)
                  · replace h := h.1 c113
                    refine cj_iconst (v := 0) dX7_wrong_109 (by decide) ?_
                    refine cj_pc (pc' := 110) rfl ?_
                    refine cj_iret rfl dX7_wrong_110 ?_
                    exact ⟨_, _, rfl, rfl, h⟩
                  · replace h := h.2 c113
                    refine cj_aload_n dX7_wrong_96 rfl ?_
                    refine rm_get (.int (S108.1 51)) flX7_306 dX7_wrong_97 rfl ?_
                    refine cj_bipush (v := 40) dX7_wrong_100 (by decide) ?_
                    refine cj_icmp_ne (tgt := 109) dX7_wrong_102 (by decide) (fun c114 => ?_) (fun c114 => ?_)
                    · replace h := h.1 c114
                      refine cj_iconst (v := 0) dX7_wrong_109 (by decide) ?_
                      refine cj_pc (pc' := 110) rfl ?_
                      refine cj_iret rfl dX7_wrong_110 ?_
                      exact ⟨_, _, rfl, rfl, h⟩
                    · replace h := h.2 c114
                      refine cj_iconst (v := 3) dX7_wrong_105 (by decide) ?_
                      refine cj_goto (tgt := 110) dX7_wrong_106 (by decide) ?_
                      refine cj_iret rfl dX7_wrong_110 ?_
                      exact ⟨_, _, rfl, rfl, h⟩
              · replace h := h.2 c110
                refine cj_aload_n dX7_wrong_65 rfl ?_
                refine cj_pc (pc' := 66) rfl ?_
                refine cj_aload_n dX7_wrong_66 rfl ?_
                refine rm_get (.int (S108.1 49)) flX7_100 dX7_wrong_67 rfl ?_
                refine cj_callV (M' := mX7_isBuilt) (d' := 1) (k' := 0) (n' := 0) (index := 350) (np := 1) (As := [.int (S108.1 49)]) (rest := []) dX7_wrong_70 lkX7_350 mwX7_isBuilt (tR_isBuilt hA h) (by omega) rfl rfl (Nat.le_of_ble_eq_true rfl) rm_mo rfl (fun v9 G9 q115 => ?_) (fun _ _ h => absurd h id)
                obtain ⟨x116, S117, e8, e9, h⟩ := q115
                subst e8
                subst e9
                refine cj_st (st' := [.int x116]) rfl ?_
                refine cj_if_eq (tgt := 83) dX7_wrong_73 (by decide) (fun c118 => ?_) (fun c118 => ?_)
                · replace h := h.1 c118
                  refine cj_iconst (v := 1) dX7_wrong_83 (by decide) ?_
                  refine cj_pc (pc' := 84) rfl ?_
                  refine cj_iret rfl dX7_wrong_84 ?_
                  exact ⟨_, _, rfl, rfl, h⟩
                · replace h := h.2 c118
                  refine cj_aload_n dX7_wrong_76 rfl ?_
                  refine cj_callV (M' := mX7_findCase) (d' := 2) (k' := 0) (n' := 0) (index := 353) (np := 0) (As := []) (rest := []) dX7_wrong_77 lkX7_353 mwX7_findCase (tR_findCase hA h) (by omega) rfl rfl (Nat.le_of_ble_eq_true rfl) rm_mo rfl (fun v9 G9 q119 => ?_) (fun _ _ h => absurd h id)
                  obtain ⟨x120, S121, e8, e9, h⟩ := q119
                  subst e8
                  subst e9
                  refine cj_st (st' := [.int x120]) rfl ?_
                  refine cj_if_ge (tgt := 85) dX7_wrong_80 (by decide) (fun c122 => ?_) (fun c122 => ?_)
                  · replace h := h.1 c122
                    refine cj_iload_n dX7_wrong_85 rfl ?_
                    refine cj_pc (pc' := 86) rfl ?_
                    refine cj_iconst (v := 3) dX7_wrong_86 (by decide) ?_
                    refine cj_icmp_eq (tgt := 96) dX7_wrong_87 (by decide) (fun c123 => ?_) (fun c123 => ?_)
                    · replace h := h.1 c123
                      refine cj_aload_n dX7_wrong_96 rfl ?_
                      refine rm_get (.int (S121.1 51)) flX7_306 dX7_wrong_97 rfl ?_
                      refine cj_bipush (v := 40) dX7_wrong_100 (by decide) ?_
                      refine cj_pc (pc' := 102) rfl ?_
                      refine cj_icmp_ne (tgt := 109) dX7_wrong_102 (by decide) (fun c124 => ?_) (fun c124 => ?_)
                      · replace h := h.1 c124
                        refine cj_iconst (v := 0) dX7_wrong_109 (by decide) ?_
                        refine cj_iret rfl dX7_wrong_110 ?_
                        exact ⟨_, _, rfl, rfl, h⟩
                      · replace h := h.2 c124
                        refine cj_iconst (v := 3) dX7_wrong_105 (by decide) ?_
                        refine cj_goto (tgt := 110) dX7_wrong_106 (by decide) ?_
                        refine cj_pc (pc' := 110) rfl ?_
                        refine cj_iret rfl dX7_wrong_110 ?_
                        exact ⟨_, _, rfl, rfl, h⟩
                    · replace h := h.2 c123
                      refine cj_iload_n dX7_wrong_90 rfl ?_
                      refine cj_bipush (v := 13) dX7_wrong_91 (by decide) ?_
                      refine cj_icmp_ne (tgt := 109) dX7_wrong_93 (by decide) (fun c125 => ?_) (fun c125 => ?_)
                      · replace h := h.1 c125
                        refine cj_iconst (v := 0) dX7_wrong_109 (by decide) ?_
                        refine cj_pc (pc' := 110) rfl ?_
                        refine cj_iret rfl dX7_wrong_110 ?_
                        exact ⟨_, _, rfl, rfl, h⟩
                      · replace h := h.2 c125
                        refine cj_aload_n dX7_wrong_96 rfl ?_
                        refine rm_get (.int (S121.1 51)) flX7_306 dX7_wrong_97 rfl ?_
                        refine cj_bipush (v := 40) dX7_wrong_100 (by decide) ?_
                        refine cj_icmp_ne (tgt := 109) dX7_wrong_102 (by decide) (fun c126 => ?_) (fun c126 => ?_)
                        · replace h := h.1 c126
                          refine cj_iconst (v := 0) dX7_wrong_109 (by decide) ?_
                          refine cj_pc (pc' := 110) rfl ?_
                          refine cj_iret rfl dX7_wrong_110 ?_
                          exact ⟨_, _, rfl, rfl, h⟩
                        · replace h := h.2 c126
                          refine cj_iconst (v := 3) dX7_wrong_105 (by decide) ?_
                          refine cj_goto (tgt := 110) dX7_wrong_106 (by decide) ?_
                          refine cj_iret rfl dX7_wrong_110 ?_
                          exact ⟨_, _, rfl, rfl, h⟩
                  · replace h := h.2 c122
                    refine cj_iconst (v := 1) dX7_wrong_83 (by decide) ?_
                    refine cj_pc (pc' := 84) rfl ?_
                    refine cj_iret rfl dX7_wrong_84 ?_
                    exact ⟨_, _, rfl, rfl, h⟩
            · replace h := h.2 c109
              refine cj_iconst (v := 1) dX7_wrong_57 (by decide) ?_
              refine cj_iret rfl dX7_wrong_58 ?_
              exact ⟨_, _, rfl, rfl, h⟩
        · replace h := h.2 c87
          refine cj_iconst (v := 1) dX7_wrong_38 (by decide) ?_
          refine cj_iret rfl dX7_wrong_39 ?_
          exact ⟨_, _, rfl, rfl, h⟩
def wp_roomFor (S : rm_S) (a1 : Int32) (Q : Int32 → rm_S → Prop) : Prop := ((a1 = 9 → Q 3 S) ∧ (¬ a1 = 9 → ((a1 = 10 → Q 3 S) ∧ (¬ a1 = 10 → ((a1 = 11 → Q 0 S) ∧ (¬ a1 = 11 → ((a1 = 12 → Q 0 S) ∧ (¬ a1 = 12 → ((a1 = 13 → wp_blockKind S (S.1 49) (fun x7 S8 => ((¬ x7 = 9 → Q 3 S8) ∧ (x7 = 9 → Q 6 S8)))) ∧ (¬ a1 = 13 → ((a1 = 14 → Q 3 S) ∧ (¬ a1 = 14 → ((a1 = 15 → Q 0 S) ∧ (¬ a1 = 15 → ((a1 = 16 → Q 0 S) ∧ (¬ a1 = 16 → ((a1 = 17 → wp_a S (fun x15 S16 => Q (1 + (x15 - x15 / 4 * 4)) S16)) ∧ (¬ a1 = 17 → ((a1 = 18 → Q 0 S) ∧ (¬ a1 = 18 → ((a1 = 19 → Q 0 S) ∧ (¬ a1 = 19 → ((a1 = 20 → wp_a S (fun x21 S22 => Q (3 * x21) S22)) ∧ (¬ a1 = 20 → Q 0 S))))))))))))))))))))))))
set_option maxHeartbeats 4000000 in
set_option maxRecDepth 100000 in
theorem tR_roomFor {mo : Nat} {ad : Nat → Nat} (hA : rm_A mo ad) {G0 : cj_G} {S : rm_S} {a1 : Int32} {Q : Int32 → rm_S → Prop} (h : wp_roomFor S a1 Q) : cj_T mX7_roomFor 1 0 0 [.ref mo, .int a1] (rm_md mo ad S G0) (rm_posti mo ad G0 Q) cj_no := by
  refine cj_T_of (by decide +kernel) (Nat.le_of_ble_eq_true rfl) ?_
  refine cj_lvs (lv' := [(0, .ref mo), (1, .int a1)]) rfl ?_
  unfold wp_roomFor at h
  refine cj_iload_n dX7_roomFor_0 rfl ?_
  by_cases c1 : a1 = 9
  · replace h := h.1 c1
    refine cj_tableIn (off := 63) (tgt := 64) dX7_roomFor_1 (by rw [c1]; decide +kernel) (by rw [c1]; decide +kernel) (by rw [c1]; decide +kernel) (by decide +kernel) ?_
    refine cj_iconst (v := 3) dX7_roomFor_64 (by decide) ?_
    refine cj_iret rfl dX7_roomFor_65 ?_
    exact ⟨_, _, rfl, rfl, h⟩
  · replace h := h.2 c1
    by_cases c2 : a1 = 10
    · replace h := h.1 c2
      refine cj_tableIn (off := 63) (tgt := 64) dX7_roomFor_1 (by rw [c2]; decide +kernel) (by rw [c2]; decide +kernel) (by rw [c2]; decide +kernel) (by decide +kernel) ?_
      refine cj_iconst (v := 3) dX7_roomFor_64 (by decide) ?_
      refine cj_pc (pc' := 65) rfl ?_
      refine cj_iret rfl dX7_roomFor_65 ?_
      exact ⟨_, _, rfl, rfl, h⟩
    · replace h := h.2 c2
      by_cases c3 : a1 = 11
      · replace h := h.1 c3
        refine cj_tableIn (off := 101) (tgt := 102) dX7_roomFor_1 (by rw [c3]; decide +kernel) (by rw [c3]; decide +kernel) (by rw [c3]; decide +kernel) (by decide +kernel) ?_
        refine cj_iconst (v := 0) dX7_roomFor_102 (by decide) ?_
        refine cj_iret rfl dX7_roomFor_103 ?_
        exact ⟨_, _, rfl, rfl, h⟩
      · replace h := h.2 c3
        by_cases c4 : a1 = 12
        · replace h := h.1 c4
          refine cj_tableIn (off := 101) (tgt := 102) dX7_roomFor_1 (by rw [c4]; decide +kernel) (by rw [c4]; decide +kernel) (by rw [c4]; decide +kernel) (by decide +kernel) ?_
          refine cj_iconst (v := 0) dX7_roomFor_102 (by decide) ?_
          refine cj_iret rfl dX7_roomFor_103 ?_
          exact ⟨_, _, rfl, rfl, h⟩
        · replace h := h.2 c4
          by_cases c5 : a1 = 13
          · replace h := h.1 c5
            refine cj_tableIn (off := 65) (tgt := 66) dX7_roomFor_1 (by rw [c5]; decide +kernel) (by rw [c5]; decide +kernel) (by rw [c5]; decide +kernel) (by decide +kernel) ?_
            refine cj_aload_n dX7_roomFor_66 rfl ?_
            refine cj_pc (pc' := 67) rfl ?_
            refine cj_aload_n dX7_roomFor_67 rfl ?_
            refine rm_get (.int (S.1 49)) flX7_100 dX7_roomFor_68 rfl ?_
            refine cj_callV (M' := mX7_blockKind) (d' := 0) (k' := 0) (n' := 0) (index := 331) (np := 1) (As := [.int (S.1 49)]) (rest := []) dX7_roomFor_71 lkX7_331 mwX7_blockKind (tR_blockKind hA h) (by omega) rfl rfl (Nat.le_of_ble_eq_true rfl) rm_mo rfl (fun v9 G9 q6 => ?_) (fun _ _ h => absurd h id)
            obtain ⟨x7, S8, e8, e9, h⟩ := q6
            subst e8
            subst e9
            refine cj_st (st' := [.int x7]) rfl ?_
            refine cj_bipush (v := 9) dX7_roomFor_74 (by decide) ?_
            refine cj_icmp_ne (tgt := 84) dX7_roomFor_76 (by decide) (fun c9 => ?_) (fun c9 => ?_)
            · replace h := h.1 c9
              refine cj_iconst (v := 3) dX7_roomFor_84 (by decide) ?_
              refine cj_pc (pc' := 85) rfl ?_
              refine cj_iret rfl dX7_roomFor_85 ?_
              exact ⟨_, _, rfl, rfl, h⟩
            · replace h := h.2 c9
              refine cj_bipush (v := 6) dX7_roomFor_79 (by decide) ?_
              refine cj_goto (tgt := 85) dX7_roomFor_81 (by decide) ?_
              refine cj_iret rfl dX7_roomFor_85 ?_
              exact ⟨_, _, rfl, rfl, h⟩
          · replace h := h.2 c5
            by_cases c10 : a1 = 14
            · replace h := h.1 c10
              refine cj_tableIn (off := 63) (tgt := 64) dX7_roomFor_1 (by rw [c10]; decide +kernel) (by rw [c10]; decide +kernel) (by rw [c10]; decide +kernel) (by decide +kernel) ?_
              refine cj_iconst (v := 3) dX7_roomFor_64 (by decide) ?_
              refine cj_pc (pc' := 65) rfl ?_
              refine cj_iret rfl dX7_roomFor_65 ?_
              exact ⟨_, _, rfl, rfl, h⟩
            · replace h := h.2 c10
              by_cases c11 : a1 = 15
              · replace h := h.1 c11
                refine cj_tableIn (off := 101) (tgt := 102) dX7_roomFor_1 (by rw [c11]; decide +kernel) (by rw [c11]; decide +kernel) (by rw [c11]; decide +kernel) (by decide +kernel) ?_
                refine cj_iconst (v := 0) dX7_roomFor_102 (by decide) ?_
                refine cj_iret rfl dX7_roomFor_103 ?_
                exact ⟨_, _, rfl, rfl, h⟩
              · replace h := h.2 c11
                by_cases c12 : a1 = 16
                · replace h := h.1 c12
                  refine cj_tableIn (off := 101) (tgt := 102) dX7_roomFor_1 (by rw [c12]; decide +kernel) (by rw [c12]; decide +kernel) (by rw [c12]; decide +kernel) (by decide +kernel) ?_
                  refine cj_iconst (v := 0) dX7_roomFor_102 (by decide) ?_
                  refine cj_iret rfl dX7_roomFor_103 ?_
                  exact ⟨_, _, rfl, rfl, h⟩
                · replace h := h.2 c12
                  by_cases c13 : a1 = 17
                  · replace h := h.1 c13
                    refine cj_tableIn (off := 85) (tgt := 86) dX7_roomFor_1 (by rw [c13]; decide +kernel) (by rw [c13]; decide +kernel) (by rw [c13]; decide +kernel) (by decide +kernel) ?_
                    refine cj_iconst (v := 1) dX7_roomFor_86 (by decide) ?_
                    refine cj_pc (pc' := 87) rfl ?_
                    refine cj_aload_n dX7_roomFor_87 rfl ?_
                    refine cj_callV (M' := mX7_a) (d' := 0) (k' := 0) (n' := 0) (index := 340) (np := 0) (As := []) (rest := [.int 1]) dX7_roomFor_88 lkX7_340 mwX7_a (tR_a hA h) (by omega) rfl rfl (Nat.le_of_ble_eq_true rfl) rm_mo rfl (fun v9 G9 q14 => ?_) (fun _ _ h => absurd h id)
                    obtain ⟨x15, S16, e8, e9, h⟩ := q14
                    subst e8
                    subst e9
                    refine cj_st (st' := [.int x15, .int 1]) rfl ?_
                    refine cj_iconst (v := 4) dX7_roomFor_91 (by decide) ?_
                    refine cj_irem dX7_roomFor_92 (by decide) ?_
                    refine cj_iadd dX7_roomFor_93 ?_
                    refine cj_pc (pc' := 94) rfl ?_
                    refine cj_iret rfl dX7_roomFor_94 ?_
                    exact ⟨_, _, rfl, rfl, h⟩
                  · replace h := h.2 c13
                    by_cases c17 : a1 = 18
                    · replace h := h.1 c17
                      refine cj_tableIn (off := 101) (tgt := 102) dX7_roomFor_1 (by rw [c17]; decide +kernel) (by rw [c17]; decide +kernel) (by rw [c17]; decide +kernel) (by decide +kernel) ?_
                      refine cj_iconst (v := 0) dX7_roomFor_102 (by decide) ?_
                      refine cj_iret rfl dX7_roomFor_103 ?_
                      exact ⟨_, _, rfl, rfl, h⟩
                    · replace h := h.2 c17
                      by_cases c18 : a1 = 19
                      · replace h := h.1 c18
                        refine cj_tableIn (off := 101) (tgt := 102) dX7_roomFor_1 (by rw [c18]; decide +kernel) (by rw [c18]; decide +kernel) (by rw [c18]; decide +kernel) (by decide +kernel) ?_
                        refine cj_iconst (v := 0) dX7_roomFor_102 (by decide) ?_
                        refine cj_iret rfl dX7_roomFor_103 ?_
                        exact ⟨_, _, rfl, rfl, h⟩
                      · replace h := h.2 c18
                        by_cases c19 : a1 = 20
                        · replace h := h.1 c19
                          refine cj_tableIn (off := 94) (tgt := 95) dX7_roomFor_1 (by rw [c19]; decide +kernel) (by rw [c19]; decide +kernel) (by rw [c19]; decide +kernel) (by decide +kernel) ?_
                          refine cj_iconst (v := 3) dX7_roomFor_95 (by decide) ?_
                          refine cj_pc (pc' := 96) rfl ?_
                          refine cj_aload_n dX7_roomFor_96 rfl ?_
                          refine cj_callV (M' := mX7_a) (d' := 0) (k' := 0) (n' := 0) (index := 340) (np := 0) (As := []) (rest := [.int 3]) dX7_roomFor_97 lkX7_340 mwX7_a (tR_a hA h) (by omega) rfl rfl (Nat.le_of_ble_eq_true rfl) rm_mo rfl (fun v9 G9 q20 => ?_) (fun _ _ h => absurd h id)
                          obtain ⟨x21, S22, e8, e9, h⟩ := q20
                          subst e8
                          subst e9
                          refine cj_st (st' := [.int x21, .int 3]) rfl ?_
                          refine cj_imul dX7_roomFor_100 ?_
                          refine cj_iret rfl dX7_roomFor_101 ?_
                          exact ⟨_, _, rfl, rfl, h⟩
                        · replace h := h.2 c19
                          refine cj_tableOut (tgt := 102) dX7_roomFor_1 (by have h9_9 := rm_sw (k := 9) (by decide) c1; have h9_10 := rm_sw (k := 10) (by decide) c2; have h9_11 := rm_sw (k := 11) (by decide) c3; have h9_12 := rm_sw (k := 12) (by decide) c4; have h9_13 := rm_sw (k := 13) (by decide) c5; have h9_14 := rm_sw (k := 14) (by decide) c10; have h9_15 := rm_sw (k := 15) (by decide) c11; have h9_16 := rm_sw (k := 16) (by decide) c12; have h9_17 := rm_sw (k := 17) (by decide) c13; have h9_18 := rm_sw (k := 18) (by decide) c17; have h9_19 := rm_sw (k := 19) (by decide) c18; have h9_20 := rm_sw (k := 20) (by decide) c19; omega) (by decide +kernel) ?_
                          refine cj_iconst (v := 0) dX7_roomFor_102 (by decide) ?_
                          refine cj_pc (pc' := 103) rfl ?_
                          refine cj_iret rfl dX7_roomFor_103 ?_
                          exact ⟨_, _, rfl, rfl, h⟩
