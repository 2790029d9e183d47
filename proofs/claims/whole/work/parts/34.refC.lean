/-! THE REFERENCE, by program: wp_<method>: what must hold so that it comes to its end with Q; tR_<method>: its contract -/
def wp_emit (S : rm_S) (a1 : Int32) (a2 : Int32) (a3 : Int32) (Q : rm_S → Prop) : Prop := ((121 ≤ (S.1 35) → Q (rm_pf S 35 ((S.1 35) + 1))) ∧ (¬ 121 ≤ (S.1 35) → (vp_in (3 * (S.1 35)) 372 ∧ (vp_in ((3 * (S.1 35)) + 1) 372 ∧ (vp_in ((3 * (S.1 35)) + 2) 372 ∧ Q (rm_pf (rm_pa (rm_pa (rm_pa S 36 ((3 * (S.1 35)).toNatClampNeg) a1) 36 (((3 * (S.1 35)) + 1).toNatClampNeg) a2) 36 (((3 * (S.1 35)) + 2).toNatClampNeg) a3) 35 ((S.1 35) + 1)))))))
set_option maxHeartbeats 4000000 in
set_option maxRecDepth 100000 in
theorem tR_emit {mo : Nat} {ad : Nat → Nat} (hA : rm_A mo ad) {G0 : cj_G} {S : rm_S} {a1 : Int32} {a2 : Int32} {a3 : Int32} {Q : rm_S → Prop} (h : wp_emit S a1 a2 a3 Q) : cj_T mX7_emit 0 0 0 [.ref mo, .int a1, .int a2, .int a3] (rm_md mo ad S G0) (rm_post mo ad G0 Q) cj_no := by
  refine cj_T_of (by decide +kernel) (Nat.le_of_ble_eq_true rfl) ?_
  refine cj_lvs (lv' := [(0, .ref mo), (1, .int a1), (2, .int a2), (3, .int a3)]) rfl ?_
  unfold wp_emit at h
  refine cj_aload_n dX7_emit_0 rfl ?_
  refine rm_get (.int (S.1 35)) flX7_247 dX7_emit_1 rfl ?_
  refine cj_bipush (v := 121) dX7_emit_4 (by decide) ?_
  refine cj_icmp_ge (tgt := 49) dX7_emit_6 (by decide) (fun c1 => ?_) (fun c1 => ?_)
  · replace h := h.1 c1
    refine cj_aload_n dX7_emit_49 rfl ?_
    refine cj_pc (pc' := 50) rfl ?_
    refine cj_dup dX7_emit_50 rfl ?_
    refine rm_get (.int (S.1 35)) flX7_247 dX7_emit_51 rfl ?_
    refine cj_iconst (v := 1) dX7_emit_54 (by decide) ?_
    refine cj_iadd dX7_emit_55 ?_
    refine rm_put flX7_247 dX7_emit_56 rmp_35 rfl rfl (by decide) ?_
    refine cj_pc (pc' := 59) rfl ?_
    refine cj_vret rfl dX7_emit_59 ?_
    exact ⟨_, rfl, rfl, h⟩
  · replace h := h.2 c1
    refine cj_aload_n dX7_emit_9 rfl ?_
    refine rm_get (.ref (ad 36)) flX7_79 dX7_emit_10 rfl ?_
    refine cj_iconst (v := 3) dX7_emit_13 (by decide) ?_
    refine cj_aload_n dX7_emit_14 rfl ?_
    refine cj_pc (pc' := 15) rfl ?_
    refine rm_get (.int (S.1 35)) flX7_247 dX7_emit_15 rfl ?_
    refine cj_imul dX7_emit_18 ?_
    refine cj_iload_n dX7_emit_19 rfl ?_
    have i2 := h.1
    replace h := h.2
    refine rm_iast (j := 36) hA rfl dX7_emit_20 i2 ?_
    refine cj_aload_n dX7_emit_21 rfl ?_
    refine cj_pc (pc' := 22) rfl ?_
    refine rm_get (.ref (ad 36)) flX7_79 dX7_emit_22 rfl ?_
    refine cj_iconst (v := 3) dX7_emit_25 (by decide) ?_
    refine cj_aload_n dX7_emit_26 rfl ?_
    refine rm_get (.int (S.1 35)) flX7_247 dX7_emit_27 rfl ?_
    refine cj_imul dX7_emit_30 ?_
    refine cj_pc (pc' := 31) rfl ?_
    refine cj_iconst (v := 1) dX7_emit_31 (by decide) ?_
    refine cj_iadd dX7_emit_32 ?_
    refine cj_iload_n dX7_emit_33 rfl ?_
    have i3 := h.1
    replace h := h.2
    refine rm_iast (j := 36) hA rfl dX7_emit_34 i3 ?_
    refine cj_aload_n dX7_emit_35 rfl ?_
    refine cj_pc (pc' := 36) rfl ?_
    refine rm_get (.ref (ad 36)) flX7_79 dX7_emit_36 rfl ?_
    refine cj_iconst (v := 3) dX7_emit_39 (by decide) ?_
    refine cj_aload_n dX7_emit_40 rfl ?_
    refine rm_get (.int (S.1 35)) flX7_247 dX7_emit_41 rfl ?_
    refine cj_imul dX7_emit_44 ?_
    refine cj_pc (pc' := 45) rfl ?_
    refine cj_iconst (v := 2) dX7_emit_45 (by decide) ?_
    refine cj_iadd dX7_emit_46 ?_
    refine cj_iload_n dX7_emit_47 rfl ?_
    have i4 := h.1
    replace h := h.2
    refine rm_iast (j := 36) hA rfl dX7_emit_48 i4 ?_
    refine cj_aload_n dX7_emit_49 rfl ?_
    refine cj_pc (pc' := 50) rfl ?_
    refine cj_dup dX7_emit_50 rfl ?_
    refine rm_get (.int (S.1 35)) flX7_247 dX7_emit_51 rfl ?_
    refine cj_iconst (v := 1) dX7_emit_54 (by decide) ?_
    refine cj_iadd dX7_emit_55 ?_
    refine rm_put flX7_247 dX7_emit_56 rmp_35 rfl rfl (by decide) ?_
    refine cj_pc (pc' := 59) rfl ?_
    refine cj_vret rfl dX7_emit_59 ?_
    exact ⟨_, rfl, rfl, h⟩
def wp_set (S : rm_S) (a1 : Int32) (a2 : Int32) (a3 : Int32) (Q : rm_S → Prop) : Prop := ((121 ≤ a1 → Q S) ∧ (¬ 121 ≤ a1 → (vp_in ((3 * a1) + a2) 372 ∧ Q (rm_pa S 36 (((3 * a1) + a2).toNatClampNeg) a3))))
set_option maxHeartbeats 4000000 in
set_option maxRecDepth 100000 in
theorem tR_set {mo : Nat} {ad : Nat → Nat} (hA : rm_A mo ad) {G0 : cj_G} {S : rm_S} {a1 : Int32} {a2 : Int32} {a3 : Int32} {Q : rm_S → Prop} (h : wp_set S a1 a2 a3 Q) : cj_T mX7_set 0 0 0 [.ref mo, .int a1, .int a2, .int a3] (rm_md mo ad S G0) (rm_post mo ad G0 Q) cj_no := by
  refine cj_T_of (by decide +kernel) (Nat.le_of_ble_eq_true rfl) ?_
  refine cj_lvs (lv' := [(0, .ref mo), (1, .int a1), (2, .int a2), (3, .int a3)]) rfl ?_
  unfold wp_set at h
  refine cj_iload_n dX7_set_0 rfl ?_
  refine cj_bipush (v := 121) dX7_set_1 (by decide) ?_
  refine cj_icmp_ge (tgt := 17) dX7_set_3 (by decide) (fun c1 => ?_) (fun c1 => ?_)
  · replace h := h.1 c1
    refine cj_vret rfl dX7_set_17 ?_
    exact ⟨_, rfl, rfl, h⟩
  · replace h := h.2 c1
    refine cj_aload_n dX7_set_6 rfl ?_
    refine cj_pc (pc' := 7) rfl ?_
    refine rm_get (.ref (ad 36)) flX7_79 dX7_set_7 rfl ?_
    refine cj_iconst (v := 3) dX7_set_10 (by decide) ?_
    refine cj_iload_n dX7_set_11 rfl ?_
    refine cj_imul dX7_set_12 ?_
    refine cj_iload_n dX7_set_13 rfl ?_
    refine cj_pc (pc' := 14) rfl ?_
    refine cj_iadd dX7_set_14 ?_
    refine cj_iload_n dX7_set_15 rfl ?_
    have i2 := h.1
    replace h := h.2
    refine rm_iast (j := 36) hA rfl dX7_set_16 i2 ?_
    refine cj_vret rfl dX7_set_17 ?_
    exact ⟨_, rfl, rfl, h⟩
def wp_todo (S : rm_S) (a1 : Int32) (a2 : Int32) (a3 : Int32) (Q : rm_S → Prop) : Prop := (vp_in (S.1 39) 600 ∧ (vp_in (S.1 39) 600 ∧ (vp_in (S.1 39) 600 ∧ Q (rm_pf (rm_pa (rm_pa (rm_pa S 40 ((S.1 39).toNatClampNeg) a1) 41 ((S.1 39).toNatClampNeg) a2) 42 ((S.1 39).toNatClampNeg) a3) 39 ((S.1 39) + 1)))))
set_option maxHeartbeats 4000000 in
set_option maxRecDepth 100000 in
theorem tR_todo {mo : Nat} {ad : Nat → Nat} (hA : rm_A mo ad) {G0 : cj_G} {S : rm_S} {a1 : Int32} {a2 : Int32} {a3 : Int32} {Q : rm_S → Prop} (h : wp_todo S a1 a2 a3 Q) : cj_T mX7_todo 0 0 0 [.ref mo, .int a1, .int a2, .int a3] (rm_md mo ad S G0) (rm_post mo ad G0 Q) cj_no := by
  refine cj_T_of (by decide +kernel) (Nat.le_of_ble_eq_true rfl) ?_
  refine cj_lvs (lv' := [(0, .ref mo), (1, .int a1), (2, .int a2), (3, .int a3)]) rfl ?_
  unfold wp_todo at h
  refine cj_aload_n dX7_todo_0 rfl ?_
  refine rm_get (.ref (ad 40)) flX7_85 dX7_todo_1 rfl ?_
  refine cj_aload_n dX7_todo_4 rfl ?_
  refine rm_get (.int (S.1 39)) flX7_250 dX7_todo_5 rfl ?_
  refine cj_pc (pc' := 8) rfl ?_
  refine cj_iload_n dX7_todo_8 rfl ?_
  have i1 := h.1
  replace h := h.2
  refine rm_iast (j := 40) hA rfl dX7_todo_9 i1 ?_
  refine cj_aload_n dX7_todo_10 rfl ?_
  refine rm_get (.ref (ad 41)) flX7_88 dX7_todo_11 rfl ?_
  refine cj_aload_n dX7_todo_14 rfl ?_
  refine cj_pc (pc' := 15) rfl ?_
  refine rm_get (.int (S.1 39)) flX7_250 dX7_todo_15 rfl ?_
  refine cj_iload_n dX7_todo_18 rfl ?_
  have i2 := h.1
  replace h := h.2
  refine rm_iast (j := 41) hA rfl dX7_todo_19 i2 ?_
  refine cj_aload_n dX7_todo_20 rfl ?_
  refine rm_get (.ref (ad 42)) flX7_91 dX7_todo_21 rfl ?_
  refine cj_pc (pc' := 24) rfl ?_
  refine cj_aload_n dX7_todo_24 rfl ?_
  refine rm_get (.int (S.1 39)) flX7_250 dX7_todo_25 rfl ?_
  refine cj_iload_n dX7_todo_28 rfl ?_
  have i3 := h.1
  replace h := h.2
  refine rm_iast (j := 42) hA rfl dX7_todo_29 i3 ?_
  refine cj_aload_n dX7_todo_30 rfl ?_
  refine cj_pc (pc' := 31) rfl ?_
  refine cj_dup dX7_todo_31 rfl ?_
  refine rm_get (.int (S.1 39)) flX7_250 dX7_todo_32 rfl ?_
  refine cj_iconst (v := 1) dX7_todo_35 (by decide) ?_
  refine cj_iadd dX7_todo_36 ?_
  refine rm_put flX7_250 dX7_todo_37 rmp_39 rfl rfl (by decide) ?_
  refine cj_pc (pc' := 40) rfl ?_
  refine cj_vret rfl dX7_todo_40 ?_
  exact ⟨_, rfl, rfl, h⟩
def wp_todoNode (S : rm_S) (a1 : Int32) (Q : rm_S → Prop) : Prop := wp_todo S 0 a1 0 (fun S2 => Q S2)
set_option maxHeartbeats 4000000 in
set_option maxRecDepth 100000 in
theorem tR_todoNode {mo : Nat} {ad : Nat → Nat} (hA : rm_A mo ad) {G0 : cj_G} {S : rm_S} {a1 : Int32} {Q : rm_S → Prop} (h : wp_todoNode S a1 Q) : cj_T mX7_todoNode 1 0 0 [.ref mo, .int a1] (rm_md mo ad S G0) (rm_post mo ad G0 Q) cj_no := by
  refine cj_T_of (by decide +kernel) (Nat.le_of_ble_eq_true rfl) ?_
  refine cj_lvs (lv' := [(0, .ref mo), (1, .int a1)]) rfl ?_
  unfold wp_todoNode at h
  refine cj_aload_n dX7_todoNode_0 rfl ?_
  refine cj_iconst (v := 0) dX7_todoNode_1 (by decide) ?_
  refine cj_iload_n dX7_todoNode_2 rfl ?_
  refine cj_iconst (v := 0) dX7_todoNode_3 (by decide) ?_
  refine cj_pc (pc' := 4) rfl ?_
  refine cj_callV (M' := mX7_todo) (d' := 0) (k' := 0) (n' := 0) (index := 253) (np := 3) (As := [.int 0, .int a1, .int 0]) (rest := []) dX7_todoNode_4 lkX7_253 mwX7_todo (tR_todo hA h) (by omega) rfl rfl (Nat.le_of_ble_eq_true rfl) rm_mo rfl (fun v9 G9 q1 => ?_) (fun _ _ h => absurd h id)
  obtain ⟨S2, e8, e9, h⟩ := q1
  subst e8
  subst e9
  refine cj_st (st' := []) rfl ?_
  refine cj_vret rfl dX7_todoNode_7 ?_
  exact ⟨_, rfl, rfl, h⟩
def wp_todoEmit (S : rm_S) (a1 : Int32) (a2 : Int32) (Q : rm_S → Prop) : Prop := wp_todo S 1 a1 a2 (fun S2 => Q S2)
set_option maxHeartbeats 4000000 in
set_option maxRecDepth 100000 in
theorem tR_todoEmit {mo : Nat} {ad : Nat → Nat} (hA : rm_A mo ad) {G0 : cj_G} {S : rm_S} {a1 : Int32} {a2 : Int32} {Q : rm_S → Prop} (h : wp_todoEmit S a1 a2 Q) : cj_T mX7_todoEmit 1 0 0 [.ref mo, .int a1, .int a2] (rm_md mo ad S G0) (rm_post mo ad G0 Q) cj_no := by
  refine cj_T_of (by decide +kernel) (Nat.le_of_ble_eq_true rfl) ?_
  refine cj_lvs (lv' := [(0, .ref mo), (1, .int a1), (2, .int a2)]) rfl ?_
  unfold wp_todoEmit at h
  refine cj_aload_n dX7_todoEmit_0 rfl ?_
  refine cj_iconst (v := 1) dX7_todoEmit_1 (by decide) ?_
  refine cj_iload_n dX7_todoEmit_2 rfl ?_
  refine cj_iload_n dX7_todoEmit_3 rfl ?_
  refine cj_pc (pc' := 4) rfl ?_
  refine cj_callV (M' := mX7_todo) (d' := 0) (k' := 0) (n' := 0) (index := 253) (np := 3) (As := [.int 1, .int a1, .int a2]) (rest := []) dX7_todoEmit_4 lkX7_253 mwX7_todo (tR_todo hA h) (by omega) rfl rfl (Nat.le_of_ble_eq_true rfl) rm_mo rfl (fun v9 G9 q1 => ?_) (fun _ _ h => absurd h id)
  obtain ⟨S2, e8, e9, h⟩ := q1
  subst e8
  subst e9
  refine cj_st (st' := []) rfl ?_
  refine cj_vret rfl dX7_todoEmit_7 ?_
  exact ⟨_, rfl, rfl, h⟩
def wl_generateBuilt_44 (v1 : Int32) (Q : rm_S → Prop) (K : Int32 → rm_S → Prop) : Nat → Int32 → rm_S → Prop
  | 0, _, _ => False
  | n + 1, v2, S => ((v2 < 0 → K v2 S) ∧ (¬ v2 < 0 → (vp_in v1 300 ∧ (((((S.2 13) v1.toNatClampNeg) - 1) ≤ v2 → wp_childAt S v1 v2 (fun x11 S12 => wp_todoNode S12 x11 (fun S14 => wl_generateBuilt_44 v1 Q K n (v2 + (-1)) S14))) ∧ (¬ (((S.2 13) v1.toNatClampNeg) - 1) ≤ v2 → wp_todoEmit S 3 0 (fun S16 => wp_childAt S16 v1 v2 (fun x18 S19 => wp_todoNode S19 x18 (fun S21 => wl_generateBuilt_44 v1 Q K n (v2 + (-1)) S21))))))))
def wp_generateBuilt (S : rm_S) (a1 : Int32) (Q : rm_S → Prop) : Prop := (vp_in a1 300 ∧ ((¬ ((S.2 13) a1.toNatClampNeg) = 0 → (vp_in a1 300 ∧ wp_todoEmit S 17 ((S.2 10) a1.toNatClampNeg) (fun S5 => (vp_in a1 300 ∧ (∃ n9 : Nat, wl_generateBuilt_44 a1 Q (fun w23 S22 => Q S22) n9 (((S5.2 13) a1.toNatClampNeg) - 1) S5))))) ∧ (((S.2 13) a1.toNatClampNeg) = 0 → (vp_in a1 300 ∧ wp_emit S 16 ((S.2 10) a1.toNatClampNeg) 0 (fun S26 => Q S26)))))
set_option maxHeartbeats 4000000 in
set_option maxRecDepth 100000 in
theorem wl_generateBuilt_44_ok {mo : Nat} {ad : Nat → Nat} (hA : rm_A mo ad) {G0 : cj_G} {d k0 n0 k n9 : Nat} (hd9 : 2 ≤ d) (v1 : Int32) {Q : rm_S → Prop} {K : Int32 → rm_S → Prop} (hK : ∀ (v2 : Int32) (S : rm_S), K v2 S → cj_J mX7_generateBuilt d k0 n0 (rm_post mo ad G0 Q) cj_no k n9 82 [(1, .int v1), (2, .int v2), (0, .ref mo)] [] (rm_md mo ad S G0)) : ∀ (n : Nat) (v2 : Int32) (S : rm_S), wl_generateBuilt_44 v1 Q K n v2 S → cj_J mX7_generateBuilt d k0 n0 (rm_post mo ad G0 Q) cj_no k n9 44 [(1, .int v1), (2, .int v2), (0, .ref mo)] [] (rm_md mo ad S G0) := by
  intro n
  induction n with
  | zero => intro v2 S h; exact absurd h id
  | succ n ih =>
    intro v2 S h
    unfold wl_generateBuilt_44 at h
    refine cj_iload_n dX7_generateBuilt_44 rfl ?_
    refine cj_pc (pc' := 45) rfl ?_
    refine cj_if_lt (tgt := 82) dX7_generateBuilt_45 (by decide) (fun c7 => ?_) (fun c7 => ?_)
    · replace h := h.1 c7
      refine cj_sub (lv' := [(1, .int v1), (2, .int v2), (0, .ref mo)]) (by simp) ?_
      exact hK _ _ h
    · replace h := h.2 c7
      refine cj_iload_n dX7_generateBuilt_48 rfl ?_
      refine cj_aload_n dX7_generateBuilt_49 rfl ?_
      refine rm_get (.ref (ad 13)) flX7_33 dX7_generateBuilt_50 rfl ?_
      refine cj_iload_n dX7_generateBuilt_53 rfl ?_
      refine cj_pc (pc' := 54) rfl ?_
      have i8 := h.1
      replace h := h.2
      refine rm_iald (j := 13) (x := (S.2 13) v1.toNatClampNeg) hA rfl dX7_generateBuilt_54 i8 rfl ?_
      refine cj_iconst (v := 1) dX7_generateBuilt_55 (by decide) ?_
      refine cj_isub dX7_generateBuilt_56 ?_
      refine cj_icmp_ge (tgt := 66) dX7_generateBuilt_57 (by decide) (fun c9 => ?_) (fun c9 => ?_)
      · replace h := h.1 c9
        refine cj_aload_n dX7_generateBuilt_66 rfl ?_
        refine cj_pc (pc' := 67) rfl ?_
        refine cj_aload_n dX7_generateBuilt_67 rfl ?_
        refine cj_iload_n dX7_generateBuilt_68 rfl ?_
        refine cj_iload_n dX7_generateBuilt_69 rfl ?_
        refine cj_callV (M' := mX7_childAt) (d' := 0) (k' := 0) (n' := 0) (index := 220) (np := 2) (As := [.int v1, .int v2]) (rest := [.ref mo]) dX7_generateBuilt_70 lkX7_220 mwX7_childAt (tR_childAt hA h) (by omega) rfl rfl (Nat.le_of_ble_eq_true rfl) rm_mo rfl (fun v9 G9 q10 => ?_) (fun _ _ h => absurd h id)
        obtain ⟨x11, S12, e8, e9, h⟩ := q10
        subst e8
        subst e9
        refine cj_st (st' := [.int x11, .ref mo]) rfl ?_
        refine cj_callV (M' := mX7_todoNode) (d' := 1) (k' := 0) (n' := 0) (index := 263) (np := 1) (As := [.int x11]) (rest := []) dX7_generateBuilt_73 lkX7_263 mwX7_todoNode (tR_todoNode hA h) (by omega) rfl rfl (Nat.le_of_ble_eq_true rfl) rm_mo rfl (fun v9 G9 q13 => ?_) (fun _ _ h => absurd h id)
        obtain ⟨S14, e8, e9, h⟩ := q13
        subst e8
        subst e9
        refine cj_st (st' := []) rfl ?_
        refine cj_pc (pc' := 76) rfl ?_
        refine cj_iinc (v := v2 + (-1)) (lv' := [(2, .int (v2 + (-1))), (1, .int v1), (0, .ref mo)]) dX7_generateBuilt_76 rfl rfl (by decide) rfl ?_
        refine cj_goto (tgt := 44) dX7_generateBuilt_79 (by decide) ?_
        refine cj_sub (lv' := [(1, .int v1), (2, .int (v2 + (-1))), (0, .ref mo)]) (by simp) ?_
        exact ih _ _ h
      · replace h := h.2 c9
        refine cj_aload_n dX7_generateBuilt_60 rfl ?_
        refine cj_iconst (v := 3) dX7_generateBuilt_61 (by decide) ?_
        refine cj_iconst (v := 0) dX7_generateBuilt_62 (by decide) ?_
        refine cj_pc (pc' := 63) rfl ?_
        refine cj_callV (M' := mX7_todoEmit) (d' := 1) (k' := 0) (n' := 0) (index := 260) (np := 2) (As := [.int 3, .int 0]) (rest := []) dX7_generateBuilt_63 lkX7_260 mwX7_todoEmit (tR_todoEmit hA h) (by omega) rfl rfl (Nat.le_of_ble_eq_true rfl) rm_mo rfl (fun v9 G9 q15 => ?_) (fun _ _ h => absurd h id)
        obtain ⟨S16, e8, e9, h⟩ := q15
        subst e8
        subst e9
        refine cj_st (st' := []) rfl ?_
        refine cj_aload_n dX7_generateBuilt_66 rfl ?_
        refine cj_aload_n dX7_generateBuilt_67 rfl ?_
        refine cj_iload_n dX7_generateBuilt_68 rfl ?_
        refine cj_iload_n dX7_generateBuilt_69 rfl ?_
        refine cj_pc (pc' := 70) rfl ?_
        refine cj_callV (M' := mX7_childAt) (d' := 0) (k' := 0) (n' := 0) (index := 220) (np := 2) (As := [.int v1, .int v2]) (rest := [.ref mo]) dX7_generateBuilt_70 lkX7_220 mwX7_childAt (tR_childAt hA h) (by omega) rfl rfl (Nat.le_of_ble_eq_true rfl) rm_mo rfl (fun v9 G9 q17 => ?_) (fun _ _ h => absurd h id)
        obtain ⟨x18, S19, e8, e9, h⟩ := q17
        subst e8
        subst e9
        refine cj_st (st' := [.int x18, .ref mo]) rfl ?_
        refine cj_callV (M' := mX7_todoNode) (d' := 1) (k' := 0) (n' := 0) (index := 263) (np := 1) (As := [.int x18]) (rest := []) dX7_generateBuilt_73 lkX7_263 mwX7_todoNode (tR_todoNode hA h) (by omega) rfl rfl (Nat.le_of_ble_eq_true rfl) rm_mo rfl (fun v9 G9 q20 => ?_) (fun _ _ h => absurd h id)
        obtain ⟨S21, e8, e9, h⟩ := q20
        subst e8
        subst e9
        refine cj_st (st' := []) rfl ?_
        refine cj_iinc (v := v2 + (-1)) (lv' := [(2, .int (v2 + (-1))), (1, .int v1), (0, .ref mo)]) dX7_generateBuilt_76 rfl rfl (by decide) rfl ?_
        refine cj_goto (tgt := 44) dX7_generateBuilt_79 (by decide) ?_
        refine cj_sub (lv' := [(1, .int v1), (2, .int (v2 + (-1))), (0, .ref mo)]) (by simp) ?_
        exact ih _ _ h
set_option maxHeartbeats 4000000 in
set_option maxRecDepth 100000 in
theorem tR_generateBuilt {mo : Nat} {ad : Nat → Nat} (hA : rm_A mo ad) {G0 : cj_G} {S : rm_S} {a1 : Int32} {Q : rm_S → Prop} (h : wp_generateBuilt S a1 Q) : cj_T mX7_generateBuilt 2 0 0 [.ref mo, .int a1] (rm_md mo ad S G0) (rm_post mo ad G0 Q) cj_no := by
  refine cj_T_of (by decide +kernel) (Nat.le_of_ble_eq_true rfl) ?_
  refine cj_lvs (lv' := [(0, .ref mo), (1, .int a1)]) rfl ?_
  unfold wp_generateBuilt at h
  refine cj_aload_n dX7_generateBuilt_0 rfl ?_
  refine rm_get (.ref (ad 13)) flX7_33 dX7_generateBuilt_1 rfl ?_
  refine cj_iload_n dX7_generateBuilt_4 rfl ?_
  have i1 := h.1
  replace h := h.2
  refine rm_iald (j := 13) (x := (S.2 13) a1.toNatClampNeg) hA rfl dX7_generateBuilt_5 i1 rfl ?_
  refine cj_pc (pc' := 6) rfl ?_
  refine cj_if_ne (tgt := 23) dX7_generateBuilt_6 (by decide) (fun c2 => ?_) (fun c2 => ?_)
  · replace h := h.1 c2
    refine cj_aload_n dX7_generateBuilt_23 rfl ?_
    refine cj_bipush (v := 17) dX7_generateBuilt_24 (by decide) ?_
    refine cj_aload_n dX7_generateBuilt_26 rfl ?_
    refine rm_get (.ref (ad 10)) flX7_24 dX7_generateBuilt_27 rfl ?_
    refine cj_pc (pc' := 30) rfl ?_
    refine cj_iload_n dX7_generateBuilt_30 rfl ?_
    have i3 := h.1
    replace h := h.2
    refine rm_iald (j := 10) (x := (S.2 10) a1.toNatClampNeg) hA rfl dX7_generateBuilt_31 i3 rfl ?_
    refine cj_callV (M' := mX7_todoEmit) (d' := 1) (k' := 0) (n' := 0) (index := 260) (np := 2) (As := [.int 17, .int ((S.2 10) a1.toNatClampNeg)]) (rest := []) dX7_generateBuilt_32 lkX7_260 mwX7_todoEmit (tR_todoEmit hA h) (by omega) rfl rfl (Nat.le_of_ble_eq_true rfl) rm_mo rfl (fun v9 G9 q4 => ?_) (fun _ _ h => absurd h id)
    obtain ⟨S5, e8, e9, h⟩ := q4
    subst e8
    subst e9
    refine cj_st (st' := []) rfl ?_
    refine cj_aload_n dX7_generateBuilt_35 rfl ?_
    refine rm_get (.ref (ad 13)) flX7_33 dX7_generateBuilt_36 rfl ?_
    refine cj_pc (pc' := 39) rfl ?_
    refine cj_iload_n dX7_generateBuilt_39 rfl ?_
    have i6 := h.1
    replace h := h.2
    refine rm_iald (j := 13) (x := (S5.2 13) a1.toNatClampNeg) hA rfl dX7_generateBuilt_40 i6 rfl ?_
    refine cj_iconst (v := 1) dX7_generateBuilt_41 (by decide) ?_
    refine cj_isub dX7_generateBuilt_42 ?_
    refine cj_istore_n (lv' := [(2, .int (((S5.2 13) a1.toNatClampNeg) - 1)), (0, .ref mo), (1, .int a1)]) dX7_generateBuilt_43 (by decide) rfl ?_
    obtain ⟨n9, h⟩ := h
    refine cj_sub (lv' := [(1, .int a1), (2, .int (((S5.2 13) a1.toNatClampNeg) - 1)), (0, .ref mo)]) (by simp) ?_
    refine wl_generateBuilt_44_ok hA (by omega) _ ?_ n9 _ _ h
    clear h
    intro w23 S22 h
    refine cj_vret rfl dX7_generateBuilt_82 ?_
    exact ⟨_, rfl, rfl, h⟩
  · replace h := h.2 c2
    refine cj_aload_n dX7_generateBuilt_9 rfl ?_
    refine cj_pc (pc' := 10) rfl ?_
    refine cj_bipush (v := 16) dX7_generateBuilt_10 (by decide) ?_
    refine cj_aload_n dX7_generateBuilt_12 rfl ?_
    refine rm_get (.ref (ad 10)) flX7_24 dX7_generateBuilt_13 rfl ?_
    refine cj_iload_n dX7_generateBuilt_16 rfl ?_
    have i24 := h.1
    replace h := h.2
    refine rm_iald (j := 10) (x := (S.2 10) a1.toNatClampNeg) hA rfl dX7_generateBuilt_17 i24 rfl ?_
    refine cj_pc (pc' := 18) rfl ?_
    refine cj_iconst (v := 0) dX7_generateBuilt_18 (by decide) ?_
    refine cj_callV (M' := mX7_emit) (d' := 0) (k' := 0) (n' := 0) (index := 257) (np := 3) (As := [.int 16, .int ((S.2 10) a1.toNatClampNeg), .int 0]) (rest := []) dX7_generateBuilt_19 lkX7_257 mwX7_emit (tR_emit hA h) (by omega) rfl rfl (Nat.le_of_ble_eq_true rfl) rm_mo rfl (fun v9 G9 q25 => ?_) (fun _ _ h => absurd h id)
    obtain ⟨S26, e8, e9, h⟩ := q25
    subst e8
    subst e9
    refine cj_st (st' := []) rfl ?_
    refine cj_vret rfl dX7_generateBuilt_22 ?_
    exact ⟨_, rfl, rfl, h⟩
def wl_generate_121 (v1 : Int32) (v2 : Int32) (Q : rm_S → Prop) (K : Int32 → rm_S → Prop) : Nat → Int32 → rm_S → Prop
  | 0, _, _ => False
  | n + 1, v3, S => (vp_in v1 300 ∧ ((((S.2 13) v1.toNatClampNeg) ≤ v3 → K v3 S) ∧ (¬ ((S.2 13) v1.toNatClampNeg) ≤ v3 → wp_todoEmit S 13 0 (fun S26 => wl_generate_121 v1 v2 Q K n (v3 + 1) S26))))
def wl_generate_156 (v1 : Int32) (v2 : Int32) (Q : rm_S → Prop) (K : Int32 → rm_S → Prop) : Nat → Int32 → rm_S → Prop
  | 0, _, _ => False
  | n + 1, v3, S => ((v3 < 0 → K v3 S) ∧ (¬ v3 < 0 → wp_todoEmit S 3 0 (fun S34 => wp_todoNode S34 v3 (fun S36 => (vp_in v3 300 ∧ wl_generate_156 v1 v2 Q K n ((S36.2 12) v3.toNatClampNeg) S36)))))
def wp_generate (S : rm_S) (a1 : Int32) (Q : rm_S → Prop) : Prop := (vp_in a1 300 ∧ (vp_in a1 300 ∧ ((((S.2 9) a1.toNatClampNeg) = 0 → (vp_in a1 300 ∧ wp_emit S 1 ((S.2 10) a1.toNatClampNeg) 0 (fun S6 => Q S6))) ∧ (¬ ((S.2 9) a1.toNatClampNeg) = 0 → ((((S.2 9) a1.toNatClampNeg) = 1 → (vp_in a1 300 ∧ wp_emit S 2 ((S.2 10) a1.toNatClampNeg) 0 (fun S10 => Q S10))) ∧ (¬ ((S.2 9) a1.toNatClampNeg) = 1 → ((((S.2 9) a1.toNatClampNeg) = 2 → (vp_in a1 300 ∧ wp_todoEmit S ((S.2 10) a1.toNatClampNeg) 0 (fun S14 => (vp_in ((S.2 11) a1.toNatClampNeg) 300 ∧ wp_todoNode S14 ((S14.2 12) (((S.2 11) a1.toNatClampNeg).toNatClampNeg)) (fun S17 => wp_todoEmit S17 3 0 (fun S19 => wp_todoNode S19 ((S.2 11) a1.toNatClampNeg) (fun S21 => Q S21))))))) ∧ (¬ ((S.2 9) a1.toNatClampNeg) = 2 → ((((S.2 9) a1.toNatClampNeg) = 3 → (∃ n9 : Nat, wl_generate_121 a1 ((S.2 11) a1.toNatClampNeg) Q (fun w28 S27 => wp_todoNode S27 ((S.2 11) a1.toNatClampNeg) (fun S30 => (vp_in ((S.2 11) a1.toNatClampNeg) 300 ∧ (∃ n9 : Nat, wl_generate_156 a1 ((S.2 11) a1.toNatClampNeg) Q (fun w39 S38 => Q S38) n9 ((S30.2 12) (((S.2 11) a1.toNatClampNeg).toNatClampNeg)) S30)))) n9 1 S)) ∧ (¬ ((S.2 9) a1.toNatClampNeg) = 3 → ((((S.2 9) a1.toNatClampNeg) = 4 → wp_generateBuilt S a1 (fun S42 => Q S42)) ∧ (¬ ((S.2 9) a1.toNatClampNeg) = 4 → ((((S.2 9) a1.toNatClampNeg) = 5 → wp_emit S 9 ((S.1 35) + 2) 0 (fun S45 => wp_emit S45 11 0 0 (fun S47 => wp_todo S47 2 ((S47.1 35) - 1) 0 (fun S49 => wp_todoEmit S49 12 0 (fun S51 => wp_todoNode S51 ((S.2 11) a1.toNatClampNeg) (fun S53 => Q S53)))))) ∧ (¬ ((S.2 9) a1.toNatClampNeg) = 5 → ((((S.2 9) a1.toNatClampNeg) = 6 → wp_todoEmit S 15 1 (fun S56 => (vp_in ((S.2 11) a1.toNatClampNeg) 300 ∧ wp_todoNode S56 ((S56.2 12) (((S.2 11) a1.toNatClampNeg).toNatClampNeg)) (fun S59 => wp_todoEmit S59 14 0 (fun S61 => wp_todoNode S61 ((S.2 11) a1.toNatClampNeg) (fun S63 => Q S63)))))) ∧ (¬ ((S.2 9) a1.toNatClampNeg) = 6 → ((((S.2 9) a1.toNatClampNeg) = 7 → wp_emit S 10 ((S.1 35) + 2) 0 (fun S66 => wp_emit S66 11 0 0 (fun S68 => wp_todoEmit S68 15 1 (fun S70 => (vp_in ((S.2 11) a1.toNatClampNeg) 300 ∧ wp_todoNode S70 ((S70.2 12) (((S.2 11) a1.toNatClampNeg).toNatClampNeg)) (fun S73 => wp_todoEmit S73 14 0 (fun S75 => wp_todo S75 2 ((S68.1 35) - 1) 0 (fun S77 => wp_todoEmit S77 12 0 (fun S79 => wp_todoNode S79 ((S.2 11) a1.toNatClampNeg) (fun S81 => Q S81)))))))))) ∧ (¬ ((S.2 9) a1.toNatClampNeg) = 7 → wp_todo S 3 a1 0 (fun S83 => wp_todoNode S83 ((S.2 11) a1.toNatClampNeg) (fun S85 => Q S85))))))))))))))))))))
set_option maxHeartbeats 4000000 in
set_option maxRecDepth 100000 in
theorem wl_generate_121_ok {mo : Nat} {ad : Nat → Nat} (hA : rm_A mo ad) {G0 : cj_G} {d k0 n0 k n9 : Nat} (hd9 : 3 ≤ d) (v1 : Int32) (v2 : Int32) {Q : rm_S → Prop} {K : Int32 → rm_S → Prop} (hK : ∀ (v3 : Int32) (S : rm_S), K v3 S → cj_J mX7_generate d k0 n0 (rm_post mo ad G0 Q) cj_no k n9 144 [(1, .int v1), (2, .int v2), (3, .int v3), (0, .ref mo)] [] (rm_md mo ad S G0)) : ∀ (n : Nat) (v3 : Int32) (S : rm_S), wl_generate_121 v1 v2 Q K n v3 S → cj_J mX7_generate d k0 n0 (rm_post mo ad G0 Q) cj_no k n9 121 [(1, .int v1), (2, .int v2), (3, .int v3), (0, .ref mo)] [] (rm_md mo ad S G0) := by
  intro n
  induction n with
  | zero => intro v3 S h; exact absurd h id
  | succ n ih =>
    intro v3 S h
    unfold wl_generate_121 at h
    refine cj_iload_n dX7_generate_121 rfl ?_
    refine cj_aload_n dX7_generate_122 rfl ?_
    refine rm_get (.ref (ad 13)) flX7_33 dX7_generate_123 rfl ?_
    refine cj_iload_n dX7_generate_126 rfl ?_
    refine cj_pc (pc' := 127) rfl ?_
    have i23 := h.1
    replace h := h.2
    refine rm_iald (j := 13) (x := (S.2 13) v1.toNatClampNeg) hA rfl dX7_generate_127 i23 rfl ?_
    refine cj_icmp_ge (tgt := 144) dX7_generate_128 (by decide) (fun c24 => ?_) (fun c24 => ?_)
    · replace h := h.1 c24
      refine cj_sub (lv' := [(1, .int v1), (2, .int v2), (3, .int v3), (0, .ref mo)]) (by simp) ?_
      exact hK _ _ h
    · replace h := h.2 c24
      refine cj_aload_n dX7_generate_131 rfl ?_
      refine cj_bipush (v := 13) dX7_generate_132 (by decide) ?_
      refine cj_iconst (v := 0) dX7_generate_134 (by decide) ?_
      refine cj_pc (pc' := 135) rfl ?_
      refine cj_callV (M' := mX7_todoEmit) (d' := 1) (k' := 0) (n' := 0) (index := 260) (np := 2) (As := [.int 13, .int 0]) (rest := []) dX7_generate_135 lkX7_260 mwX7_todoEmit (tR_todoEmit hA h) (by omega) rfl rfl (Nat.le_of_ble_eq_true rfl) rm_mo rfl (fun v9 G9 q25 => ?_) (fun _ _ h => absurd h id)
      obtain ⟨S26, e8, e9, h⟩ := q25
      subst e8
      subst e9
      refine cj_st (st' := []) rfl ?_
      refine cj_iinc (v := v3 + 1) (lv' := [(3, .int (v3 + 1)), (1, .int v1), (2, .int v2), (0, .ref mo)]) dX7_generate_138 rfl rfl (by decide) rfl ?_
      refine cj_goto (tgt := 121) dX7_generate_141 (by decide) ?_
      refine cj_sub (lv' := [(1, .int v1), (2, .int v2), (3, .int (v3 + 1)), (0, .ref mo)]) (by simp) ?_
      exact ih _ _ h
set_option maxHeartbeats 4000000 in
set_option maxRecDepth 100000 in
theorem wl_generate_156_ok {mo : Nat} {ad : Nat → Nat} (hA : rm_A mo ad) {G0 : cj_G} {d k0 n0 k n9 : Nat} (hd9 : 3 ≤ d) (v1 : Int32) (v2 : Int32) {Q : rm_S → Prop} {K : Int32 → rm_S → Prop} (hK : ∀ (v3 : Int32) (S : rm_S), K v3 S → cj_J mX7_generate d k0 n0 (rm_post mo ad G0 Q) cj_no k n9 181 [(1, .int v1), (2, .int v2), (3, .int v3), (0, .ref mo)] [] (rm_md mo ad S G0)) : ∀ (n : Nat) (v3 : Int32) (S : rm_S), wl_generate_156 v1 v2 Q K n v3 S → cj_J mX7_generate d k0 n0 (rm_post mo ad G0 Q) cj_no k n9 156 [(1, .int v1), (2, .int v2), (3, .int v3), (0, .ref mo)] [] (rm_md mo ad S G0) := by
  intro n
  induction n with
  | zero => intro v3 S h; exact absurd h id
  | succ n ih =>
    intro v3 S h
    unfold wl_generate_156 at h
    refine cj_iload_n dX7_generate_156 rfl ?_
    refine cj_if_lt (tgt := 181) dX7_generate_157 (by decide) (fun c32 => ?_) (fun c32 => ?_)
    · replace h := h.1 c32
      refine cj_sub (lv' := [(1, .int v1), (2, .int v2), (3, .int v3), (0, .ref mo)]) (by simp) ?_
      exact hK _ _ h
    · replace h := h.2 c32
      refine cj_aload_n dX7_generate_160 rfl ?_
      refine cj_iconst (v := 3) dX7_generate_161 (by decide) ?_
      refine cj_pc (pc' := 162) rfl ?_
      refine cj_iconst (v := 0) dX7_generate_162 (by decide) ?_
      refine cj_callV (M' := mX7_todoEmit) (d' := 1) (k' := 0) (n' := 0) (index := 260) (np := 2) (As := [.int 3, .int 0]) (rest := []) dX7_generate_163 lkX7_260 mwX7_todoEmit (tR_todoEmit hA h) (by omega) rfl rfl (Nat.le_of_ble_eq_true rfl) rm_mo rfl (fun v9 G9 q33 => ?_) (fun _ _ h => absurd h id)
      obtain ⟨S34, e8, e9, h⟩ := q33
      subst e8
      subst e9
      refine cj_st (st' := []) rfl ?_
      refine cj_aload_n dX7_generate_166 rfl ?_
      refine cj_iload_n dX7_generate_167 rfl ?_
      refine cj_callV (M' := mX7_todoNode) (d' := 1) (k' := 0) (n' := 0) (index := 263) (np := 1) (As := [.int v3]) (rest := []) dX7_generate_168 lkX7_263 mwX7_todoNode (tR_todoNode hA h) (by omega) rfl rfl (Nat.le_of_ble_eq_true rfl) rm_mo rfl (fun v9 G9 q35 => ?_) (fun _ _ h => absurd h id)
      obtain ⟨S36, e8, e9, h⟩ := q35
      subst e8
      subst e9
      refine cj_st (st' := []) rfl ?_
      refine cj_pc (pc' := 171) rfl ?_
      refine cj_aload_n dX7_generate_171 rfl ?_
      refine rm_get (.ref (ad 12)) flX7_30 dX7_generate_172 rfl ?_
      refine cj_iload_n dX7_generate_175 rfl ?_
      have i37 := h.1
      replace h := h.2
      refine rm_iald (j := 12) (x := (S36.2 12) v3.toNatClampNeg) hA rfl dX7_generate_176 i37 rfl ?_
      refine cj_istore_n (lv' := [(3, .int ((S36.2 12) v3.toNatClampNeg)), (1, .int v1), (2, .int v2), (0, .ref mo)]) dX7_generate_177 (by decide) rfl ?_
      refine cj_pc (pc' := 178) rfl ?_
      refine cj_goto (tgt := 156) dX7_generate_178 (by decide) ?_
      refine cj_sub (lv' := [(1, .int v1), (2, .int v2), (3, .int ((S36.2 12) v3.toNatClampNeg)), (0, .ref mo)]) (by simp) ?_
      exact ih _ _ h
set_option maxHeartbeats 4000000 in
set_option maxRecDepth 100000 in
theorem tR_generate {mo : Nat} {ad : Nat → Nat} (hA : rm_A mo ad) {G0 : cj_G} {S : rm_S} {a1 : Int32} {Q : rm_S → Prop} (h : wp_generate S a1 Q) : cj_T mX7_generate 3 0 0 [.ref mo, .int a1] (rm_md mo ad S G0) (rm_post mo ad G0 Q) cj_no := by
  refine cj_T_of (by decide +kernel) (Nat.le_of_ble_eq_true rfl) ?_
  refine cj_lvs (lv' := [(0, .ref mo), (1, .int a1)]) rfl ?_
  unfold wp_generate at h
  refine cj_aload_n dX7_generate_0 rfl ?_
  refine rm_get (.ref (ad 11)) flX7_27 dX7_generate_1 rfl ?_
  refine cj_iload_n dX7_generate_4 rfl ?_
  have i1 := h.1
  replace h := h.2
  refine rm_iald (j := 11) (x := (S.2 11) a1.toNatClampNeg) hA rfl dX7_generate_5 i1 rfl ?_
  refine cj_pc (pc' := 6) rfl ?_
  refine cj_istore_n (lv' := [(2, .int ((S.2 11) a1.toNatClampNeg)), (0, .ref mo), (1, .int a1)]) dX7_generate_6 (by decide) rfl ?_
  refine cj_aload_n dX7_generate_7 rfl ?_
  refine rm_get (.ref (ad 9)) flX7_20 dX7_generate_8 rfl ?_
  refine cj_iload_n dX7_generate_11 rfl ?_
  have i2 := h.1
  replace h := h.2
  refine rm_iald (j := 9) (x := (S.2 9) a1.toNatClampNeg) hA rfl dX7_generate_12 i2 rfl ?_
  refine cj_pc (pc' := 13) rfl ?_
  by_cases c3 : ((S.2 9) a1.toNatClampNeg) = 0
  · replace h := h.1 c3
    refine cj_tableIn (off := 47) (tgt := 60) dX7_generate_13 (by rw [c3]; decide +kernel) (by rw [c3]; decide +kernel) (by rw [c3]; decide +kernel) (by decide +kernel) ?_
    refine cj_aload_n dX7_generate_60 rfl ?_
    refine cj_iconst (v := 1) dX7_generate_61 (by decide) ?_
    refine cj_aload_n dX7_generate_62 rfl ?_
    refine rm_get (.ref (ad 10)) flX7_24 dX7_generate_63 rfl ?_
    refine cj_pc (pc' := 66) rfl ?_
    refine cj_iload_n dX7_generate_66 rfl ?_
    have i4 := h.1
    replace h := h.2
    refine rm_iald (j := 10) (x := (S.2 10) a1.toNatClampNeg) hA rfl dX7_generate_67 i4 rfl ?_
    refine cj_iconst (v := 0) dX7_generate_68 (by decide) ?_
    refine cj_callV (M' := mX7_emit) (d' := 0) (k' := 0) (n' := 0) (index := 257) (np := 3) (As := [.int 1, .int ((S.2 10) a1.toNatClampNeg), .int 0]) (rest := []) dX7_generate_69 lkX7_257 mwX7_emit (tR_emit hA h) (by omega) rfl rfl (Nat.le_of_ble_eq_true rfl) rm_mo rfl (fun v9 G9 q5 => ?_) (fun _ _ h => absurd h id)
    obtain ⟨S6, e8, e9, h⟩ := q5
    subst e8
    subst e9
    refine cj_st (st' := []) rfl ?_
    refine cj_vret rfl dX7_generate_72 ?_
    exact ⟨_, rfl, rfl, h⟩
  · replace h := h.2 c3
    by_cases c7 : ((S.2 9) a1.toNatClampNeg) = 1
    · replace h := h.1 c7
      refine cj_tableIn (off := 60) (tgt := 73) dX7_generate_13 (by rw [c7]; decide +kernel) (by rw [c7]; decide +kernel) (by rw [c7]; decide +kernel) (by decide +kernel) ?_
      refine cj_aload_n dX7_generate_73 rfl ?_
      refine cj_pc (pc' := 74) rfl ?_
      refine cj_iconst (v := 2) dX7_generate_74 (by decide) ?_
      refine cj_aload_n dX7_generate_75 rfl ?_
      refine rm_get (.ref (ad 10)) flX7_24 dX7_generate_76 rfl ?_
      refine cj_iload_n dX7_generate_79 rfl ?_
      have i8 := h.1
      replace h := h.2
      refine rm_iald (j := 10) (x := (S.2 10) a1.toNatClampNeg) hA rfl dX7_generate_80 i8 rfl ?_
      refine cj_pc (pc' := 81) rfl ?_
      refine cj_iconst (v := 0) dX7_generate_81 (by decide) ?_
      refine cj_callV (M' := mX7_emit) (d' := 0) (k' := 0) (n' := 0) (index := 257) (np := 3) (As := [.int 2, .int ((S.2 10) a1.toNatClampNeg), .int 0]) (rest := []) dX7_generate_82 lkX7_257 mwX7_emit (tR_emit hA h) (by omega) rfl rfl (Nat.le_of_ble_eq_true rfl) rm_mo rfl (fun v9 G9 q9 => ?_) (fun _ _ h => absurd h id)
      obtain ⟨S10, e8, e9, h⟩ := q9
      subst e8
      subst e9
      refine cj_st (st' := []) rfl ?_
      refine cj_vret rfl dX7_generate_85 ?_
      exact ⟨_, rfl, rfl, h⟩
    · replace h := h.2 c7
      by_cases c11 : ((S.2 9) a1.toNatClampNeg) = 2
      · replace h := h.1 c11
        refine cj_tableIn (off := 73) (tgt := 86) dX7_generate_13 (by rw [c11]; decide +kernel) (by rw [c11]; decide +kernel) (by rw [c11]; decide +kernel) (by decide +kernel) ?_
        refine cj_aload_n dX7_generate_86 rfl ?_
        refine cj_aload_n dX7_generate_87 rfl ?_
        refine cj_pc (pc' := 88) rfl ?_
        refine rm_get (.ref (ad 10)) flX7_24 dX7_generate_88 rfl ?_
        refine cj_iload_n dX7_generate_91 rfl ?_
        have i12 := h.1
        replace h := h.2
        refine rm_iald (j := 10) (x := (S.2 10) a1.toNatClampNeg) hA rfl dX7_generate_92 i12 rfl ?_
        refine cj_iconst (v := 0) dX7_generate_93 (by decide) ?_
        refine cj_callV (M' := mX7_todoEmit) (d' := 1) (k' := 0) (n' := 0) (index := 260) (np := 2) (As := [.int ((S.2 10) a1.toNatClampNeg), .int 0]) (rest := []) dX7_generate_94 lkX7_260 mwX7_todoEmit (tR_todoEmit hA h) (by omega) rfl rfl (Nat.le_of_ble_eq_true rfl) rm_mo rfl (fun v9 G9 q13 => ?_) (fun _ _ h => absurd h id)
        obtain ⟨S14, e8, e9, h⟩ := q13
        subst e8
        subst e9
        refine cj_st (st' := []) rfl ?_
        refine cj_pc (pc' := 97) rfl ?_
        refine cj_aload_n dX7_generate_97 rfl ?_
        refine cj_aload_n dX7_generate_98 rfl ?_
        refine rm_get (.ref (ad 12)) flX7_30 dX7_generate_99 rfl ?_
        refine cj_iload_n dX7_generate_102 rfl ?_
        have i15 := h.1
        replace h := h.2
        refine rm_iald (j := 12) (x := (S14.2 12) (((S.2 11) a1.toNatClampNeg).toNatClampNeg)) hA rfl dX7_generate_103 i15 rfl ?_
        refine cj_pc (pc' := 104) rfl ?_
        refine cj_callV (M' := mX7_todoNode) (d' := 1) (k' := 0) (n' := 0) (index := 263) (np := 1) (As := [.int ((S14.2 12) (((S.2 11) a1.toNatClampNeg).toNatClampNeg))]) (rest := []) dX7_generate_104 lkX7_263 mwX7_todoNode (tR_todoNode hA h) (by omega) rfl rfl (Nat.le_of_ble_eq_true rfl) rm_mo rfl (fun v9 G9 q16 => ?_) (fun _ _ h => absurd h id)
        obtain ⟨S17, e8, e9, h⟩ := q16
        subst e8
        subst e9
        refine cj_st (st' := []) rfl ?_
        refine cj_aload_n dX7_generate_107 rfl ?_
        refine cj_iconst (v := 3) dX7_generate_108 (by decide) ?_
        refine cj_iconst (v := 0) dX7_generate_109 (by decide) ?_
        refine cj_callV (M' := mX7_todoEmit) (d' := 1) (k' := 0) (n' := 0) (index := 260) (np := 2) (As := [.int 3, .int 0]) (rest := []) dX7_generate_110 lkX7_260 mwX7_todoEmit (tR_todoEmit hA h) (by omega) rfl rfl (Nat.le_of_ble_eq_true rfl) rm_mo rfl (fun v9 G9 q18 => ?_) (fun _ _ h => absurd h id)
        obtain ⟨S19, e8, e9, h⟩ := q18
        subst e8
        subst e9
        refine cj_st (st' := []) rfl ?_
        refine cj_pc (pc' := 113) rfl ?_
        refine cj_aload_n dX7_generate_113 rfl ?_
        refine cj_iload_n dX7_generate_114 rfl ?_
        refine cj_callV (M' := mX7_todoNode) (d' := 1) (k' := 0) (n' := 0) (index := 263) (np := 1) (As := [.int ((S.2 11) a1.toNatClampNeg)]) (rest := []) dX7_generate_115 lkX7_263 mwX7_todoNode (tR_todoNode hA h) (by omega) rfl rfl (Nat.le_of_ble_eq_true rfl) rm_mo rfl (fun v9 G9 q20 => ?_) (fun _ _ h => absurd h id)
        obtain ⟨S21, e8, e9, h⟩ := q20
        subst e8
        subst e9
        refine cj_st (st' := []) rfl ?_
        refine cj_vret rfl dX7_generate_118 ?_
        exact ⟨_, rfl, rfl, h⟩
      · replace h := h.2 c11
        by_cases c22 : ((S.2 9) a1.toNatClampNeg) = 3
        · replace h := h.1 c22
          refine cj_tableIn (off := 106) (tgt := 119) dX7_generate_13 (by rw [c22]; decide +kernel) (by rw [c22]; decide +kernel) (by rw [c22]; decide +kernel) (by decide +kernel) ?_
          refine cj_iconst (v := 1) dX7_generate_119 (by decide) ?_
          refine cj_pc (pc' := 120) rfl ?_
          refine cj_istore_n (lv' := [(3, .int 1), (2, .int ((S.2 11) a1.toNatClampNeg)), (0, .ref mo), (1, .int a1)]) dX7_generate_120 (by decide) rfl ?_
          obtain ⟨n9, h⟩ := h
          refine cj_sub (lv' := [(1, .int a1), (2, .int ((S.2 11) a1.toNatClampNeg)), (3, .int 1), (0, .ref mo)]) (by simp) ?_
          refine wl_generate_121_ok hA (by omega) _ _ ?_ n9 _ _ h
          clear h
          intro w28 S27 h
          refine cj_aload_n dX7_generate_144 rfl ?_
          refine cj_iload_n dX7_generate_145 rfl ?_
          refine cj_pc (pc' := 146) rfl ?_
          refine cj_callV (M' := mX7_todoNode) (d' := 1) (k' := 0) (n' := 0) (index := 263) (np := 1) (As := [.int ((S.2 11) a1.toNatClampNeg)]) (rest := []) dX7_generate_146 lkX7_263 mwX7_todoNode (tR_todoNode hA h) (by omega) rfl rfl (Nat.le_of_ble_eq_true rfl) rm_mo rfl (fun v9 G9 q29 => ?_) (fun _ _ h => absurd h id)
          obtain ⟨S30, e8, e9, h⟩ := q29
          subst e8
          subst e9
          refine cj_st (st' := []) rfl ?_
          refine cj_aload_n dX7_generate_149 rfl ?_
          refine rm_get (.ref (ad 12)) flX7_30 dX7_generate_150 rfl ?_
          refine cj_iload_n dX7_generate_153 rfl ?_
          have i31 := h.1
          replace h := h.2
          refine rm_iald (j := 12) (x := (S30.2 12) (((S.2 11) a1.toNatClampNeg).toNatClampNeg)) hA rfl dX7_generate_154 i31 rfl ?_
          refine cj_pc (pc' := 155) rfl ?_
          refine cj_istore_n (lv' := [(3, .int ((S30.2 12) (((S.2 11) a1.toNatClampNeg).toNatClampNeg))), (1, .int a1), (2, .int ((S.2 11) a1.toNatClampNeg)), (0, .ref mo)]) dX7_generate_155 (by decide) rfl ?_
          obtain ⟨n9, h⟩ := h
          refine cj_sub (lv' := [(1, .int a1), (2, .int ((S.2 11) a1.toNatClampNeg)), (3, .int ((S30.2 12) (((S.2 11) a1.toNatClampNeg).toNatClampNeg))), (0, .ref mo)]) (by simp) ?_
          refine wl_generate_156_ok hA (by omega) _ _ ?_ n9 _ _ h
          clear h
          intro w39 S38 h
          refine cj_vret rfl dX7_generate_181 ?_
          exact ⟨_, rfl, rfl, h⟩
        · replace h := h.2 c22
          by_cases c40 : ((S.2 9) a1.toNatClampNeg) = 4
          · replace h := h.1 c40
            refine cj_tableIn (off := 169) (tgt := 182) dX7_generate_13 (by rw [c40]; decide +kernel) (by rw [c40]; decide +kernel) (by rw [c40]; decide +kernel) (by decide +kernel) ?_
            refine cj_aload_n dX7_generate_182 rfl ?_
            refine cj_iload_n dX7_generate_183 rfl ?_
            refine cj_callV (M' := mX7_generateBuilt) (d' := 2) (k' := 0) (n' := 0) (index := 266) (np := 1) (As := [.int a1]) (rest := []) dX7_generate_184 lkX7_266 mwX7_generateBuilt (tR_generateBuilt hA h) (by omega) rfl rfl (Nat.le_of_ble_eq_true rfl) rm_mo rfl (fun v9 G9 q41 => ?_) (fun _ _ h => absurd h id)
            obtain ⟨S42, e8, e9, h⟩ := q41
            subst e8
            subst e9
            refine cj_st (st' := []) rfl ?_
            refine cj_pc (pc' := 187) rfl ?_
            refine cj_vret rfl dX7_generate_187 ?_
            exact ⟨_, rfl, rfl, h⟩
          · replace h := h.2 c40
            by_cases c43 : ((S.2 9) a1.toNatClampNeg) = 5
            · replace h := h.1 c43
              refine cj_tableIn (off := 175) (tgt := 188) dX7_generate_13 (by rw [c43]; decide +kernel) (by rw [c43]; decide +kernel) (by rw [c43]; decide +kernel) (by decide +kernel) ?_
              refine cj_aload_n dX7_generate_188 rfl ?_
              refine cj_bipush (v := 9) dX7_generate_189 (by decide) ?_
              refine cj_aload_n dX7_generate_191 rfl ?_
              refine rm_get (.int (S.1 35)) flX7_247 dX7_generate_192 rfl ?_
              refine cj_pc (pc' := 195) rfl ?_
              refine cj_iconst (v := 2) dX7_generate_195 (by decide) ?_
              refine cj_iadd dX7_generate_196 ?_
              refine cj_iconst (v := 0) dX7_generate_197 (by decide) ?_
              refine cj_callV (M' := mX7_emit) (d' := 0) (k' := 0) (n' := 0) (index := 257) (np := 3) (As := [.int 9, .int ((S.1 35) + 2), .int 0]) (rest := []) dX7_generate_198 lkX7_257 mwX7_emit (tR_emit hA h) (by omega) rfl rfl (Nat.le_of_ble_eq_true rfl) rm_mo rfl (fun v9 G9 q44 => ?_) (fun _ _ h => absurd h id)
              obtain ⟨S45, e8, e9, h⟩ := q44
              subst e8
              subst e9
              refine cj_st (st' := []) rfl ?_
              refine cj_aload_n dX7_generate_201 rfl ?_
              refine cj_pc (pc' := 202) rfl ?_
              refine cj_bipush (v := 11) dX7_generate_202 (by decide) ?_
              refine cj_iconst (v := 0) dX7_generate_204 (by decide) ?_
              refine cj_iconst (v := 0) dX7_generate_205 (by decide) ?_
              refine cj_callV (M' := mX7_emit) (d' := 0) (k' := 0) (n' := 0) (index := 257) (np := 3) (As := [.int 11, .int 0, .int 0]) (rest := []) dX7_generate_206 lkX7_257 mwX7_emit (tR_emit hA h) (by omega) rfl rfl (Nat.le_of_ble_eq_true rfl) rm_mo rfl (fun v9 G9 q46 => ?_) (fun _ _ h => absurd h id)
              obtain ⟨S47, e8, e9, h⟩ := q46
              subst e8
              subst e9
              refine cj_st (st' := []) rfl ?_
              refine cj_aload_n dX7_generate_209 rfl ?_
              refine cj_pc (pc' := 210) rfl ?_
              refine cj_iconst (v := 2) dX7_generate_210 (by decide) ?_
              refine cj_aload_n dX7_generate_211 rfl ?_
              refine rm_get (.int (S47.1 35)) flX7_247 dX7_generate_212 rfl ?_
              refine cj_iconst (v := 1) dX7_generate_215 (by decide) ?_
              refine cj_isub dX7_generate_216 ?_
              refine cj_pc (pc' := 217) rfl ?_
              refine cj_iconst (v := 0) dX7_generate_217 (by decide) ?_
              refine cj_callV (M' := mX7_todo) (d' := 0) (k' := 0) (n' := 0) (index := 253) (np := 3) (As := [.int 2, .int ((S47.1 35) - 1), .int 0]) (rest := []) dX7_generate_218 lkX7_253 mwX7_todo (tR_todo hA h) (by omega) rfl rfl (Nat.le_of_ble_eq_true rfl) rm_mo rfl (fun v9 G9 q48 => ?_) (fun _ _ h => absurd h id)
              obtain ⟨S49, e8, e9, h⟩ := q48
              subst e8
              subst e9
              refine cj_st (st' := []) rfl ?_
              refine cj_aload_n dX7_generate_221 rfl ?_
              refine cj_bipush (v := 12) dX7_generate_222 (by decide) ?_
              refine cj_iconst (v := 0) dX7_generate_224 (by decide) ?_
              refine cj_pc (pc' := 225) rfl ?_
              refine cj_callV (M' := mX7_todoEmit) (d' := 1) (k' := 0) (n' := 0) (index := 260) (np := 2) (As := [.int 12, .int 0]) (rest := []) dX7_generate_225 lkX7_260 mwX7_todoEmit (tR_todoEmit hA h) (by omega) rfl rfl (Nat.le_of_ble_eq_true rfl) rm_mo rfl (fun v9 G9 q50 => ?_) (fun _ _ h => absurd h id)
              obtain ⟨S51, e8, e9, h⟩ := q50
              subst e8
              subst e9
              refine cj_st (st' := []) rfl ?_
              refine cj_aload_n dX7_generate_228 rfl ?_
              refine cj_iload_n dX7_generate_229 rfl ?_
              refine cj_callV (M' := mX7_todoNode) (d' := 1) (k' := 0) (n' := 0) (index := 263) (np := 1) (As := [.int ((S.2 11) a1.toNatClampNeg)]) (rest := []) dX7_generate_230 lkX7_263 mwX7_todoNode (tR_todoNode hA h) (by omega) rfl rfl (Nat.le_of_ble_eq_true rfl) rm_mo rfl (fun v9 G9 q52 => ?_) (fun _ _ h => absurd h id)
              obtain ⟨S53, e8, e9, h⟩ := q52
              subst e8
              subst e9
              refine cj_st (st' := []) rfl ?_
              refine cj_vret rfl dX7_generate_233 ?_
              exact ⟨_, rfl, rfl, h⟩
            · replace h := h.2 c43
              by_cases c54 : ((S.2 9) a1.toNatClampNeg) = 6
              · replace h := h.1 c54
                refine cj_tableIn (off := 221) (tgt := 234) dX7_generate_13 (by rw [c54]; decide +kernel) (by rw [c54]; decide +kernel) (by rw [c54]; decide +kernel) (by decide +kernel) ?_
                refine cj_aload_n dX7_generate_234 rfl ?_
                refine cj_pc (pc' := 235) rfl ?_
                refine cj_bipush (v := 15) dX7_generate_235 (by decide) ?_
                refine cj_iconst (v := 1) dX7_generate_237 (by decide) ?_
                refine cj_callV (M' := mX7_todoEmit) (d' := 1) (k' := 0) (n' := 0) (index := 260) (np := 2) (As := [.int 15, .int 1]) (rest := []) dX7_generate_238 lkX7_260 mwX7_todoEmit (tR_todoEmit hA h) (by omega) rfl rfl (Nat.le_of_ble_eq_true rfl) rm_mo rfl (fun v9 G9 q55 => ?_) (fun _ _ h => absurd h id)
                obtain ⟨S56, e8, e9, h⟩ := q55
                subst e8
                subst e9
                refine cj_st (st' := []) rfl ?_
                refine cj_aload_n dX7_generate_241 rfl ?_
                refine cj_aload_n dX7_generate_242 rfl ?_
                refine cj_pc (pc' := 243) rfl ?_
                refine rm_get (.ref (ad 12)) flX7_30 dX7_generate_243 rfl ?_
                refine cj_iload_n dX7_generate_246 rfl ?_
                have i57 := h.1
                replace h := h.2
                refine rm_iald (j := 12) (x := (S56.2 12) (((S.2 11) a1.toNatClampNeg).toNatClampNeg)) hA rfl dX7_generate_247 i57 rfl ?_
                refine cj_callV (M' := mX7_todoNode) (d' := 1) (k' := 0) (n' := 0) (index := 263) (np := 1) (As := [.int ((S56.2 12) (((S.2 11) a1.toNatClampNeg).toNatClampNeg))]) (rest := []) dX7_generate_248 lkX7_263 mwX7_todoNode (tR_todoNode hA h) (by omega) rfl rfl (Nat.le_of_ble_eq_true rfl) rm_mo rfl (fun v9 G9 q58 => ?_) (fun _ _ h => absurd h id)
                obtain ⟨S59, e8, e9, h⟩ := q58
                subst e8
                subst e9
                refine cj_st (st' := []) rfl ?_
                refine cj_aload_n dX7_generate_251 rfl ?_
                refine cj_pc (pc' := 252) rfl ?_
                refine cj_bipush (v := 14) dX7_generate_252 (by decide) ?_
                refine cj_iconst (v := 0) dX7_generate_254 (by decide) ?_
                refine cj_callV (M' := mX7_todoEmit) (d' := 1) (k' := 0) (n' := 0) (index := 260) (np := 2) (As := [.int 14, .int 0]) (rest := []) dX7_generate_255 lkX7_260 mwX7_todoEmit (tR_todoEmit hA h) (by omega) rfl rfl (Nat.le_of_ble_eq_true rfl) rm_mo rfl (fun v9 G9 q60 => ?_) (fun _ _ h => absurd h id)
                obtain ⟨S61, e8, e9, h⟩ := q60
                subst e8
                subst e9
                refine cj_st (st' := []) rfl ?_
                refine cj_aload_n dX7_generate_258 rfl ?_
                refine cj_iload_n dX7_generate_259 rfl ?_
                refine cj_pc (pc' := 260) rfl ?_
                refine cj_callV (M' := mX7_todoNode) (d' := 1) (k' := 0) (n' := 0) (index := 263) (np := 1) (As := [.int ((S.2 11) a1.toNatClampNeg)]) (rest := []) dX7_generate_260 lkX7_263 mwX7_todoNode (tR_todoNode hA h) (by omega) rfl rfl (Nat.le_of_ble_eq_true rfl) rm_mo rfl (fun v9 G9 q62 => ?_) (fun _ _ h => absurd h id)
                obtain ⟨S63, e8, e9, h⟩ := q62
                subst e8
                subst e9
                refine cj_st (st' := []) rfl ?_
                refine cj_vret rfl dX7_generate_263 ?_
                exact ⟨_, rfl, rfl, h⟩
              · replace h := h.2 c54
                by_cases c64 : ((S.2 9) a1.toNatClampNeg) = 7
                · replace h := h.1 c64
                  refine cj_tableIn (off := 251) (tgt := 264) dX7_generate_13 (by rw [c64]; decide +kernel) (by rw [c64]; decide +kernel) (by rw [c64]; decide +kernel) (by decide +kernel) ?_
                  refine cj_aload_n dX7_generate_264 rfl ?_
                  refine cj_bipush (v := 10) dX7_generate_265 (by decide) ?_
                  refine cj_aload_n dX7_generate_267 rfl ?_
                  refine cj_pc (pc' := 268) rfl ?_
                  refine rm_get (.int (S.1 35)) flX7_247 dX7_generate_268 rfl ?_
                  refine cj_iconst (v := 2) dX7_generate_271 (by decide) ?_
                  refine cj_iadd dX7_generate_272 ?_
                  refine cj_iconst (v := 0) dX7_generate_273 (by decide) ?_
                  refine cj_callV (M' := mX7_emit) (d' := 0) (k' := 0) (n' := 0) (index := 257) (np := 3) (As := [.int 10, .int ((S.1 35) + 2), .int 0]) (rest := []) dX7_generate_274 lkX7_257 mwX7_emit (tR_emit hA h) (by omega) rfl rfl (Nat.le_of_ble_eq_true rfl) rm_mo rfl (fun v9 G9 q65 => ?_) (fun _ _ h => absurd h id)
                  obtain ⟨S66, e8, e9, h⟩ := q65
                  subst e8
                  subst e9
                  refine cj_st (st' := []) rfl ?_
                  refine cj_pc (pc' := 277) rfl ?_
                  refine cj_aload_n dX7_generate_277 rfl ?_
                  refine cj_bipush (v := 11) dX7_generate_278 (by decide) ?_
                  refine cj_iconst (v := 0) dX7_generate_280 (by decide) ?_
                  refine cj_iconst (v := 0) dX7_generate_281 (by decide) ?_
                  refine cj_callV (M' := mX7_emit) (d' := 0) (k' := 0) (n' := 0) (index := 257) (np := 3) (As := [.int 11, .int 0, .int 0]) (rest := []) dX7_generate_282 lkX7_257 mwX7_emit (tR_emit hA h) (by omega) rfl rfl (Nat.le_of_ble_eq_true rfl) rm_mo rfl (fun v9 G9 q67 => ?_) (fun _ _ h => absurd h id)
                  obtain ⟨S68, e8, e9, h⟩ := q67
                  subst e8
                  subst e9
                  refine cj_st (st' := []) rfl ?_
                  refine cj_pc (pc' := 285) rfl ?_
                  refine cj_aload_n dX7_generate_285 rfl ?_
                  refine rm_get (.int (S68.1 35)) flX7_247 dX7_generate_286 rfl ?_
                  refine cj_iconst (v := 1) dX7_generate_289 (by decide) ?_
                  refine cj_isub dX7_generate_290 ?_
                  refine cj_istore_n (lv' := [(3, .int ((S68.1 35) - 1)), (2, .int ((S.2 11) a1.toNatClampNeg)), (0, .ref mo), (1, .int a1)]) dX7_generate_291 (by decide) rfl ?_
                  refine cj_pc (pc' := 292) rfl ?_
                  refine cj_aload_n dX7_generate_292 rfl ?_
                  refine cj_bipush (v := 15) dX7_generate_293 (by decide) ?_
                  refine cj_iconst (v := 1) dX7_generate_295 (by decide) ?_
                  refine cj_callV (M' := mX7_todoEmit) (d' := 1) (k' := 0) (n' := 0) (index := 260) (np := 2) (As := [.int 15, .int 1]) (rest := []) dX7_generate_296 lkX7_260 mwX7_todoEmit (tR_todoEmit hA h) (by omega) rfl rfl (Nat.le_of_ble_eq_true rfl) rm_mo rfl (fun v9 G9 q69 => ?_) (fun _ _ h => absurd h id)
                  obtain ⟨S70, e8, e9, h⟩ := q69
                  subst e8
                  subst e9
                  refine cj_st (st' := []) rfl ?_
                  refine cj_aload_n dX7_generate_299 rfl ?_
                  refine cj_pc (pc' := 300) rfl ?_
                  refine cj_aload_n dX7_generate_300 rfl ?_
                  refine rm_get (.ref (ad 12)) flX7_30 dX7_generate_301 rfl ?_
                  refine cj_iload_n dX7_generate_304 rfl ?_
                  have i71 := h.1
                  replace h := h.2
                  refine rm_iald (j := 12) (x := (S70.2 12) (((S.2 11) a1.toNatClampNeg).toNatClampNeg)) hA rfl dX7_generate_305 i71 rfl ?_
                  refine cj_callV (M' := mX7_todoNode) (d' := 1) (k' := 0) (n' := 0) (index := 263) (np := 1) (As := [.int ((S70.2 12) (((S.2 11) a1.toNatClampNeg).toNatClampNeg))]) (rest := []) dX7_generate_306 lkX7_263 mwX7_todoNode (tR_todoNode hA h) (by omega) rfl rfl (Nat.le_of_ble_eq_true rfl) rm_mo rfl (fun v9 G9 q72 => ?_) (fun _ _ h => absurd h id)
                  obtain ⟨S73, e8, e9, h⟩ := q72
                  subst e8
                  subst e9
                  refine cj_st (st' := []) rfl ?_
                  refine cj_pc (pc' := 309) rfl ?_
                  refine cj_aload_n dX7_generate_309 rfl ?_
                  refine cj_bipush (v := 14) dX7_generate_310 (by decide) ?_
                  refine cj_iconst (v := 0) dX7_generate_312 (by decide) ?_
                  refine cj_callV (M' := mX7_todoEmit) (d' := 1) (k' := 0) (n' := 0) (index := 260) (np := 2) (As := [.int 14, .int 0]) (rest := []) dX7_generate_313 lkX7_260 mwX7_todoEmit (tR_todoEmit hA h) (by omega) rfl rfl (Nat.le_of_ble_eq_true rfl) rm_mo rfl (fun v9 G9 q74 => ?_) (fun _ _ h => absurd h id)
                  obtain ⟨S75, e8, e9, h⟩ := q74
                  subst e8
                  subst e9
                  refine cj_st (st' := []) rfl ?_
                  refine cj_aload_n dX7_generate_316 rfl ?_
                  refine cj_pc (pc' := 317) rfl ?_
                  refine cj_iconst (v := 2) dX7_generate_317 (by decide) ?_
                  refine cj_iload_n dX7_generate_318 rfl ?_
                  refine cj_iconst (v := 0) dX7_generate_319 (by decide) ?_
                  refine cj_callV (M' := mX7_todo) (d' := 0) (k' := 0) (n' := 0) (index := 253) (np := 3) (As := [.int 2, .int ((S68.1 35) - 1), .int 0]) (rest := []) dX7_generate_320 lkX7_253 mwX7_todo (tR_todo hA h) (by omega) rfl rfl (Nat.le_of_ble_eq_true rfl) rm_mo rfl (fun v9 G9 q76 => ?_) (fun _ _ h => absurd h id)
                  obtain ⟨S77, e8, e9, h⟩ := q76
                  subst e8
                  subst e9
                  refine cj_st (st' := []) rfl ?_
                  refine cj_aload_n dX7_generate_323 rfl ?_
                  refine cj_pc (pc' := 324) rfl ?_
                  refine cj_bipush (v := 12) dX7_generate_324 (by decide) ?_
                  refine cj_iconst (v := 0) dX7_generate_326 (by decide) ?_
                  refine cj_callV (M' := mX7_todoEmit) (d' := 1) (k' := 0) (n' := 0) (index := 260) (np := 2) (As := [.int 12, .int 0]) (rest := []) dX7_generate_327 lkX7_260 mwX7_todoEmit (tR_todoEmit hA h) (by omega) rfl rfl (Nat.le_of_ble_eq_true rfl) rm_mo rfl (fun v9 G9 q78 => ?_) (fun _ _ h => absurd h id)
                  obtain ⟨S79, e8, e9, h⟩ := q78
                  subst e8
                  subst e9
                  refine cj_st (st' := []) rfl ?_
                  refine cj_aload_n dX7_generate_330 rfl ?_
                  refine cj_iload_n dX7_generate_331 rfl ?_
                  refine cj_pc (pc' := 332) rfl ?_
                  refine cj_callV (M' := mX7_todoNode) (d' := 1) (k' := 0) (n' := 0) (index := 263) (np := 1) (As := [.int ((S.2 11) a1.toNatClampNeg)]) (rest := []) dX7_generate_332 lkX7_263 mwX7_todoNode (tR_todoNode hA h) (by omega) rfl rfl (Nat.le_of_ble_eq_true rfl) rm_mo rfl (fun v9 G9 q80 => ?_) (fun _ _ h => absurd h id)
                  obtain ⟨S81, e8, e9, h⟩ := q80
                  subst e8
                  subst e9
                  refine cj_st (st' := []) rfl ?_
                  refine cj_vret rfl dX7_generate_335 ?_
                  exact ⟨_, rfl, rfl, h⟩
                · replace h := h.2 c64
                  refine cj_tableOut (tgt := 336) dX7_generate_13 (by have h9_0 := rm_sw (k := 0) (by decide) c3; have h9_1 := rm_sw (k := 1) (by decide) c7; have h9_2 := rm_sw (k := 2) (by decide) c11; have h9_3 := rm_sw (k := 3) (by decide) c22; have h9_4 := rm_sw (k := 4) (by decide) c40; have h9_5 := rm_sw (k := 5) (by decide) c43; have h9_6 := rm_sw (k := 6) (by decide) c54; have h9_7 := rm_sw (k := 7) (by decide) c64; omega) (by decide +kernel) ?_
                  refine cj_aload_n dX7_generate_336 rfl ?_
                  refine cj_iconst (v := 3) dX7_generate_337 (by decide) ?_
                  refine cj_iload_n dX7_generate_338 rfl ?_
                  refine cj_pc (pc' := 339) rfl ?_
                  refine cj_iconst (v := 0) dX7_generate_339 (by decide) ?_
                  refine cj_callV (M' := mX7_todo) (d' := 0) (k' := 0) (n' := 0) (index := 253) (np := 3) (As := [.int 3, .int a1, .int 0]) (rest := []) dX7_generate_340 lkX7_253 mwX7_todo (tR_todo hA h) (by omega) rfl rfl (Nat.le_of_ble_eq_true rfl) rm_mo rfl (fun v9 G9 q82 => ?_) (fun _ _ h => absurd h id)
                  obtain ⟨S83, e8, e9, h⟩ := q82
                  subst e8
                  subst e9
                  refine cj_st (st' := []) rfl ?_
                  refine cj_aload_n dX7_generate_343 rfl ?_
                  refine cj_iload_n dX7_generate_344 rfl ?_
                  refine cj_callV (M' := mX7_todoNode) (d' := 1) (k' := 0) (n' := 0) (index := 263) (np := 1) (As := [.int ((S.2 11) a1.toNatClampNeg)]) (rest := []) dX7_generate_345 lkX7_263 mwX7_todoNode (tR_todoNode hA h) (by omega) rfl rfl (Nat.le_of_ble_eq_true rfl) rm_mo rfl (fun v9 G9 q84 => ?_) (fun _ _ h => absurd h id)
                  obtain ⟨S85, e8, e9, h⟩ := q84
                  subst e8
                  subst e9
                  refine cj_st (st' := []) rfl ?_
                  refine cj_pc (pc' := 348) rfl ?_
                  refine cj_vret rfl dX7_generate_348 ?_
                  exact ⟨_, rfl, rfl, h⟩
def wl_generateSwitch_25 (v1 : Int32) (v2 : Int32) (v3 : Int32) (Q : rm_S → Prop) (K : Int32 → rm_S → Prop) : Nat → Int32 → rm_S → Prop
  | 0, _, _ => False
  | n + 1, v4, S => ((v2 < v4 → K v4 S) ∧ (¬ v2 < v4 → wp_childAt S v1 v4 (fun x6 S7 => (vp_in x6 300 ∧ wp_emit S7 19 ((S7.2 10) x6.toNatClampNeg) 0 (fun S10 => wl_generateSwitch_25 v1 v2 v3 Q K n (v4 + 1) S10)))))
def wl_generateSwitch_81 (v1 : Int32) (v2 : Int32) (v3 : Int32) (Q : rm_S → Prop) (K : Int32 → rm_S → Prop) : Nat → Int32 → rm_S → Prop
  | 0, _, _ => False
  | n + 1, v4, S => ((v4 < 1 → K v4 S) ∧ (¬ v4 < 1 → wp_childAt S v1 v4 (fun x19 S20 => wp_todo S20 5 x19 v1 (fun S22 => wp_childAt S22 v1 v4 (fun x24 S25 => (vp_in x24 300 ∧ wp_todoNode S25 ((S25.2 11) x24.toNatClampNeg) (fun S28 => wp_childAt S28 v1 v4 (fun x30 S31 => wp_todo S31 4 x30 ((v3 + v4) - 1) (fun S33 => wl_generateSwitch_81 v1 v2 v3 Q K n (v4 + (-1)) S33)))))))))
def wp_generateSwitch (S : rm_S) (a1 : Int32) (Q : rm_S → Prop) : Prop := (vp_in a1 300 ∧ wp_emit S 18 (((S.2 13) a1.toNatClampNeg) - 1) 0 (fun S3 => (∃ n9 : Nat, wl_generateSwitch_25 a1 (((S.2 13) a1.toNatClampNeg) - 1) (S3.1 35) Q (fun w12 S11 => (vp_in a1 300 ∧ (vp_in a1 300 ∧ wp_todo (rm_pa (rm_pa S11 14 a1.toNatClampNeg 0) 10 a1.toNatClampNeg (-1)) 6 a1 0 (fun S16 => (∃ n9 : Nat, wl_generateSwitch_81 a1 (((S.2 13) a1.toNatClampNeg) - 1) (S3.1 35) Q (fun w35 S34 => Q S34) n9 (((S.2 13) a1.toNatClampNeg) - 1) S16))))) n9 1 S3)))
set_option maxHeartbeats 4000000 in
set_option maxRecDepth 100000 in
theorem wl_generateSwitch_25_ok {mo : Nat} {ad : Nat → Nat} (hA : rm_A mo ad) {G0 : cj_G} {d k0 n0 k n9 : Nat} (hd9 : 2 ≤ d) (v1 : Int32) (v2 : Int32) (v3 : Int32) {Q : rm_S → Prop} {K : Int32 → rm_S → Prop} (hK : ∀ (v4 : Int32) (S : rm_S), K v4 S → cj_J mX7_generateSwitch d k0 n0 (rm_post mo ad G0 Q) cj_no k n9 56 [(1, .int v1), (2, .int v2), (3, .int v3), (4, .int v4), (0, .ref mo)] [] (rm_md mo ad S G0)) : ∀ (n : Nat) (v4 : Int32) (S : rm_S), wl_generateSwitch_25 v1 v2 v3 Q K n v4 S → cj_J mX7_generateSwitch d k0 n0 (rm_post mo ad G0 Q) cj_no k n9 25 [(1, .int v1), (2, .int v2), (3, .int v3), (4, .int v4), (0, .ref mo)] [] (rm_md mo ad S G0) := by
  intro n
  induction n with
  | zero => intro v4 S h; exact absurd h id
  | succ n ih =>
    intro v4 S h
    unfold wl_generateSwitch_25 at h
    refine cj_iload dX7_generateSwitch_25 rfl ?_
    refine cj_iload_n dX7_generateSwitch_27 rfl ?_
    refine cj_pc (pc' := 28) rfl ?_
    refine cj_icmp_gt (tgt := 56) dX7_generateSwitch_28 (by decide) (fun c4 => ?_) (fun c4 => ?_)
    · replace h := h.1 c4
      refine cj_sub (lv' := [(1, .int v1), (2, .int v2), (3, .int v3), (4, .int v4), (0, .ref mo)]) (by simp) ?_
      exact hK _ _ h
    · replace h := h.2 c4
      refine cj_aload_n dX7_generateSwitch_31 rfl ?_
      refine cj_bipush (v := 19) dX7_generateSwitch_32 (by decide) ?_
      refine cj_aload_n dX7_generateSwitch_34 rfl ?_
      refine rm_get (.ref (ad 10)) flX7_24 dX7_generateSwitch_35 rfl ?_
      refine cj_pc (pc' := 38) rfl ?_
      refine cj_aload_n dX7_generateSwitch_38 rfl ?_
      refine cj_iload_n dX7_generateSwitch_39 rfl ?_
      refine cj_iload dX7_generateSwitch_40 rfl ?_
      refine cj_callV (M' := mX7_childAt) (d' := 0) (k' := 0) (n' := 0) (index := 220) (np := 2) (As := [.int v1, .int v4]) (rest := [.ref (ad 10), .int 19, .ref mo]) dX7_generateSwitch_42 lkX7_220 mwX7_childAt (tR_childAt hA h) (by omega) rfl rfl (Nat.le_of_ble_eq_true rfl) rm_mo rfl (fun v9 G9 q5 => ?_) (fun _ _ h => absurd h id)
      obtain ⟨x6, S7, e8, e9, h⟩ := q5
      subst e8
      subst e9
      refine cj_st (st' := [.int x6, .ref (ad 10), .int 19, .ref mo]) rfl ?_
      have i8 := h.1
      replace h := h.2
      refine rm_iald (j := 10) (x := (S7.2 10) x6.toNatClampNeg) hA rfl dX7_generateSwitch_45 i8 rfl ?_
      refine cj_pc (pc' := 46) rfl ?_
      refine cj_iconst (v := 0) dX7_generateSwitch_46 (by decide) ?_
      refine cj_callV (M' := mX7_emit) (d' := 0) (k' := 0) (n' := 0) (index := 257) (np := 3) (As := [.int 19, .int ((S7.2 10) x6.toNatClampNeg), .int 0]) (rest := []) dX7_generateSwitch_47 lkX7_257 mwX7_emit (tR_emit hA h) (by omega) rfl rfl (Nat.le_of_ble_eq_true rfl) rm_mo rfl (fun v9 G9 q9 => ?_) (fun _ _ h => absurd h id)
      obtain ⟨S10, e8, e9, h⟩ := q9
      subst e8
      subst e9
      refine cj_st (st' := []) rfl ?_
      refine cj_iinc (v := v4 + 1) (lv' := [(4, .int (v4 + 1)), (1, .int v1), (2, .int v2), (3, .int v3), (0, .ref mo)]) dX7_generateSwitch_50 rfl rfl (by decide) rfl ?_
      refine cj_goto (tgt := 25) dX7_generateSwitch_53 (by decide) ?_
      refine cj_sub (lv' := [(1, .int v1), (2, .int v2), (3, .int v3), (4, .int (v4 + 1)), (0, .ref mo)]) (by simp) ?_
      exact ih _ _ h
set_option maxHeartbeats 4000000 in
set_option maxRecDepth 100000 in
theorem wl_generateSwitch_81_ok {mo : Nat} {ad : Nat → Nat} (hA : rm_A mo ad) {G0 : cj_G} {d k0 n0 k n9 : Nat} (hd9 : 2 ≤ d) (v1 : Int32) (v2 : Int32) (v3 : Int32) {Q : rm_S → Prop} {K : Int32 → rm_S → Prop} (hK : ∀ (v4 : Int32) (S : rm_S), K v4 S → cj_J mX7_generateSwitch d k0 n0 (rm_post mo ad G0 Q) cj_no k n9 140 [(1, .int v1), (2, .int v2), (3, .int v3), (4, .int v4), (0, .ref mo)] [] (rm_md mo ad S G0)) : ∀ (n : Nat) (v4 : Int32) (S : rm_S), wl_generateSwitch_81 v1 v2 v3 Q K n v4 S → cj_J mX7_generateSwitch d k0 n0 (rm_post mo ad G0 Q) cj_no k n9 81 [(1, .int v1), (2, .int v2), (3, .int v3), (4, .int v4), (0, .ref mo)] [] (rm_md mo ad S G0) := by
  intro n
  induction n with
  | zero => intro v4 S h; exact absurd h id
  | succ n ih =>
    intro v4 S h
    unfold wl_generateSwitch_81 at h
    refine cj_iload dX7_generateSwitch_81 rfl ?_
    refine cj_iconst (v := 1) dX7_generateSwitch_83 (by decide) ?_
    refine cj_icmp_lt (tgt := 140) dX7_generateSwitch_84 (by decide) (fun c17 => ?_) (fun c17 => ?_)
    · replace h := h.1 c17
      refine cj_sub (lv' := [(1, .int v1), (2, .int v2), (3, .int v3), (4, .int v4), (0, .ref mo)]) (by simp) ?_
      exact hK _ _ h
    · replace h := h.2 c17
      refine cj_aload_n dX7_generateSwitch_87 rfl ?_
      refine cj_pc (pc' := 88) rfl ?_
      refine cj_iconst (v := 5) dX7_generateSwitch_88 (by decide) ?_
      refine cj_aload_n dX7_generateSwitch_89 rfl ?_
      refine cj_iload_n dX7_generateSwitch_90 rfl ?_
      refine cj_iload dX7_generateSwitch_91 rfl ?_
      refine cj_callV (M' := mX7_childAt) (d' := 0) (k' := 0) (n' := 0) (index := 220) (np := 2) (As := [.int v1, .int v4]) (rest := [.int 5, .ref mo]) dX7_generateSwitch_93 lkX7_220 mwX7_childAt (tR_childAt hA h) (by omega) rfl rfl (Nat.le_of_ble_eq_true rfl) rm_mo rfl (fun v9 G9 q18 => ?_) (fun _ _ h => absurd h id)
      obtain ⟨x19, S20, e8, e9, h⟩ := q18
      subst e8
      subst e9
      refine cj_st (st' := [.int x19, .int 5, .ref mo]) rfl ?_
      refine cj_pc (pc' := 96) rfl ?_
      refine cj_iload_n dX7_generateSwitch_96 rfl ?_
      refine cj_callV (M' := mX7_todo) (d' := 0) (k' := 0) (n' := 0) (index := 253) (np := 3) (As := [.int 5, .int x19, .int v1]) (rest := []) dX7_generateSwitch_97 lkX7_253 mwX7_todo (tR_todo hA h) (by omega) rfl rfl (Nat.le_of_ble_eq_true rfl) rm_mo rfl (fun v9 G9 q21 => ?_) (fun _ _ h => absurd h id)
      obtain ⟨S22, e8, e9, h⟩ := q21
      subst e8
      subst e9
      refine cj_st (st' := []) rfl ?_
      refine cj_aload_n dX7_generateSwitch_100 rfl ?_
      refine cj_aload_n dX7_generateSwitch_101 rfl ?_
      refine rm_get (.ref (ad 11)) flX7_27 dX7_generateSwitch_102 rfl ?_
      refine cj_pc (pc' := 105) rfl ?_
      refine cj_aload_n dX7_generateSwitch_105 rfl ?_
      refine cj_iload_n dX7_generateSwitch_106 rfl ?_
      refine cj_iload dX7_generateSwitch_107 rfl ?_
      refine cj_callV (M' := mX7_childAt) (d' := 0) (k' := 0) (n' := 0) (index := 220) (np := 2) (As := [.int v1, .int v4]) (rest := [.ref (ad 11), .ref mo]) dX7_generateSwitch_109 lkX7_220 mwX7_childAt (tR_childAt hA h) (by omega) rfl rfl (Nat.le_of_ble_eq_true rfl) rm_mo rfl (fun v9 G9 q23 => ?_) (fun _ _ h => absurd h id)
      obtain ⟨x24, S25, e8, e9, h⟩ := q23
      subst e8
      subst e9
      refine cj_st (st' := [.int x24, .ref (ad 11), .ref mo]) rfl ?_
      have i26 := h.1
      replace h := h.2
      refine rm_iald (j := 11) (x := (S25.2 11) x24.toNatClampNeg) hA rfl dX7_generateSwitch_112 i26 rfl ?_
      refine cj_pc (pc' := 113) rfl ?_
      refine cj_callV (M' := mX7_todoNode) (d' := 1) (k' := 0) (n' := 0) (index := 263) (np := 1) (As := [.int ((S25.2 11) x24.toNatClampNeg)]) (rest := []) dX7_generateSwitch_113 lkX7_263 mwX7_todoNode (tR_todoNode hA h) (by omega) rfl rfl (Nat.le_of_ble_eq_true rfl) rm_mo rfl (fun v9 G9 q27 => ?_) (fun _ _ h => absurd h id)
      obtain ⟨S28, e8, e9, h⟩ := q27
      subst e8
      subst e9
      refine cj_st (st' := []) rfl ?_
      refine cj_aload_n dX7_generateSwitch_116 rfl ?_
      refine cj_iconst (v := 4) dX7_generateSwitch_117 (by decide) ?_
      refine cj_aload_n dX7_generateSwitch_118 rfl ?_
      refine cj_iload_n dX7_generateSwitch_119 rfl ?_
      refine cj_pc (pc' := 120) rfl ?_
      refine cj_iload dX7_generateSwitch_120 rfl ?_
      refine cj_callV (M' := mX7_childAt) (d' := 0) (k' := 0) (n' := 0) (index := 220) (np := 2) (As := [.int v1, .int v4]) (rest := [.int 4, .ref mo]) dX7_generateSwitch_122 lkX7_220 mwX7_childAt (tR_childAt hA h) (by omega) rfl rfl (Nat.le_of_ble_eq_true rfl) rm_mo rfl (fun v9 G9 q29 => ?_) (fun _ _ h => absurd h id)
      obtain ⟨x30, S31, e8, e9, h⟩ := q29
      subst e8
      subst e9
      refine cj_st (st' := [.int x30, .int 4, .ref mo]) rfl ?_
      refine cj_iload_n dX7_generateSwitch_125 rfl ?_
      refine cj_iload dX7_generateSwitch_126 rfl ?_
      refine cj_iadd dX7_generateSwitch_128 ?_
      refine cj_pc (pc' := 129) rfl ?_
      refine cj_iconst (v := 1) dX7_generateSwitch_129 (by decide) ?_
      refine cj_isub dX7_generateSwitch_130 ?_
      refine cj_callV (M' := mX7_todo) (d' := 0) (k' := 0) (n' := 0) (index := 253) (np := 3) (As := [.int 4, .int x30, .int ((v3 + v4) - 1)]) (rest := []) dX7_generateSwitch_131 lkX7_253 mwX7_todo (tR_todo hA h) (by omega) rfl rfl (Nat.le_of_ble_eq_true rfl) rm_mo rfl (fun v9 G9 q32 => ?_) (fun _ _ h => absurd h id)
      obtain ⟨S33, e8, e9, h⟩ := q32
      subst e8
      subst e9
      refine cj_st (st' := []) rfl ?_
      refine cj_iinc (v := v4 + (-1)) (lv' := [(4, .int (v4 + (-1))), (1, .int v1), (2, .int v2), (3, .int v3), (0, .ref mo)]) dX7_generateSwitch_134 rfl rfl (by decide) rfl ?_
      refine cj_goto (tgt := 81) dX7_generateSwitch_137 (by decide) ?_
      refine cj_sub (lv' := [(1, .int v1), (2, .int v2), (3, .int v3), (4, .int (v4 + (-1))), (0, .ref mo)]) (by simp) ?_
      exact ih _ _ h
set_option maxHeartbeats 4000000 in
set_option maxRecDepth 100000 in
theorem tR_generateSwitch {mo : Nat} {ad : Nat → Nat} (hA : rm_A mo ad) {G0 : cj_G} {S : rm_S} {a1 : Int32} {Q : rm_S → Prop} (h : wp_generateSwitch S a1 Q) : cj_T mX7_generateSwitch 2 0 0 [.ref mo, .int a1] (rm_md mo ad S G0) (rm_post mo ad G0 Q) cj_no := by
  refine cj_T_of (by decide +kernel) (Nat.le_of_ble_eq_true rfl) ?_
  refine cj_lvs (lv' := [(0, .ref mo), (1, .int a1)]) rfl ?_
  unfold wp_generateSwitch at h
  refine cj_aload_n dX7_generateSwitch_0 rfl ?_
  refine rm_get (.ref (ad 13)) flX7_33 dX7_generateSwitch_1 rfl ?_
  refine cj_iload_n dX7_generateSwitch_4 rfl ?_
  have i1 := h.1
  replace h := h.2
  refine rm_iald (j := 13) (x := (S.2 13) a1.toNatClampNeg) hA rfl dX7_generateSwitch_5 i1 rfl ?_
  refine cj_pc (pc' := 6) rfl ?_
  refine cj_iconst (v := 1) dX7_generateSwitch_6 (by decide) ?_
  refine cj_isub dX7_generateSwitch_7 ?_
  refine cj_istore_n (lv' := [(2, .int (((S.2 13) a1.toNatClampNeg) - 1)), (0, .ref mo), (1, .int a1)]) dX7_generateSwitch_8 (by decide) rfl ?_
  refine cj_aload_n dX7_generateSwitch_9 rfl ?_
  refine cj_bipush (v := 18) dX7_generateSwitch_10 (by decide) ?_
  refine cj_pc (pc' := 12) rfl ?_
  refine cj_iload_n dX7_generateSwitch_12 rfl ?_
  refine cj_iconst (v := 0) dX7_generateSwitch_13 (by decide) ?_
  refine cj_callV (M' := mX7_emit) (d' := 0) (k' := 0) (n' := 0) (index := 257) (np := 3) (As := [.int 18, .int (((S.2 13) a1.toNatClampNeg) - 1), .int 0]) (rest := []) dX7_generateSwitch_14 lkX7_257 mwX7_emit (tR_emit hA h) (by omega) rfl rfl (Nat.le_of_ble_eq_true rfl) rm_mo rfl (fun v9 G9 q2 => ?_) (fun _ _ h => absurd h id)
  obtain ⟨S3, e8, e9, h⟩ := q2
  subst e8
  subst e9
  refine cj_st (st' := []) rfl ?_
  refine cj_aload_n dX7_generateSwitch_17 rfl ?_
  refine rm_get (.int (S3.1 35)) flX7_247 dX7_generateSwitch_18 rfl ?_
  refine cj_pc (pc' := 21) rfl ?_
  refine cj_istore_n (lv' := [(3, .int (S3.1 35)), (2, .int (((S.2 13) a1.toNatClampNeg) - 1)), (0, .ref mo), (1, .int a1)]) dX7_generateSwitch_21 (by decide) rfl ?_
  refine cj_iconst (v := 1) dX7_generateSwitch_22 (by decide) ?_
  refine cj_istore (lv' := [(4, .int 1), (3, .int (S3.1 35)), (2, .int (((S.2 13) a1.toNatClampNeg) - 1)), (0, .ref mo), (1, .int a1)]) dX7_generateSwitch_23 (by decide) rfl ?_
  obtain ⟨n9, h⟩ := h
  refine cj_sub (lv' := [(1, .int a1), (2, .int (((S.2 13) a1.toNatClampNeg) - 1)), (3, .int (S3.1 35)), (4, .int 1), (0, .ref mo)]) (by simp) ?_
  refine wl_generateSwitch_25_ok hA (by omega) _ _ _ ?_ n9 _ _ h
  clear h
  intro w12 S11 h
  refine cj_aload_n dX7_generateSwitch_56 rfl ?_
  refine cj_pc (pc' := 57) rfl ?_
  refine rm_get (.ref (ad 14)) flX7_36 dX7_generateSwitch_57 rfl ?_
  refine cj_iload_n dX7_generateSwitch_60 rfl ?_
  refine cj_iconst (v := 0) dX7_generateSwitch_61 (by decide) ?_
  have i13 := h.1
  replace h := h.2
  refine rm_zast (j := 14) hA rfl dX7_generateSwitch_62 i13 ?_
  refine cj_eqG (G' := rm_md mo ad (rm_pa S11 14 a1.toNatClampNeg 0) G0) rfl ?_
  refine cj_aload_n dX7_generateSwitch_63 rfl ?_
  refine cj_pc (pc' := 64) rfl ?_
  refine rm_get (.ref (ad 10)) flX7_24 dX7_generateSwitch_64 rfl ?_
  refine cj_iload_n dX7_generateSwitch_67 rfl ?_
  refine cj_iconst (v := (-1)) dX7_generateSwitch_68 (by decide) ?_
  have i14 := h.1
  replace h := h.2
  refine rm_iast (j := 10) hA rfl dX7_generateSwitch_69 i14 ?_
  refine cj_aload_n dX7_generateSwitch_70 rfl ?_
  refine cj_pc (pc' := 71) rfl ?_
  refine cj_bipush (v := 6) dX7_generateSwitch_71 (by decide) ?_
  refine cj_iload_n dX7_generateSwitch_73 rfl ?_
  refine cj_iconst (v := 0) dX7_generateSwitch_74 (by decide) ?_
  refine cj_callV (M' := mX7_todo) (d' := 0) (k' := 0) (n' := 0) (index := 253) (np := 3) (As := [.int 6, .int a1, .int 0]) (rest := []) dX7_generateSwitch_75 lkX7_253 mwX7_todo (tR_todo hA h) (by omega) rfl rfl (Nat.le_of_ble_eq_true rfl) rm_mo rfl (fun v9 G9 q15 => ?_) (fun _ _ h => absurd h id)
  obtain ⟨S16, e8, e9, h⟩ := q15
  subst e8
  subst e9
  refine cj_st (st' := []) rfl ?_
  refine cj_iload_n dX7_generateSwitch_78 rfl ?_
  refine cj_pc (pc' := 79) rfl ?_
  refine cj_istore (lv' := [(4, .int (((S.2 13) a1.toNatClampNeg) - 1)), (1, .int a1), (2, .int (((S.2 13) a1.toNatClampNeg) - 1)), (3, .int (S3.1 35)), (0, .ref mo)]) dX7_generateSwitch_79 (by decide) rfl ?_
  obtain ⟨n9, h⟩ := h
  refine cj_sub (lv' := [(1, .int a1), (2, .int (((S.2 13) a1.toNatClampNeg) - 1)), (3, .int (S3.1 35)), (4, .int (((S.2 13) a1.toNatClampNeg) - 1)), (0, .ref mo)]) (by simp) ?_
  refine wl_generateSwitch_81_ok hA (by omega) _ _ _ ?_ n9 _ _ h
  clear h
  intro w35 S34 h
  refine cj_vret rfl dX7_generateSwitch_140 ?_
  exact ⟨_, rfl, rfl, h⟩
def wl_endMatch_7 (v1 : Int32) (Q : rm_S → Prop) (K : Int32 → rm_S → Prop) : Nat → Int32 → rm_S → Prop
  | 0, _, _ => False
  | n + 1, v2, S => ((v2 < 0 → K v2 S) ∧ (¬ v2 < 0 → ((121 ≤ v2 → K v2 S) ∧ (¬ 121 ≤ v2 → (vp_in ((3 * v2) + 1) 372 ∧ wp_set S v2 1 (S.1 35) (fun S6 => wl_endMatch_7 v1 Q K n ((S.2 36) (((3 * v2) + 1).toNatClampNeg)) S6))))))
def wp_endMatch (S : rm_S) (a1 : Int32) (Q : rm_S → Prop) : Prop := (vp_in a1 300 ∧ (∃ n9 : Nat, wl_endMatch_7 a1 Q (fun w8 S7 => Q S7) n9 ((S.2 10) a1.toNatClampNeg) S))
set_option maxHeartbeats 4000000 in
set_option maxRecDepth 100000 in
theorem wl_endMatch_7_ok {mo : Nat} {ad : Nat → Nat} (hA : rm_A mo ad) {G0 : cj_G} {d k0 n0 k n9 : Nat} (hd9 : 1 ≤ d) (v1 : Int32) {Q : rm_S → Prop} {K : Int32 → rm_S → Prop} (hK : ∀ (v2 : Int32) (S : rm_S), K v2 S → cj_J mX7_endMatch d k0 n0 (rm_post mo ad G0 Q) cj_no k n9 43 [(1, .int v1), (2, .int v2), (0, .ref mo)] [] (rm_md mo ad S G0)) : ∀ (n : Nat) (v2 : Int32) (S : rm_S), wl_endMatch_7 v1 Q K n v2 S → cj_J mX7_endMatch d k0 n0 (rm_post mo ad G0 Q) cj_no k n9 7 [(1, .int v1), (2, .int v2), (0, .ref mo)] [] (rm_md mo ad S G0) := by
  intro n
  induction n with
  | zero => intro v2 S h; exact absurd h id
  | succ n ih =>
    intro v2 S h
    unfold wl_endMatch_7 at h
    refine cj_iload_n dX7_endMatch_7 rfl ?_
    refine cj_if_lt (tgt := 43) dX7_endMatch_8 (by decide) (fun c2 => ?_) (fun c2 => ?_)
    · replace h := h.1 c2
      refine cj_sub (lv' := [(1, .int v1), (2, .int v2), (0, .ref mo)]) (by simp) ?_
      exact hK _ _ h
    · replace h := h.2 c2
      refine cj_iload_n dX7_endMatch_11 rfl ?_
      refine cj_bipush (v := 121) dX7_endMatch_12 (by decide) ?_
      refine cj_pc (pc' := 14) rfl ?_
      refine cj_icmp_ge (tgt := 43) dX7_endMatch_14 (by decide) (fun c3 => ?_) (fun c3 => ?_)
      · replace h := h.1 c3
        refine cj_sub (lv' := [(1, .int v1), (2, .int v2), (0, .ref mo)]) (by simp) ?_
        exact hK _ _ h
      · replace h := h.2 c3
        refine cj_aload_n dX7_endMatch_17 rfl ?_
        refine rm_get (.ref (ad 36)) flX7_79 dX7_endMatch_18 rfl ?_
        refine cj_iconst (v := 3) dX7_endMatch_21 (by decide) ?_
        refine cj_iload_n dX7_endMatch_22 rfl ?_
        refine cj_pc (pc' := 23) rfl ?_
        refine cj_imul dX7_endMatch_23 ?_
        refine cj_iconst (v := 1) dX7_endMatch_24 (by decide) ?_
        refine cj_iadd dX7_endMatch_25 ?_
        have i4 := h.1
        replace h := h.2
        refine rm_iald (j := 36) (x := (S.2 36) (((3 * v2) + 1).toNatClampNeg)) hA rfl dX7_endMatch_26 i4 rfl ?_
        refine cj_istore_n (lv' := [(3, .int ((S.2 36) (((3 * v2) + 1).toNatClampNeg))), (1, .int v1), (2, .int v2), (0, .ref mo)]) dX7_endMatch_27 (by decide) rfl ?_
        refine cj_pc (pc' := 28) rfl ?_
        refine cj_aload_n dX7_endMatch_28 rfl ?_
        refine cj_iload_n dX7_endMatch_29 rfl ?_
        refine cj_iconst (v := 1) dX7_endMatch_30 (by decide) ?_
        refine cj_aload_n dX7_endMatch_31 rfl ?_
        refine rm_get (.int (S.1 35)) flX7_247 dX7_endMatch_32 rfl ?_
        refine cj_pc (pc' := 35) rfl ?_
        refine cj_callV (M' := mX7_set) (d' := 0) (k' := 0) (n' := 0) (index := 272) (np := 3) (As := [.int v2, .int 1, .int (S.1 35)]) (rest := []) dX7_endMatch_35 lkX7_272 mwX7_set (tR_set hA h) (by omega) rfl rfl (Nat.le_of_ble_eq_true rfl) rm_mo rfl (fun v9 G9 q5 => ?_) (fun _ _ h => absurd h id)
        obtain ⟨S6, e8, e9, h⟩ := q5
        subst e8
        subst e9
        refine cj_st (st' := []) rfl ?_
        refine cj_iload_n dX7_endMatch_38 rfl ?_
        refine cj_istore_n (lv' := [(2, .int ((S.2 36) (((3 * v2) + 1).toNatClampNeg))), (3, .int ((S.2 36) (((3 * v2) + 1).toNatClampNeg))), (1, .int v1), (0, .ref mo)]) dX7_endMatch_39 (by decide) rfl ?_
        refine cj_goto (tgt := 7) dX7_endMatch_40 (by decide) ?_
        refine cj_sub (lv' := [(1, .int v1), (2, .int ((S.2 36) (((3 * v2) + 1).toNatClampNeg))), (0, .ref mo)]) (by simp) ?_
        exact ih _ _ h
set_option maxHeartbeats 4000000 in
set_option maxRecDepth 100000 in
theorem tR_endMatch {mo : Nat} {ad : Nat → Nat} (hA : rm_A mo ad) {G0 : cj_G} {S : rm_S} {a1 : Int32} {Q : rm_S → Prop} (h : wp_endMatch S a1 Q) : cj_T mX7_endMatch 1 0 0 [.ref mo, .int a1] (rm_md mo ad S G0) (rm_post mo ad G0 Q) cj_no := by
  refine cj_T_of (by decide +kernel) (Nat.le_of_ble_eq_true rfl) ?_
  refine cj_lvs (lv' := [(0, .ref mo), (1, .int a1)]) rfl ?_
  unfold wp_endMatch at h
  refine cj_aload_n dX7_endMatch_0 rfl ?_
  refine rm_get (.ref (ad 10)) flX7_24 dX7_endMatch_1 rfl ?_
  refine cj_iload_n dX7_endMatch_4 rfl ?_
  have i1 := h.1
  replace h := h.2
  refine rm_iald (j := 10) (x := (S.2 10) a1.toNatClampNeg) hA rfl dX7_endMatch_5 i1 rfl ?_
  refine cj_pc (pc' := 6) rfl ?_
  refine cj_istore_n (lv' := [(2, .int ((S.2 10) a1.toNatClampNeg)), (0, .ref mo), (1, .int a1)]) dX7_endMatch_6 (by decide) rfl ?_
  obtain ⟨n9, h⟩ := h
  refine cj_sub (lv' := [(1, .int a1), (2, .int ((S.2 10) a1.toNatClampNeg)), (0, .ref mo)]) (by simp) ?_
  refine wl_endMatch_7_ok hA (by omega) _ ?_ n9 _ _ h
  clear h
  intro w8 S7 h
  refine cj_vret rfl dX7_endMatch_43 ?_
  exact ⟨_, rfl, rfl, h⟩
def wp_doWork (S : rm_S) (Q : rm_S → Prop) : Prop := (vp_in ((S.1 39) - 1) 600 ∧ (vp_in ((S.1 39) - 1) 600 ∧ (vp_in ((S.1 39) - 1) 600 ∧ ((((S.2 40) (((S.1 39) - 1).toNatClampNeg)) = 4 → (vp_in ((S.2 41) (((S.1 39) - 1).toNatClampNeg)) 300 ∧ ((¬ ((S.2 40) (((S.1 39) - 1).toNatClampNeg)) = 0 → ((¬ ((S.2 40) (((S.1 39) - 1).toNatClampNeg)) = 1 → ((¬ ((S.2 40) (((S.1 39) - 1).toNatClampNeg)) = 2 → ((¬ ((S.2 40) (((S.1 39) - 1).toNatClampNeg)) = 3 → ((¬ ((S.2 40) (((S.1 39) - 1).toNatClampNeg)) = 4 → ((¬ ((S.2 40) (((S.1 39) - 1).toNatClampNeg)) = 5 → wp_endMatch (rm_pf S 39 ((S.1 39) - 1)) ((S.2 41) (((S.1 39) - 1).toNatClampNeg)) (fun S13 => Q S13)) ∧ (((S.2 40) (((S.1 39) - 1).toNatClampNeg)) = 5 → (((((S.2 10) (((S.2 41) (((S.1 39) - 1).toNatClampNeg)).toNatClampNeg)) - ((S.2 10) (((S.2 41) (((S.1 39) - 1).toNatClampNeg)).toNatClampNeg)) / 4 * 4) ≤ 0 → (vp_in ((S.2 42) (((S.1 39) - 1).toNatClampNeg)) 300 ∧ wp_emit (rm_pf S 39 ((S.1 39) - 1)) 11 ((S.2 10) (((S.2 42) (((S.1 39) - 1).toNatClampNeg)).toNatClampNeg)) 0 (fun S17 => (vp_in ((S.2 42) (((S.1 39) - 1).toNatClampNeg)) 300 ∧ Q (rm_pa S17 10 (((S.2 42) (((S.1 39) - 1).toNatClampNeg)).toNatClampNeg) ((S17.1 35) - 1)))))) ∧ (¬ (((S.2 10) (((S.2 41) (((S.1 39) - 1).toNatClampNeg)).toNatClampNeg)) - ((S.2 10) (((S.2 41) (((S.1 39) - 1).toNatClampNeg)).toNatClampNeg)) / 4 * 4) ≤ 0 → wp_emit (rm_pf S 39 ((S.1 39) - 1)) 15 (((S.2 10) (((S.2 41) (((S.1 39) - 1).toNatClampNeg)).toNatClampNeg)) - ((S.2 10) (((S.2 41) (((S.1 39) - 1).toNatClampNeg)).toNatClampNeg)) / 4 * 4) 0 (fun S20 => (vp_in ((S.2 42) (((S.1 39) - 1).toNatClampNeg)) 300 ∧ wp_emit S20 11 ((S20.2 10) (((S.2 42) (((S.1 39) - 1).toNatClampNeg)).toNatClampNeg)) 0 (fun S23 => (vp_in ((S.2 42) (((S.1 39) - 1).toNatClampNeg)) 300 ∧ Q (rm_pa S23 10 (((S.2 42) (((S.1 39) - 1).toNatClampNeg)).toNatClampNeg) ((S23.1 35) - 1))))))))))) ∧ (((S.2 40) (((S.1 39) - 1).toNatClampNeg)) = 4 → wp_set (rm_pf S 39 ((S.1 39) - 1)) ((S.2 42) (((S.1 39) - 1).toNatClampNeg)) 2 (S.1 35) (fun S26 => (((((S.2 10) (((S.2 41) (((S.1 39) - 1).toNatClampNeg)).toNatClampNeg)) - ((S.2 10) (((S.2 41) (((S.1 39) - 1).toNatClampNeg)).toNatClampNeg)) / 4 * 4) ≤ 0 → Q S26) ∧ (¬ (((S.2 10) (((S.2 41) (((S.1 39) - 1).toNatClampNeg)).toNatClampNeg)) - ((S.2 10) (((S.2 41) (((S.1 39) - 1).toNatClampNeg)).toNatClampNeg)) / 4 * 4) ≤ 0 → wp_emit S26 20 (((S.2 10) (((S.2 41) (((S.1 39) - 1).toNatClampNeg)).toNatClampNeg)) - ((S.2 10) (((S.2 41) (((S.1 39) - 1).toNatClampNeg)).toNatClampNeg)) / 4 * 4) 0 (fun S29 => Q S29))))))) ∧ (((S.2 40) (((S.1 39) - 1).toNatClampNeg)) = 3 → wp_generateSwitch (rm_pf S 39 ((S.1 39) - 1)) ((S.2 41) (((S.1 39) - 1).toNatClampNeg)) (fun S31 => Q S31)))) ∧ (((S.2 40) (((S.1 39) - 1).toNatClampNeg)) = 2 → wp_set (rm_pf S 39 ((S.1 39) - 1)) ((S.2 41) (((S.1 39) - 1).toNatClampNeg)) 1 (S.1 35) (fun S33 => Q S33)))) ∧ (((S.2 40) (((S.1 39) - 1).toNatClampNeg)) = 1 → wp_emit (rm_pf S 39 ((S.1 39) - 1)) ((S.2 41) (((S.1 39) - 1).toNatClampNeg)) ((S.2 42) (((S.1 39) - 1).toNatClampNeg)) 0 (fun S35 => Q S35)))) ∧ (((S.2 40) (((S.1 39) - 1).toNatClampNeg)) = 0 → wp_generate (rm_pf S 39 ((S.1 39) - 1)) ((S.2 41) (((S.1 39) - 1).toNatClampNeg)) (fun S37 => Q S37))))) ∧ (¬ ((S.2 40) (((S.1 39) - 1).toNatClampNeg)) = 4 → ((¬ ((S.2 40) (((S.1 39) - 1).toNatClampNeg)) = 5 → ((¬ ((S.2 40) (((S.1 39) - 1).toNatClampNeg)) = 0 → ((¬ ((S.2 40) (((S.1 39) - 1).toNatClampNeg)) = 1 → ((¬ ((S.2 40) (((S.1 39) - 1).toNatClampNeg)) = 2 → ((¬ ((S.2 40) (((S.1 39) - 1).toNatClampNeg)) = 3 → ((¬ ((S.2 40) (((S.1 39) - 1).toNatClampNeg)) = 4 → ((¬ ((S.2 40) (((S.1 39) - 1).toNatClampNeg)) = 5 → wp_endMatch (rm_pf S 39 ((S.1 39) - 1)) ((S.2 41) (((S.1 39) - 1).toNatClampNeg)) (fun S46 => Q S46)) ∧ (((S.2 40) (((S.1 39) - 1).toNatClampNeg)) = 5 → (vp_in ((S.2 42) (((S.1 39) - 1).toNatClampNeg)) 300 ∧ wp_emit (rm_pf S 39 ((S.1 39) - 1)) 11 ((S.2 10) (((S.2 42) (((S.1 39) - 1).toNatClampNeg)).toNatClampNeg)) 0 (fun S49 => (vp_in ((S.2 42) (((S.1 39) - 1).toNatClampNeg)) 300 ∧ Q (rm_pa S49 10 (((S.2 42) (((S.1 39) - 1).toNatClampNeg)).toNatClampNeg) ((S49.1 35) - 1)))))))) ∧ (((S.2 40) (((S.1 39) - 1).toNatClampNeg)) = 4 → wp_set (rm_pf S 39 ((S.1 39) - 1)) ((S.2 42) (((S.1 39) - 1).toNatClampNeg)) 2 (S.1 35) (fun S52 => Q S52)))) ∧ (((S.2 40) (((S.1 39) - 1).toNatClampNeg)) = 3 → wp_generateSwitch (rm_pf S 39 ((S.1 39) - 1)) ((S.2 41) (((S.1 39) - 1).toNatClampNeg)) (fun S54 => Q S54)))) ∧ (((S.2 40) (((S.1 39) - 1).toNatClampNeg)) = 2 → wp_set (rm_pf S 39 ((S.1 39) - 1)) ((S.2 41) (((S.1 39) - 1).toNatClampNeg)) 1 (S.1 35) (fun S56 => Q S56)))) ∧ (((S.2 40) (((S.1 39) - 1).toNatClampNeg)) = 1 → wp_emit (rm_pf S 39 ((S.1 39) - 1)) ((S.2 41) (((S.1 39) - 1).toNatClampNeg)) ((S.2 42) (((S.1 39) - 1).toNatClampNeg)) 0 (fun S58 => Q S58)))) ∧ (((S.2 40) (((S.1 39) - 1).toNatClampNeg)) = 0 → wp_generate (rm_pf S 39 ((S.1 39) - 1)) ((S.2 41) (((S.1 39) - 1).toNatClampNeg)) (fun S60 => Q S60)))) ∧ (((S.2 40) (((S.1 39) - 1).toNatClampNeg)) = 5 → (vp_in ((S.2 41) (((S.1 39) - 1).toNatClampNeg)) 300 ∧ ((¬ ((S.2 40) (((S.1 39) - 1).toNatClampNeg)) = 0 → ((¬ ((S.2 40) (((S.1 39) - 1).toNatClampNeg)) = 1 → ((¬ ((S.2 40) (((S.1 39) - 1).toNatClampNeg)) = 2 → ((¬ ((S.2 40) (((S.1 39) - 1).toNatClampNeg)) = 3 → ((¬ ((S.2 40) (((S.1 39) - 1).toNatClampNeg)) = 4 → ((¬ ((S.2 40) (((S.1 39) - 1).toNatClampNeg)) = 5 → wp_endMatch (rm_pf S 39 ((S.1 39) - 1)) ((S.2 41) (((S.1 39) - 1).toNatClampNeg)) (fun S69 => Q S69)) ∧ (((S.2 40) (((S.1 39) - 1).toNatClampNeg)) = 5 → (((((S.2 10) (((S.2 41) (((S.1 39) - 1).toNatClampNeg)).toNatClampNeg)) - ((S.2 10) (((S.2 41) (((S.1 39) - 1).toNatClampNeg)).toNatClampNeg)) / 4 * 4) ≤ 0 → (vp_in ((S.2 42) (((S.1 39) - 1).toNatClampNeg)) 300 ∧ wp_emit (rm_pf S 39 ((S.1 39) - 1)) 11 ((S.2 10) (((S.2 42) (((S.1 39) - 1).toNatClampNeg)).toNatClampNeg)) 0 (fun S73 => (vp_in ((S.2 42) (((S.1 39) - 1).toNatClampNeg)) 300 ∧ Q (rm_pa S73 10 (((S.2 42) (((S.1 39) - 1).toNatClampNeg)).toNatClampNeg) ((S73.1 35) - 1)))))) ∧ (¬ (((S.2 10) (((S.2 41) (((S.1 39) - 1).toNatClampNeg)).toNatClampNeg)) - ((S.2 10) (((S.2 41) (((S.1 39) - 1).toNatClampNeg)).toNatClampNeg)) / 4 * 4) ≤ 0 → wp_emit (rm_pf S 39 ((S.1 39) - 1)) 15 (((S.2 10) (((S.2 41) (((S.1 39) - 1).toNatClampNeg)).toNatClampNeg)) - ((S.2 10) (((S.2 41) (((S.1 39) - 1).toNatClampNeg)).toNatClampNeg)) / 4 * 4) 0 (fun S76 => (vp_in ((S.2 42) (((S.1 39) - 1).toNatClampNeg)) 300 ∧ wp_emit S76 11 ((S76.2 10) (((S.2 42) (((S.1 39) - 1).toNatClampNeg)).toNatClampNeg)) 0 (fun S79 => (vp_in ((S.2 42) (((S.1 39) - 1).toNatClampNeg)) 300 ∧ Q (rm_pa S79 10 (((S.2 42) (((S.1 39) - 1).toNatClampNeg)).toNatClampNeg) ((S79.1 35) - 1))))))))))) ∧ (((S.2 40) (((S.1 39) - 1).toNatClampNeg)) = 4 → wp_set (rm_pf S 39 ((S.1 39) - 1)) ((S.2 42) (((S.1 39) - 1).toNatClampNeg)) 2 (S.1 35) (fun S82 => (((((S.2 10) (((S.2 41) (((S.1 39) - 1).toNatClampNeg)).toNatClampNeg)) - ((S.2 10) (((S.2 41) (((S.1 39) - 1).toNatClampNeg)).toNatClampNeg)) / 4 * 4) ≤ 0 → Q S82) ∧ (¬ (((S.2 10) (((S.2 41) (((S.1 39) - 1).toNatClampNeg)).toNatClampNeg)) - ((S.2 10) (((S.2 41) (((S.1 39) - 1).toNatClampNeg)).toNatClampNeg)) / 4 * 4) ≤ 0 → wp_emit S82 20 (((S.2 10) (((S.2 41) (((S.1 39) - 1).toNatClampNeg)).toNatClampNeg)) - ((S.2 10) (((S.2 41) (((S.1 39) - 1).toNatClampNeg)).toNatClampNeg)) / 4 * 4) 0 (fun S85 => Q S85))))))) ∧ (((S.2 40) (((S.1 39) - 1).toNatClampNeg)) = 3 → wp_generateSwitch (rm_pf S 39 ((S.1 39) - 1)) ((S.2 41) (((S.1 39) - 1).toNatClampNeg)) (fun S87 => Q S87)))) ∧ (((S.2 40) (((S.1 39) - 1).toNatClampNeg)) = 2 → wp_set (rm_pf S 39 ((S.1 39) - 1)) ((S.2 41) (((S.1 39) - 1).toNatClampNeg)) 1 (S.1 35) (fun S89 => Q S89)))) ∧ (((S.2 40) (((S.1 39) - 1).toNatClampNeg)) = 1 → wp_emit (rm_pf S 39 ((S.1 39) - 1)) ((S.2 41) (((S.1 39) - 1).toNatClampNeg)) ((S.2 42) (((S.1 39) - 1).toNatClampNeg)) 0 (fun S91 => Q S91)))) ∧ (((S.2 40) (((S.1 39) - 1).toNatClampNeg)) = 0 → wp_generate (rm_pf S 39 ((S.1 39) - 1)) ((S.2 41) (((S.1 39) - 1).toNatClampNeg)) (fun S93 => Q S93)))))))))))
set_option maxHeartbeats 4000000 in
set_option maxRecDepth 100000 in
theorem tR_doWork {mo : Nat} {ad : Nat → Nat} (hA : rm_A mo ad) {G0 : cj_G} {S : rm_S} {Q : rm_S → Prop} (h : wp_doWork S Q) : cj_T mX7_doWork 4 0 0 [.ref mo] (rm_md mo ad S G0) (rm_post mo ad G0 Q) cj_no := by
  refine cj_T_of (by decide +kernel) (Nat.le_of_ble_eq_true rfl) ?_
  refine cj_lvs (lv' := [(0, .ref mo)]) rfl ?_
  unfold wp_doWork at h
  refine cj_aload_n dX7_doWork_0 rfl ?_
  refine cj_dup dX7_doWork_1 rfl ?_
  refine rm_get (.int (S.1 39)) flX7_250 dX7_doWork_2 rfl ?_
  refine cj_iconst (v := 1) dX7_doWork_5 (by decide) ?_
  refine cj_pc (pc' := 6) rfl ?_
  refine cj_isub dX7_doWork_6 ?_
  refine rm_put flX7_250 dX7_doWork_7 rmp_39 rfl rfl (by decide) ?_
  refine cj_aload_n dX7_doWork_10 rfl ?_
  refine rm_get (.ref (ad 40)) flX7_85 dX7_doWork_11 rfl ?_
  refine cj_aload_n dX7_doWork_14 rfl ?_
  refine cj_pc (pc' := 15) rfl ?_
  refine rm_get (.int ((S.1 39) - 1)) flX7_250 dX7_doWork_15 rfl ?_
  have i1 := h.1
  replace h := h.2
  refine rm_iald (j := 40) (x := (S.2 40) (((S.1 39) - 1).toNatClampNeg)) hA rfl dX7_doWork_18 i1 rfl ?_
  refine cj_istore_n (lv' := [(1, .int ((S.2 40) (((S.1 39) - 1).toNatClampNeg))), (0, .ref mo)]) dX7_doWork_19 (by decide) rfl ?_
  refine cj_aload_n dX7_doWork_20 rfl ?_
  refine rm_get (.ref (ad 41)) flX7_88 dX7_doWork_21 rfl ?_
  refine cj_pc (pc' := 24) rfl ?_
  refine cj_aload_n dX7_doWork_24 rfl ?_
  refine rm_get (.int ((S.1 39) - 1)) flX7_250 dX7_doWork_25 rfl ?_
  have i2 := h.1
  replace h := h.2
  refine rm_iald (j := 41) (x := (S.2 41) (((S.1 39) - 1).toNatClampNeg)) hA rfl dX7_doWork_28 i2 rfl ?_
  refine cj_istore_n (lv' := [(2, .int ((S.2 41) (((S.1 39) - 1).toNatClampNeg))), (1, .int ((S.2 40) (((S.1 39) - 1).toNatClampNeg))), (0, .ref mo)]) dX7_doWork_29 (by decide) rfl ?_
  refine cj_aload_n dX7_doWork_30 rfl ?_
  refine cj_pc (pc' := 31) rfl ?_
  refine rm_get (.ref (ad 42)) flX7_91 dX7_doWork_31 rfl ?_
  refine cj_aload_n dX7_doWork_34 rfl ?_
  refine rm_get (.int ((S.1 39) - 1)) flX7_250 dX7_doWork_35 rfl ?_
  have i3 := h.1
  replace h := h.2
  refine rm_iald (j := 42) (x := (S.2 42) (((S.1 39) - 1).toNatClampNeg)) hA rfl dX7_doWork_38 i3 rfl ?_
  refine cj_istore_n (lv' := [(3, .int ((S.2 42) (((S.1 39) - 1).toNatClampNeg))), (2, .int ((S.2 41) (((S.1 39) - 1).toNatClampNeg))), (1, .int ((S.2 40) (((S.1 39) - 1).toNatClampNeg))), (0, .ref mo)]) dX7_doWork_39 (by decide) rfl ?_
  refine cj_pc (pc' := 40) rfl ?_
  refine cj_iload_n dX7_doWork_40 rfl ?_
  refine cj_iconst (v := 4) dX7_doWork_41 (by decide) ?_
  refine cj_icmp_eq (tgt := 50) dX7_doWork_42 (by decide) (fun c4 => ?_) (fun c4 => ?_)
  · replace h := h.1 c4
    refine cj_aload_n dX7_doWork_50 rfl ?_
    refine rm_get (.ref (ad 10)) flX7_24 dX7_doWork_51 rfl ?_
    refine cj_pc (pc' := 54) rfl ?_
    refine cj_iload_n dX7_doWork_54 rfl ?_
    have i5 := h.1
    replace h := h.2
    refine rm_iald (j := 10) (x := (S.2 10) (((S.2 41) (((S.1 39) - 1).toNatClampNeg)).toNatClampNeg)) hA rfl dX7_doWork_55 i5 rfl ?_
    refine cj_iconst (v := 4) dX7_doWork_56 (by decide) ?_
    refine cj_irem dX7_doWork_57 (by decide) ?_
    refine cj_goto (tgt := 62) dX7_doWork_58 (by decide) ?_
    refine cj_pc (pc' := 62) rfl ?_
    refine cj_istore (lv' := [(4, .int (((S.2 10) (((S.2 41) (((S.1 39) - 1).toNatClampNeg)).toNatClampNeg)) - ((S.2 10) (((S.2 41) (((S.1 39) - 1).toNatClampNeg)).toNatClampNeg)) / 4 * 4)), (3, .int ((S.2 42) (((S.1 39) - 1).toNatClampNeg))), (2, .int ((S.2 41) (((S.1 39) - 1).toNatClampNeg))), (1, .int ((S.2 40) (((S.1 39) - 1).toNatClampNeg))), (0, .ref mo)]) dX7_doWork_62 (by decide) rfl ?_
    refine cj_iload_n dX7_doWork_64 rfl ?_
    refine cj_if_ne (tgt := 76) dX7_doWork_65 (by decide) (fun c6 => ?_) (fun c6 => ?_)
    · replace h := h.1 c6
      refine cj_iload_n dX7_doWork_76 rfl ?_
      refine cj_iconst (v := 1) dX7_doWork_77 (by decide) ?_
      refine cj_pc (pc' := 78) rfl ?_
      refine cj_icmp_ne (tgt := 91) dX7_doWork_78 (by decide) (fun c7 => ?_) (fun c7 => ?_)
      · replace h := h.1 c7
        refine cj_iload_n dX7_doWork_91 rfl ?_
        refine cj_iconst (v := 2) dX7_doWork_92 (by decide) ?_
        refine cj_icmp_ne (tgt := 109) dX7_doWork_93 (by decide) (fun c8 => ?_) (fun c8 => ?_)
        · replace h := h.1 c8
          refine cj_iload_n dX7_doWork_109 rfl ?_
          refine cj_pc (pc' := 110) rfl ?_
          refine cj_iconst (v := 3) dX7_doWork_110 (by decide) ?_
          refine cj_icmp_ne (tgt := 122) dX7_doWork_111 (by decide) (fun c9 => ?_) (fun c9 => ?_)
          · replace h := h.1 c9
            refine cj_iload_n dX7_doWork_122 rfl ?_
            refine cj_iconst (v := 4) dX7_doWork_123 (by decide) ?_
            refine cj_icmp_ne (tgt := 154) dX7_doWork_124 (by decide) (fun c10 => ?_) (fun c10 => ?_)
            · replace h := h.1 c10
              refine cj_iload_n dX7_doWork_154 rfl ?_
              refine cj_pc (pc' := 155) rfl ?_
              refine cj_iconst (v := 5) dX7_doWork_155 (by decide) ?_
              refine cj_icmp_ne (tgt := 201) dX7_doWork_156 (by decide) (fun c11 => ?_) (fun c11 => ?_)
              · replace h := h.1 c11
                refine cj_aload_n dX7_doWork_201 rfl ?_
                refine cj_iload_n dX7_doWork_202 rfl ?_
                refine cj_callV (M' := mX7_endMatch) (d' := 1) (k' := 0) (n' := 0) (index := 278) (np := 1) (As := [.int ((S.2 41) (((S.1 39) - 1).toNatClampNeg))]) (rest := []) dX7_doWork_203 lkX7_278 mwX7_endMatch (tR_endMatch hA h) (by omega) rfl rfl (Nat.le_of_ble_eq_true rfl) rm_mo rfl (fun v9 G9 q12 => ?_) (fun _ _ h => absurd h id)
                obtain ⟨S13, e8, e9, h⟩ := q12
                subst e8
                subst e9
                refine cj_st (st' := []) rfl ?_
                refine cj_pc (pc' := 206) rfl ?_
                refine cj_vret rfl dX7_doWork_206 ?_
                exact ⟨_, rfl, rfl, h⟩
              · replace h := h.2 c11
                refine cj_iload dX7_doWork_159 rfl ?_
                refine cj_if_le (tgt := 173) dX7_doWork_161 (by decide) (fun c14 => ?_) (fun c14 => ?_)
                · replace h := h.1 c14
                  refine cj_aload_n dX7_doWork_173 rfl ?_
                  refine cj_bipush (v := 11) dX7_doWork_174 (by decide) ?_
                  refine cj_pc (pc' := 176) rfl ?_
                  refine cj_aload_n dX7_doWork_176 rfl ?_
                  refine rm_get (.ref (ad 10)) flX7_24 dX7_doWork_177 rfl ?_
                  refine cj_iload_n dX7_doWork_180 rfl ?_
                  have i15 := h.1
                  replace h := h.2
                  refine rm_iald (j := 10) (x := (S.2 10) (((S.2 42) (((S.1 39) - 1).toNatClampNeg)).toNatClampNeg)) hA rfl dX7_doWork_181 i15 rfl ?_
                  refine cj_iconst (v := 0) dX7_doWork_182 (by decide) ?_
                  refine cj_pc (pc' := 183) rfl ?_
                  refine cj_callV (M' := mX7_emit) (d' := 0) (k' := 0) (n' := 0) (index := 257) (np := 3) (As := [.int 11, .int ((S.2 10) (((S.2 42) (((S.1 39) - 1).toNatClampNeg)).toNatClampNeg)), .int 0]) (rest := []) dX7_doWork_183 lkX7_257 mwX7_emit (tR_emit hA h) (by omega) rfl rfl (Nat.le_of_ble_eq_true rfl) rm_mo rfl (fun v9 G9 q16 => ?_) (fun _ _ h => absurd h id)
                  obtain ⟨S17, e8, e9, h⟩ := q16
                  subst e8
                  subst e9
                  refine cj_st (st' := []) rfl ?_
                  refine cj_aload_n dX7_doWork_186 rfl ?_
                  refine rm_get (.ref (ad 10)) flX7_24 dX7_doWork_187 rfl ?_
                  refine cj_iload_n dX7_doWork_190 rfl ?_
                  refine cj_aload_n dX7_doWork_191 rfl ?_
                  refine cj_pc (pc' := 192) rfl ?_
                  refine rm_get (.int (S17.1 35)) flX7_247 dX7_doWork_192 rfl ?_
                  refine cj_iconst (v := 1) dX7_doWork_195 (by decide) ?_
                  refine cj_isub dX7_doWork_196 ?_
                  have i18 := h.1
                  replace h := h.2
                  refine rm_iast (j := 10) hA rfl dX7_doWork_197 i18 ?_
                  refine cj_goto (tgt := 206) dX7_doWork_198 (by decide) ?_
                  refine cj_pc (pc' := 206) rfl ?_
                  refine cj_vret rfl dX7_doWork_206 ?_
                  exact ⟨_, rfl, rfl, h⟩
                · replace h := h.2 c14
                  refine cj_aload_n dX7_doWork_164 rfl ?_
                  refine cj_bipush (v := 15) dX7_doWork_165 (by decide) ?_
                  refine cj_iload dX7_doWork_167 rfl ?_
                  refine cj_iconst (v := 0) dX7_doWork_169 (by decide) ?_
                  refine cj_pc (pc' := 170) rfl ?_
                  refine cj_callV (M' := mX7_emit) (d' := 0) (k' := 0) (n' := 0) (index := 257) (np := 3) (As := [.int 15, .int (((S.2 10) (((S.2 41) (((S.1 39) - 1).toNatClampNeg)).toNatClampNeg)) - ((S.2 10) (((S.2 41) (((S.1 39) - 1).toNatClampNeg)).toNatClampNeg)) / 4 * 4), .int 0]) (rest := []) dX7_doWork_170 lkX7_257 mwX7_emit (tR_emit hA h) (by omega) rfl rfl (Nat.le_of_ble_eq_true rfl) rm_mo rfl (fun v9 G9 q19 => ?_) (fun _ _ h => absurd h id)
                  obtain ⟨S20, e8, e9, h⟩ := q19
                  subst e8
                  subst e9
                  refine cj_st (st' := []) rfl ?_
                  refine cj_aload_n dX7_doWork_173 rfl ?_
                  refine cj_bipush (v := 11) dX7_doWork_174 (by decide) ?_
                  refine cj_aload_n dX7_doWork_176 rfl ?_
                  refine rm_get (.ref (ad 10)) flX7_24 dX7_doWork_177 rfl ?_
                  refine cj_pc (pc' := 180) rfl ?_
                  refine cj_iload_n dX7_doWork_180 rfl ?_
                  have i21 := h.1
                  replace h := h.2
                  refine rm_iald (j := 10) (x := (S20.2 10) (((S.2 42) (((S.1 39) - 1).toNatClampNeg)).toNatClampNeg)) hA rfl dX7_doWork_181 i21 rfl ?_
                  refine cj_iconst (v := 0) dX7_doWork_182 (by decide) ?_
                  refine cj_callV (M' := mX7_emit) (d' := 0) (k' := 0) (n' := 0) (index := 257) (np := 3) (As := [.int 11, .int ((S20.2 10) (((S.2 42) (((S.1 39) - 1).toNatClampNeg)).toNatClampNeg)), .int 0]) (rest := []) dX7_doWork_183 lkX7_257 mwX7_emit (tR_emit hA h) (by omega) rfl rfl (Nat.le_of_ble_eq_true rfl) rm_mo rfl (fun v9 G9 q22 => ?_) (fun _ _ h => absurd h id)
                  obtain ⟨S23, e8, e9, h⟩ := q22
                  subst e8
                  subst e9
                  refine cj_st (st' := []) rfl ?_
                  refine cj_aload_n dX7_doWork_186 rfl ?_
                  refine cj_pc (pc' := 187) rfl ?_
                  refine rm_get (.ref (ad 10)) flX7_24 dX7_doWork_187 rfl ?_
                  refine cj_iload_n dX7_doWork_190 rfl ?_
                  refine cj_aload_n dX7_doWork_191 rfl ?_
                  refine rm_get (.int (S23.1 35)) flX7_247 dX7_doWork_192 rfl ?_
                  refine cj_iconst (v := 1) dX7_doWork_195 (by decide) ?_
                  refine cj_pc (pc' := 196) rfl ?_
                  refine cj_isub dX7_doWork_196 ?_
                  have i24 := h.1
                  replace h := h.2
                  refine rm_iast (j := 10) hA rfl dX7_doWork_197 i24 ?_
                  refine cj_goto (tgt := 206) dX7_doWork_198 (by decide) ?_
                  refine cj_vret rfl dX7_doWork_206 ?_
                  exact ⟨_, rfl, rfl, h⟩
            · replace h := h.2 c10
              refine cj_aload_n dX7_doWork_127 rfl ?_
              refine cj_pc (pc' := 128) rfl ?_
              refine cj_iload_n dX7_doWork_128 rfl ?_
              refine cj_iconst (v := 2) dX7_doWork_129 (by decide) ?_
              refine cj_aload_n dX7_doWork_130 rfl ?_
              refine rm_get (.int (S.1 35)) flX7_247 dX7_doWork_131 rfl ?_
              refine cj_callV (M' := mX7_set) (d' := 0) (k' := 0) (n' := 0) (index := 272) (np := 3) (As := [.int ((S.2 42) (((S.1 39) - 1).toNatClampNeg)), .int 2, .int (S.1 35)]) (rest := []) dX7_doWork_134 lkX7_272 mwX7_set (tR_set hA h) (by omega) rfl rfl (Nat.le_of_ble_eq_true rfl) rm_mo rfl (fun v9 G9 q25 => ?_) (fun _ _ h => absurd h id)
              obtain ⟨S26, e8, e9, h⟩ := q25
              subst e8
              subst e9
              refine cj_st (st' := []) rfl ?_
              refine cj_pc (pc' := 137) rfl ?_
              refine cj_iload dX7_doWork_137 rfl ?_
              refine cj_if_le (tgt := 206) dX7_doWork_139 (by decide) (fun c27 => ?_) (fun c27 => ?_)
              · replace h := h.1 c27
                refine cj_vret rfl dX7_doWork_206 ?_
                exact ⟨_, rfl, rfl, h⟩
              · replace h := h.2 c27
                refine cj_aload_n dX7_doWork_142 rfl ?_
                refine cj_bipush (v := 20) dX7_doWork_143 (by decide) ?_
                refine cj_pc (pc' := 145) rfl ?_
                refine cj_iload dX7_doWork_145 rfl ?_
                refine cj_iconst (v := 0) dX7_doWork_147 (by decide) ?_
                refine cj_callV (M' := mX7_emit) (d' := 0) (k' := 0) (n' := 0) (index := 257) (np := 3) (As := [.int 20, .int (((S.2 10) (((S.2 41) (((S.1 39) - 1).toNatClampNeg)).toNatClampNeg)) - ((S.2 10) (((S.2 41) (((S.1 39) - 1).toNatClampNeg)).toNatClampNeg)) / 4 * 4), .int 0]) (rest := []) dX7_doWork_148 lkX7_257 mwX7_emit (tR_emit hA h) (by omega) rfl rfl (Nat.le_of_ble_eq_true rfl) rm_mo rfl (fun v9 G9 q28 => ?_) (fun _ _ h => absurd h id)
                obtain ⟨S29, e8, e9, h⟩ := q28
                subst e8
                subst e9
                refine cj_st (st' := []) rfl ?_
                refine cj_goto (tgt := 206) dX7_doWork_151 (by decide) ?_
                refine cj_vret rfl dX7_doWork_206 ?_
                exact ⟨_, rfl, rfl, h⟩
          · replace h := h.2 c9
            refine cj_aload_n dX7_doWork_114 rfl ?_
            refine cj_pc (pc' := 115) rfl ?_
            refine cj_iload_n dX7_doWork_115 rfl ?_
            refine cj_callV (M' := mX7_generateSwitch) (d' := 2) (k' := 0) (n' := 0) (index := 275) (np := 1) (As := [.int ((S.2 41) (((S.1 39) - 1).toNatClampNeg))]) (rest := []) dX7_doWork_116 lkX7_275 mwX7_generateSwitch (tR_generateSwitch hA h) (by omega) rfl rfl (Nat.le_of_ble_eq_true rfl) rm_mo rfl (fun v9 G9 q30 => ?_) (fun _ _ h => absurd h id)
            obtain ⟨S31, e8, e9, h⟩ := q30
            subst e8
            subst e9
            refine cj_st (st' := []) rfl ?_
            refine cj_goto (tgt := 206) dX7_doWork_119 (by decide) ?_
            refine cj_vret rfl dX7_doWork_206 ?_
            exact ⟨_, rfl, rfl, h⟩
        · replace h := h.2 c8
          refine cj_aload_n dX7_doWork_96 rfl ?_
          refine cj_pc (pc' := 97) rfl ?_
          refine cj_iload_n dX7_doWork_97 rfl ?_
          refine cj_iconst (v := 1) dX7_doWork_98 (by decide) ?_
          refine cj_aload_n dX7_doWork_99 rfl ?_
          refine rm_get (.int (S.1 35)) flX7_247 dX7_doWork_100 rfl ?_
          refine cj_callV (M' := mX7_set) (d' := 0) (k' := 0) (n' := 0) (index := 272) (np := 3) (As := [.int ((S.2 41) (((S.1 39) - 1).toNatClampNeg)), .int 1, .int (S.1 35)]) (rest := []) dX7_doWork_103 lkX7_272 mwX7_set (tR_set hA h) (by omega) rfl rfl (Nat.le_of_ble_eq_true rfl) rm_mo rfl (fun v9 G9 q32 => ?_) (fun _ _ h => absurd h id)
          obtain ⟨S33, e8, e9, h⟩ := q32
          subst e8
          subst e9
          refine cj_st (st' := []) rfl ?_
          refine cj_pc (pc' := 106) rfl ?_
          refine cj_goto (tgt := 206) dX7_doWork_106 (by decide) ?_
          refine cj_vret rfl dX7_doWork_206 ?_
          exact ⟨_, rfl, rfl, h⟩
      · replace h := h.2 c7
        refine cj_aload_n dX7_doWork_81 rfl ?_
        refine cj_iload_n dX7_doWork_82 rfl ?_
        refine cj_iload_n dX7_doWork_83 rfl ?_
        refine cj_pc (pc' := 84) rfl ?_
        refine cj_iconst (v := 0) dX7_doWork_84 (by decide) ?_
        refine cj_callV (M' := mX7_emit) (d' := 0) (k' := 0) (n' := 0) (index := 257) (np := 3) (As := [.int ((S.2 41) (((S.1 39) - 1).toNatClampNeg)), .int ((S.2 42) (((S.1 39) - 1).toNatClampNeg)), .int 0]) (rest := []) dX7_doWork_85 lkX7_257 mwX7_emit (tR_emit hA h) (by omega) rfl rfl (Nat.le_of_ble_eq_true rfl) rm_mo rfl (fun v9 G9 q34 => ?_) (fun _ _ h => absurd h id)
        obtain ⟨S35, e8, e9, h⟩ := q34
        subst e8
        subst e9
        refine cj_st (st' := []) rfl ?_
        refine cj_goto (tgt := 206) dX7_doWork_88 (by decide) ?_
        refine cj_vret rfl dX7_doWork_206 ?_
        exact ⟨_, rfl, rfl, h⟩
    · replace h := h.2 c6
      refine cj_aload_n dX7_doWork_68 rfl ?_
      refine cj_pc (pc' := 69) rfl ?_
      refine cj_iload_n dX7_doWork_69 rfl ?_
      refine cj_callV (M' := mX7_generate) (d' := 3) (k' := 0) (n' := 0) (index := 269) (np := 1) (As := [.int ((S.2 41) (((S.1 39) - 1).toNatClampNeg))]) (rest := []) dX7_doWork_70 lkX7_269 mwX7_generate (tR_generate hA h) (by omega) rfl rfl (Nat.le_of_ble_eq_true rfl) rm_mo rfl (fun v9 G9 q36 => ?_) (fun _ _ h => absurd h id)
      obtain ⟨S37, e8, e9, h⟩ := q36
      subst e8
      subst e9
      refine cj_st (st' := []) rfl ?_
      refine cj_goto (tgt := 206) dX7_doWork_73 (by decide) ?_
      refine cj_vret rfl dX7_doWork_206 ?_
      exact ⟨_, rfl, rfl, h⟩
  · replace h := h.2 c4
    refine cj_iload_n dX7_doWork_45 rfl ?_
    refine cj_pc (pc' := 46) rfl ?_
    refine cj_iconst (v := 5) dX7_doWork_46 (by decide) ?_
    refine cj_icmp_ne (tgt := 61) dX7_doWork_47 (by decide) (fun c38 => ?_) (fun c38 => ?_)
    · replace h := h.1 c38
      refine cj_iconst (v := 0) dX7_doWork_61 (by decide) ?_
      refine cj_istore (lv' := [(4, .int 0), (3, .int ((S.2 42) (((S.1 39) - 1).toNatClampNeg))), (2, .int ((S.2 41) (((S.1 39) - 1).toNatClampNeg))), (1, .int ((S.2 40) (((S.1 39) - 1).toNatClampNeg))), (0, .ref mo)]) dX7_doWork_62 (by decide) rfl ?_
      refine cj_iload_n dX7_doWork_64 rfl ?_
      refine cj_pc (pc' := 65) rfl ?_
      refine cj_if_ne (tgt := 76) dX7_doWork_65 (by decide) (fun c39 => ?_) (fun c39 => ?_)
      · replace h := h.1 c39
        refine cj_iload_n dX7_doWork_76 rfl ?_
        refine cj_iconst (v := 1) dX7_doWork_77 (by decide) ?_
        refine cj_icmp_ne (tgt := 91) dX7_doWork_78 (by decide) (fun c40 => ?_) (fun c40 => ?_)
        · replace h := h.1 c40
          refine cj_iload_n dX7_doWork_91 rfl ?_
          refine cj_pc (pc' := 92) rfl ?_
          refine cj_iconst (v := 2) dX7_doWork_92 (by decide) ?_
          refine cj_icmp_ne (tgt := 109) dX7_doWork_93 (by decide) (fun c41 => ?_) (fun c41 => ?_)
          · replace h := h.1 c41
            refine cj_iload_n dX7_doWork_109 rfl ?_
            refine cj_iconst (v := 3) dX7_doWork_110 (by decide) ?_
            refine cj_icmp_ne (tgt := 122) dX7_doWork_111 (by decide) (fun c42 => ?_) (fun c42 => ?_)
            · replace h := h.1 c42
              refine cj_iload_n dX7_doWork_122 rfl ?_
              refine cj_pc (pc' := 123) rfl ?_
              refine cj_iconst (v := 4) dX7_doWork_123 (by decide) ?_
              refine cj_icmp_ne (tgt := 154) dX7_doWork_124 (by decide) (fun c43 => ?_) (fun c43 => ?_)
              · replace h := h.1 c43
                refine cj_iload_n dX7_doWork_154 rfl ?_
                refine cj_iconst (v := 5) dX7_doWork_155 (by decide) ?_
                refine cj_icmp_ne (tgt := 201) dX7_doWork_156 (by decide) (fun c44 => ?_) (fun c44 => ?_)
                · replace h := h.1 c44
                  refine cj_aload_n dX7_doWork_201 rfl ?_
                  refine cj_pc (pc' := 202) rfl ?_
                  refine cj_iload_n dX7_doWork_202 rfl ?_
                  refine cj_callV (M' := mX7_endMatch) (d' := 1) (k' := 0) (n' := 0) (index := 278) (np := 1) (As := [.int ((S.2 41) (((S.1 39) - 1).toNatClampNeg))]) (rest := []) dX7_doWork_203 lkX7_278 mwX7_endMatch (tR_endMatch hA h) (by omega) rfl rfl (Nat.le_of_ble_eq_true rfl) rm_mo rfl (fun v9 G9 q45 => ?_) (fun _ _ h => absurd h id)
                  obtain ⟨S46, e8, e9, h⟩ := q45
                  subst e8
                  subst e9
                  refine cj_st (st' := []) rfl ?_
                  refine cj_vret rfl dX7_doWork_206 ?_
                  exact ⟨_, rfl, rfl, h⟩
                · replace h := h.2 c44
                  refine cj_iload dX7_doWork_159 rfl ?_
                  refine cj_if_le (tgt := 173) dX7_doWork_161 (by decide) (fun _ => ?_) (fun c => absurd (by decide) c)
                  refine cj_pc (pc' := 173) rfl ?_
                  refine cj_aload_n dX7_doWork_173 rfl ?_
                  refine cj_bipush (v := 11) dX7_doWork_174 (by decide) ?_
                  refine cj_aload_n dX7_doWork_176 rfl ?_
                  refine rm_get (.ref (ad 10)) flX7_24 dX7_doWork_177 rfl ?_
                  refine cj_iload_n dX7_doWork_180 rfl ?_
                  refine cj_pc (pc' := 181) rfl ?_
                  have i47 := h.1
                  replace h := h.2
                  refine rm_iald (j := 10) (x := (S.2 10) (((S.2 42) (((S.1 39) - 1).toNatClampNeg)).toNatClampNeg)) hA rfl dX7_doWork_181 i47 rfl ?_
                  refine cj_iconst (v := 0) dX7_doWork_182 (by decide) ?_
                  refine cj_callV (M' := mX7_emit) (d' := 0) (k' := 0) (n' := 0) (index := 257) (np := 3) (As := [.int 11, .int ((S.2 10) (((S.2 42) (((S.1 39) - 1).toNatClampNeg)).toNatClampNeg)), .int 0]) (rest := []) dX7_doWork_183 lkX7_257 mwX7_emit (tR_emit hA h) (by omega) rfl rfl (Nat.le_of_ble_eq_true rfl) rm_mo rfl (fun v9 G9 q48 => ?_) (fun _ _ h => absurd h id)
                  obtain ⟨S49, e8, e9, h⟩ := q48
                  subst e8
                  subst e9
                  refine cj_st (st' := []) rfl ?_
                  refine cj_aload_n dX7_doWork_186 rfl ?_
                  refine rm_get (.ref (ad 10)) flX7_24 dX7_doWork_187 rfl ?_
                  refine cj_pc (pc' := 190) rfl ?_
                  refine cj_iload_n dX7_doWork_190 rfl ?_
                  refine cj_aload_n dX7_doWork_191 rfl ?_
                  refine rm_get (.int (S49.1 35)) flX7_247 dX7_doWork_192 rfl ?_
                  refine cj_iconst (v := 1) dX7_doWork_195 (by decide) ?_
                  refine cj_isub dX7_doWork_196 ?_
                  refine cj_pc (pc' := 197) rfl ?_
                  have i50 := h.1
                  replace h := h.2
                  refine rm_iast (j := 10) hA rfl dX7_doWork_197 i50 ?_
                  refine cj_goto (tgt := 206) dX7_doWork_198 (by decide) ?_
                  refine cj_vret rfl dX7_doWork_206 ?_
                  exact ⟨_, rfl, rfl, h⟩
              · replace h := h.2 c43
                refine cj_aload_n dX7_doWork_127 rfl ?_
                refine cj_iload_n dX7_doWork_128 rfl ?_
                refine cj_pc (pc' := 129) rfl ?_
                refine cj_iconst (v := 2) dX7_doWork_129 (by decide) ?_
                refine cj_aload_n dX7_doWork_130 rfl ?_
                refine rm_get (.int (S.1 35)) flX7_247 dX7_doWork_131 rfl ?_
                refine cj_callV (M' := mX7_set) (d' := 0) (k' := 0) (n' := 0) (index := 272) (np := 3) (As := [.int ((S.2 42) (((S.1 39) - 1).toNatClampNeg)), .int 2, .int (S.1 35)]) (rest := []) dX7_doWork_134 lkX7_272 mwX7_set (tR_set hA h) (by omega) rfl rfl (Nat.le_of_ble_eq_true rfl) rm_mo rfl (fun v9 G9 q51 => ?_) (fun _ _ h => absurd h id)
                obtain ⟨S52, e8, e9, h⟩ := q51
                subst e8
                subst e9
                refine cj_st (st' := []) rfl ?_
                refine cj_iload dX7_doWork_137 rfl ?_
                refine cj_pc (pc' := 139) rfl ?_
                refine cj_if_le (tgt := 206) dX7_doWork_139 (by decide) (fun _ => ?_) (fun c => absurd (by decide) c)
                refine cj_vret rfl dX7_doWork_206 ?_
                exact ⟨_, rfl, rfl, h⟩
            · replace h := h.2 c42
              refine cj_aload_n dX7_doWork_114 rfl ?_
              refine cj_iload_n dX7_doWork_115 rfl ?_
              refine cj_callV (M' := mX7_generateSwitch) (d' := 2) (k' := 0) (n' := 0) (index := 275) (np := 1) (As := [.int ((S.2 41) (((S.1 39) - 1).toNatClampNeg))]) (rest := []) dX7_doWork_116 lkX7_275 mwX7_generateSwitch (tR_generateSwitch hA h) (by omega) rfl rfl (Nat.le_of_ble_eq_true rfl) rm_mo rfl (fun v9 G9 q53 => ?_) (fun _ _ h => absurd h id)
              obtain ⟨S54, e8, e9, h⟩ := q53
              subst e8
              subst e9
              refine cj_st (st' := []) rfl ?_
              refine cj_pc (pc' := 119) rfl ?_
              refine cj_goto (tgt := 206) dX7_doWork_119 (by decide) ?_
              refine cj_vret rfl dX7_doWork_206 ?_
              exact ⟨_, rfl, rfl, h⟩
          · replace h := h.2 c41
            refine cj_aload_n dX7_doWork_96 rfl ?_
            refine cj_iload_n dX7_doWork_97 rfl ?_
            refine cj_iconst (v := 1) dX7_doWork_98 (by decide) ?_
            refine cj_pc (pc' := 99) rfl ?_
            refine cj_aload_n dX7_doWork_99 rfl ?_
            refine rm_get (.int (S.1 35)) flX7_247 dX7_doWork_100 rfl ?_
            refine cj_callV (M' := mX7_set) (d' := 0) (k' := 0) (n' := 0) (index := 272) (np := 3) (As := [.int ((S.2 41) (((S.1 39) - 1).toNatClampNeg)), .int 1, .int (S.1 35)]) (rest := []) dX7_doWork_103 lkX7_272 mwX7_set (tR_set hA h) (by omega) rfl rfl (Nat.le_of_ble_eq_true rfl) rm_mo rfl (fun v9 G9 q55 => ?_) (fun _ _ h => absurd h id)
            obtain ⟨S56, e8, e9, h⟩ := q55
            subst e8
            subst e9
            refine cj_st (st' := []) rfl ?_
            refine cj_goto (tgt := 206) dX7_doWork_106 (by decide) ?_
            refine cj_vret rfl dX7_doWork_206 ?_
            exact ⟨_, rfl, rfl, h⟩
        · replace h := h.2 c40
          refine cj_aload_n dX7_doWork_81 rfl ?_
          refine cj_pc (pc' := 82) rfl ?_
          refine cj_iload_n dX7_doWork_82 rfl ?_
          refine cj_iload_n dX7_doWork_83 rfl ?_
          refine cj_iconst (v := 0) dX7_doWork_84 (by decide) ?_
          refine cj_callV (M' := mX7_emit) (d' := 0) (k' := 0) (n' := 0) (index := 257) (np := 3) (As := [.int ((S.2 41) (((S.1 39) - 1).toNatClampNeg)), .int ((S.2 42) (((S.1 39) - 1).toNatClampNeg)), .int 0]) (rest := []) dX7_doWork_85 lkX7_257 mwX7_emit (tR_emit hA h) (by omega) rfl rfl (Nat.le_of_ble_eq_true rfl) rm_mo rfl (fun v9 G9 q57 => ?_) (fun _ _ h => absurd h id)
          obtain ⟨S58, e8, e9, h⟩ := q57
          subst e8
          subst e9
          refine cj_st (st' := []) rfl ?_
          refine cj_goto (tgt := 206) dX7_doWork_88 (by decide) ?_
          refine cj_pc (pc' := 206) rfl ?_
          refine cj_vret rfl dX7_doWork_206 ?_
          exact ⟨_, rfl, rfl, h⟩
      · replace h := h.2 c39
        refine cj_aload_n dX7_doWork_68 rfl ?_
        refine cj_iload_n dX7_doWork_69 rfl ?_
        refine cj_callV (M' := mX7_generate) (d' := 3) (k' := 0) (n' := 0) (index := 269) (np := 1) (As := [.int ((S.2 41) (((S.1 39) - 1).toNatClampNeg))]) (rest := []) dX7_doWork_70 lkX7_269 mwX7_generate (tR_generate hA h) (by omega) rfl rfl (Nat.le_of_ble_eq_true rfl) rm_mo rfl (fun v9 G9 q59 => ?_) (fun _ _ h => absurd h id)
        obtain ⟨S60, e8, e9, h⟩ := q59
        subst e8
        subst e9
        refine cj_st (st' := []) rfl ?_
        refine cj_goto (tgt := 206) dX7_doWork_73 (by decide) ?_
        refine cj_pc (pc' := 206) rfl ?_
        refine cj_vret rfl dX7_doWork_206 ?_
        exact ⟨_, rfl, rfl, h⟩
    · replace h := h.2 c38
      refine cj_aload_n dX7_doWork_50 rfl ?_
      refine rm_get (.ref (ad 10)) flX7_24 dX7_doWork_51 rfl ?_
      refine cj_iload_n dX7_doWork_54 rfl ?_
      have i61 := h.1
      replace h := h.2
      refine rm_iald (j := 10) (x := (S.2 10) (((S.2 41) (((S.1 39) - 1).toNatClampNeg)).toNatClampNeg)) hA rfl dX7_doWork_55 i61 rfl ?_
      refine cj_pc (pc' := 56) rfl ?_
      refine cj_iconst (v := 4) dX7_doWork_56 (by decide) ?_
      refine cj_irem dX7_doWork_57 (by decide) ?_
      refine cj_goto (tgt := 62) dX7_doWork_58 (by decide) ?_
      refine cj_istore (lv' := [(4, .int (((S.2 10) (((S.2 41) (((S.1 39) - 1).toNatClampNeg)).toNatClampNeg)) - ((S.2 10) (((S.2 41) (((S.1 39) - 1).toNatClampNeg)).toNatClampNeg)) / 4 * 4)), (3, .int ((S.2 42) (((S.1 39) - 1).toNatClampNeg))), (2, .int ((S.2 41) (((S.1 39) - 1).toNatClampNeg))), (1, .int ((S.2 40) (((S.1 39) - 1).toNatClampNeg))), (0, .ref mo)]) dX7_doWork_62 (by decide) rfl ?_
      refine cj_iload_n dX7_doWork_64 rfl ?_
      refine cj_pc (pc' := 65) rfl ?_
      refine cj_if_ne (tgt := 76) dX7_doWork_65 (by decide) (fun c62 => ?_) (fun c62 => ?_)
      · replace h := h.1 c62
        refine cj_iload_n dX7_doWork_76 rfl ?_
        refine cj_iconst (v := 1) dX7_doWork_77 (by decide) ?_
        refine cj_icmp_ne (tgt := 91) dX7_doWork_78 (by decide) (fun c63 => ?_) (fun c63 => ?_)
        · replace h := h.1 c63
          refine cj_iload_n dX7_doWork_91 rfl ?_
          refine cj_pc (pc' := 92) rfl ?_
          refine cj_iconst (v := 2) dX7_doWork_92 (by decide) ?_
          refine cj_icmp_ne (tgt := 109) dX7_doWork_93 (by decide) (fun c64 => ?_) (fun c64 => ?_)
          · replace h := h.1 c64
            refine cj_iload_n dX7_doWork_109 rfl ?_
            refine cj_iconst (v := 3) dX7_doWork_110 (by decide) ?_
            refine cj_icmp_ne (tgt := 122) dX7_doWork_111 (by decide) (fun c65 => ?_) (fun c65 => ?_)
            · replace h := h.1 c65
              refine cj_iload_n dX7_doWork_122 rfl ?_
              refine cj_pc (pc' := 123) rfl ?_
              refine cj_iconst (v := 4) dX7_doWork_123 (by decide) ?_
              refine cj_icmp_ne (tgt := 154) dX7_doWork_124 (by decide) (fun c66 => ?_) (fun c66 => ?_)
              · replace h := h.1 c66
                refine cj_iload_n dX7_doWork_154 rfl ?_
                refine cj_iconst (v := 5) dX7_doWork_155 (by decide) ?_
                refine cj_icmp_ne (tgt := 201) dX7_doWork_156 (by decide) (fun c67 => ?_) (fun c67 => ?_)
                · replace h := h.1 c67
                  refine cj_aload_n dX7_doWork_201 rfl ?_
                  refine cj_pc (pc' := 202) rfl ?_
                  refine cj_iload_n dX7_doWork_202 rfl ?_
                  refine cj_callV (M' := mX7_endMatch) (d' := 1) (k' := 0) (n' := 0) (index := 278) (np := 1) (As := [.int ((S.2 41) (((S.1 39) - 1).toNatClampNeg))]) (rest := []) dX7_doWork_203 lkX7_278 mwX7_endMatch (tR_endMatch hA h) (by omega) rfl rfl (Nat.le_of_ble_eq_true rfl) rm_mo rfl (fun v9 G9 q68 => ?_) (fun _ _ h => absurd h id)
                  obtain ⟨S69, e8, e9, h⟩ := q68
                  subst e8
                  subst e9
                  refine cj_st (st' := []) rfl ?_
                  refine cj_vret rfl dX7_doWork_206 ?_
                  exact ⟨_, rfl, rfl, h⟩
                · replace h := h.2 c67
                  refine cj_iload dX7_doWork_159 rfl ?_
                  refine cj_if_le (tgt := 173) dX7_doWork_161 (by decide) (fun c70 => ?_) (fun c70 => ?_)
                  · replace h := h.1 c70
                    refine cj_aload_n dX7_doWork_173 rfl ?_
                    refine cj_pc (pc' := 174) rfl ?_
                    refine cj_bipush (v := 11) dX7_doWork_174 (by decide) ?_
                    refine cj_aload_n dX7_doWork_176 rfl ?_
                    refine rm_get (.ref (ad 10)) flX7_24 dX7_doWork_177 rfl ?_
                    refine cj_iload_n dX7_doWork_180 rfl ?_
                    have i71 := h.1
                    replace h := h.2
                    refine rm_iald (j := 10) (x := (S.2 10) (((S.2 42) (((S.1 39) - 1).toNatClampNeg)).toNatClampNeg)) hA rfl dX7_doWork_181 i71 rfl ?_
                    refine cj_pc (pc' := 182) rfl ?_
                    refine cj_iconst (v := 0) dX7_doWork_182 (by decide) ?_
                    refine cj_callV (M' := mX7_emit) (d' := 0) (k' := 0) (n' := 0) (index := 257) (np := 3) (As := [.int 11, .int ((S.2 10) (((S.2 42) (((S.1 39) - 1).toNatClampNeg)).toNatClampNeg)), .int 0]) (rest := []) dX7_doWork_183 lkX7_257 mwX7_emit (tR_emit hA h) (by omega) rfl rfl (Nat.le_of_ble_eq_true rfl) rm_mo rfl (fun v9 G9 q72 => ?_) (fun _ _ h => absurd h id)
                    obtain ⟨S73, e8, e9, h⟩ := q72
                    subst e8
                    subst e9
                    refine cj_st (st' := []) rfl ?_
                    refine cj_aload_n dX7_doWork_186 rfl ?_
                    refine rm_get (.ref (ad 10)) flX7_24 dX7_doWork_187 rfl ?_
                    refine cj_iload_n dX7_doWork_190 rfl ?_
                    refine cj_pc (pc' := 191) rfl ?_
                    refine cj_aload_n dX7_doWork_191 rfl ?_
                    refine rm_get (.int (S73.1 35)) flX7_247 dX7_doWork_192 rfl ?_
                    refine cj_iconst (v := 1) dX7_doWork_195 (by decide) ?_
                    refine cj_isub dX7_doWork_196 ?_
                    have i74 := h.1
                    replace h := h.2
                    refine rm_iast (j := 10) hA rfl dX7_doWork_197 i74 ?_
                    refine cj_pc (pc' := 198) rfl ?_
                    refine cj_goto (tgt := 206) dX7_doWork_198 (by decide) ?_
                    refine cj_vret rfl dX7_doWork_206 ?_
                    exact ⟨_, rfl, rfl, h⟩
                  · replace h := h.2 c70
                    refine cj_aload_n dX7_doWork_164 rfl ?_
                    refine cj_bipush (v := 15) dX7_doWork_165 (by decide) ?_
                    refine cj_iload dX7_doWork_167 rfl ?_
                    refine cj_pc (pc' := 169) rfl ?_
                    refine cj_iconst (v := 0) dX7_doWork_169 (by decide) ?_
                    refine cj_callV (M' := mX7_emit) (d' := 0) (k' := 0) (n' := 0) (index := 257) (np := 3) (As := [.int 15, .int (((S.2 10) (((S.2 41) (((S.1 39) - 1).toNatClampNeg)).toNatClampNeg)) - ((S.2 10) (((S.2 41) (((S.1 39) - 1).toNatClampNeg)).toNatClampNeg)) / 4 * 4), .int 0]) (rest := []) dX7_doWork_170 lkX7_257 mwX7_emit (tR_emit hA h) (by omega) rfl rfl (Nat.le_of_ble_eq_true rfl) rm_mo rfl (fun v9 G9 q75 => ?_) (fun _ _ h => absurd h id)
                    obtain ⟨S76, e8, e9, h⟩ := q75
                    subst e8
                    subst e9
                    refine cj_st (st' := []) rfl ?_
                    refine cj_aload_n dX7_doWork_173 rfl ?_
                    refine cj_bipush (v := 11) dX7_doWork_174 (by decide) ?_
                    refine cj_aload_n dX7_doWork_176 rfl ?_
                    refine cj_pc (pc' := 177) rfl ?_
                    refine rm_get (.ref (ad 10)) flX7_24 dX7_doWork_177 rfl ?_
                    refine cj_iload_n dX7_doWork_180 rfl ?_
                    have i77 := h.1
                    replace h := h.2
                    refine rm_iald (j := 10) (x := (S76.2 10) (((S.2 42) (((S.1 39) - 1).toNatClampNeg)).toNatClampNeg)) hA rfl dX7_doWork_181 i77 rfl ?_
                    refine cj_iconst (v := 0) dX7_doWork_182 (by decide) ?_
                    refine cj_callV (M' := mX7_emit) (d' := 0) (k' := 0) (n' := 0) (index := 257) (np := 3) (As := [.int 11, .int ((S76.2 10) (((S.2 42) (((S.1 39) - 1).toNatClampNeg)).toNatClampNeg)), .int 0]) (rest := []) dX7_doWork_183 lkX7_257 mwX7_emit (tR_emit hA h) (by omega) rfl rfl (Nat.le_of_ble_eq_true rfl) rm_mo rfl (fun v9 G9 q78 => ?_) (fun _ _ h => absurd h id)
                    obtain ⟨S79, e8, e9, h⟩ := q78
                    subst e8
                    subst e9
                    refine cj_st (st' := []) rfl ?_
                    refine cj_pc (pc' := 186) rfl ?_
                    refine cj_aload_n dX7_doWork_186 rfl ?_
                    refine rm_get (.ref (ad 10)) flX7_24 dX7_doWork_187 rfl ?_
                    refine cj_iload_n dX7_doWork_190 rfl ?_
                    refine cj_aload_n dX7_doWork_191 rfl ?_
                    refine rm_get (.int (S79.1 35)) flX7_247 dX7_doWork_192 rfl ?_
                    refine cj_pc (pc' := 195) rfl ?_
                    refine cj_iconst (v := 1) dX7_doWork_195 (by decide) ?_
                    refine cj_isub dX7_doWork_196 ?_
                    have i80 := h.1
                    replace h := h.2
                    refine rm_iast (j := 10) hA rfl dX7_doWork_197 i80 ?_
                    refine cj_goto (tgt := 206) dX7_doWork_198 (by decide) ?_
                    refine cj_vret rfl dX7_doWork_206 ?_
                    exact ⟨_, rfl, rfl, h⟩
              · replace h := h.2 c66
                refine cj_aload_n dX7_doWork_127 rfl ?_
                refine cj_pc (pc' := 128) rfl ?_
                refine cj_iload_n dX7_doWork_128 rfl ?_
                refine cj_iconst (v := 2) dX7_doWork_129 (by decide) ?_
                refine cj_aload_n dX7_doWork_130 rfl ?_
                refine rm_get (.int (S.1 35)) flX7_247 dX7_doWork_131 rfl ?_
                refine cj_callV (M' := mX7_set) (d' := 0) (k' := 0) (n' := 0) (index := 272) (np := 3) (As := [.int ((S.2 42) (((S.1 39) - 1).toNatClampNeg)), .int 2, .int (S.1 35)]) (rest := []) dX7_doWork_134 lkX7_272 mwX7_set (tR_set hA h) (by omega) rfl rfl (Nat.le_of_ble_eq_true rfl) rm_mo rfl (fun v9 G9 q81 => ?_) (fun _ _ h => absurd h id)
                obtain ⟨S82, e8, e9, h⟩ := q81
                subst e8
                subst e9
                refine cj_st (st' := []) rfl ?_
                refine cj_pc (pc' := 137) rfl ?_
                refine cj_iload dX7_doWork_137 rfl ?_
                refine cj_if_le (tgt := 206) dX7_doWork_139 (by decide) (fun c83 => ?_) (fun c83 => ?_)
                · replace h := h.1 c83
                  refine cj_vret rfl dX7_doWork_206 ?_
                  exact ⟨_, rfl, rfl, h⟩
                · replace h := h.2 c83
                  refine cj_aload_n dX7_doWork_142 rfl ?_
                  refine cj_bipush (v := 20) dX7_doWork_143 (by decide) ?_
                  refine cj_pc (pc' := 145) rfl ?_
                  refine cj_iload dX7_doWork_145 rfl ?_
                  refine cj_iconst (v := 0) dX7_doWork_147 (by decide) ?_
                  refine cj_callV (M' := mX7_emit) (d' := 0) (k' := 0) (n' := 0) (index := 257) (np := 3) (As := [.int 20, .int (((S.2 10) (((S.2 41) (((S.1 39) - 1).toNatClampNeg)).toNatClampNeg)) - ((S.2 10) (((S.2 41) (((S.1 39) - 1).toNatClampNeg)).toNatClampNeg)) / 4 * 4), .int 0]) (rest := []) dX7_doWork_148 lkX7_257 mwX7_emit (tR_emit hA h) (by omega) rfl rfl (Nat.le_of_ble_eq_true rfl) rm_mo rfl (fun v9 G9 q84 => ?_) (fun _ _ h => absurd h id)
                  obtain ⟨S85, e8, e9, h⟩ := q84
                  subst e8
                  subst e9
                  refine cj_st (st' := []) rfl ?_
                  refine cj_goto (tgt := 206) dX7_doWork_151 (by decide) ?_
                  refine cj_vret rfl dX7_doWork_206 ?_
                  exact ⟨_, rfl, rfl, h⟩
            · replace h := h.2 c65
              refine cj_aload_n dX7_doWork_114 rfl ?_
              refine cj_pc (pc' := 115) rfl ?_
              refine cj_iload_n dX7_doWork_115 rfl ?_
              refine cj_callV (M' := mX7_generateSwitch) (d' := 2) (k' := 0) (n' := 0) (index := 275) (np := 1) (As := [.int ((S.2 41) (((S.1 39) - 1).toNatClampNeg))]) (rest := []) dX7_doWork_116 lkX7_275 mwX7_generateSwitch (tR_generateSwitch hA h) (by omega) rfl rfl (Nat.le_of_ble_eq_true rfl) rm_mo rfl (fun v9 G9 q86 => ?_) (fun _ _ h => absurd h id)
              obtain ⟨S87, e8, e9, h⟩ := q86
              subst e8
              subst e9
              refine cj_st (st' := []) rfl ?_
              refine cj_goto (tgt := 206) dX7_doWork_119 (by decide) ?_
              refine cj_vret rfl dX7_doWork_206 ?_
              exact ⟨_, rfl, rfl, h⟩
          · replace h := h.2 c64
            refine cj_aload_n dX7_doWork_96 rfl ?_
            refine cj_pc (pc' := 97) rfl ?_
            refine cj_iload_n dX7_doWork_97 rfl ?_
            refine cj_iconst (v := 1) dX7_doWork_98 (by decide) ?_
            refine cj_aload_n dX7_doWork_99 rfl ?_
            refine rm_get (.int (S.1 35)) flX7_247 dX7_doWork_100 rfl ?_
            refine cj_callV (M' := mX7_set) (d' := 0) (k' := 0) (n' := 0) (index := 272) (np := 3) (As := [.int ((S.2 41) (((S.1 39) - 1).toNatClampNeg)), .int 1, .int (S.1 35)]) (rest := []) dX7_doWork_103 lkX7_272 mwX7_set (tR_set hA h) (by omega) rfl rfl (Nat.le_of_ble_eq_true rfl) rm_mo rfl (fun v9 G9 q88 => ?_) (fun _ _ h => absurd h id)
            obtain ⟨S89, e8, e9, h⟩ := q88
            subst e8
            subst e9
            refine cj_st (st' := []) rfl ?_
            refine cj_pc (pc' := 106) rfl ?_
            refine cj_goto (tgt := 206) dX7_doWork_106 (by decide) ?_
            refine cj_vret rfl dX7_doWork_206 ?_
            exact ⟨_, rfl, rfl, h⟩
        · replace h := h.2 c63
          refine cj_aload_n dX7_doWork_81 rfl ?_
          refine cj_iload_n dX7_doWork_82 rfl ?_
          refine cj_iload_n dX7_doWork_83 rfl ?_
          refine cj_pc (pc' := 84) rfl ?_
          refine cj_iconst (v := 0) dX7_doWork_84 (by decide) ?_
          refine cj_callV (M' := mX7_emit) (d' := 0) (k' := 0) (n' := 0) (index := 257) (np := 3) (As := [.int ((S.2 41) (((S.1 39) - 1).toNatClampNeg)), .int ((S.2 42) (((S.1 39) - 1).toNatClampNeg)), .int 0]) (rest := []) dX7_doWork_85 lkX7_257 mwX7_emit (tR_emit hA h) (by omega) rfl rfl (Nat.le_of_ble_eq_true rfl) rm_mo rfl (fun v9 G9 q90 => ?_) (fun _ _ h => absurd h id)
          obtain ⟨S91, e8, e9, h⟩ := q90
          subst e8
          subst e9
          refine cj_st (st' := []) rfl ?_
          refine cj_goto (tgt := 206) dX7_doWork_88 (by decide) ?_
          refine cj_vret rfl dX7_doWork_206 ?_
          exact ⟨_, rfl, rfl, h⟩
      · replace h := h.2 c62
        refine cj_aload_n dX7_doWork_68 rfl ?_
        refine cj_pc (pc' := 69) rfl ?_
        refine cj_iload_n dX7_doWork_69 rfl ?_
        refine cj_callV (M' := mX7_generate) (d' := 3) (k' := 0) (n' := 0) (index := 269) (np := 1) (As := [.int ((S.2 41) (((S.1 39) - 1).toNatClampNeg))]) (rest := []) dX7_doWork_70 lkX7_269 mwX7_generate (tR_generate hA h) (by omega) rfl rfl (Nat.le_of_ble_eq_true rfl) rm_mo rfl (fun v9 G9 q92 => ?_) (fun _ _ h => absurd h id)
        obtain ⟨S93, e8, e9, h⟩ := q92
        subst e8
        subst e9
        refine cj_st (st' := []) rfl ?_
        refine cj_goto (tgt := 206) dX7_doWork_73 (by decide) ?_
        refine cj_vret rfl dX7_doWork_206 ?_
        exact ⟨_, rfl, rfl, h⟩
def wl_makeCode_24 (Q : rm_S → Prop) (K : rm_S → Prop) : Nat → rm_S → Prop
  | 0, _ => False
  | n + 1, S => (((S.1 39) ≤ 0 → K S) ∧ (¬ (S.1 39) ≤ 0 → ((120 < (S.1 35) → K S) ∧ (¬ 120 < (S.1 35) → wp_doWork S (fun S8 => wl_makeCode_24 Q K n S8)))))
def wp_makeCode (S : rm_S) (Q : rm_S → Prop) : Prop := wp_todoEmit (rm_pf (rm_pf S 35 0) 39 0) 0 0 (fun S2 => wp_todoNode S2 (S2.1 34) (fun S4 => (∃ n9 : Nat, wl_makeCode_24 Q (fun S9 => Q S9) n9 S4)))
set_option maxHeartbeats 4000000 in
set_option maxRecDepth 100000 in
theorem wl_makeCode_24_ok {mo : Nat} {ad : Nat → Nat} (hA : rm_A mo ad) {G0 : cj_G} {d k0 n0 k n9 : Nat} (hd9 : 5 ≤ d) {Q : rm_S → Prop} {K : rm_S → Prop} (hK : ∀ (S : rm_S), K S → cj_J mX7_makeCode d k0 n0 (rm_post mo ad G0 Q) cj_no k n9 47 [(0, .ref mo)] [] (rm_md mo ad S G0)) : ∀ (n : Nat) (S : rm_S), wl_makeCode_24 Q K n S → cj_J mX7_makeCode d k0 n0 (rm_post mo ad G0 Q) cj_no k n9 24 [(0, .ref mo)] [] (rm_md mo ad S G0) := by
  intro n
  induction n with
  | zero => intro S h; exact absurd h id
  | succ n ih =>
    intro S h
    unfold wl_makeCode_24 at h
    refine cj_aload_n dX7_makeCode_24 rfl ?_
    refine cj_pc (pc' := 25) rfl ?_
    refine rm_get (.int (S.1 39)) flX7_250 dX7_makeCode_25 rfl ?_
    refine cj_if_le (tgt := 47) dX7_makeCode_28 (by decide) (fun c5 => ?_) (fun c5 => ?_)
    · replace h := h.1 c5
      refine cj_sub (lv' := [(0, .ref mo)]) (by simp) ?_
      exact hK _ h
    · replace h := h.2 c5
      refine cj_aload_n dX7_makeCode_31 rfl ?_
      refine rm_get (.int (S.1 35)) flX7_247 dX7_makeCode_32 rfl ?_
      refine cj_bipush (v := 120) dX7_makeCode_35 (by decide) ?_
      refine cj_pc (pc' := 37) rfl ?_
      refine cj_icmp_gt (tgt := 47) dX7_makeCode_37 (by decide) (fun c6 => ?_) (fun c6 => ?_)
      · replace h := h.1 c6
        refine cj_sub (lv' := [(0, .ref mo)]) (by simp) ?_
        exact hK _ h
      · replace h := h.2 c6
        refine cj_aload_n dX7_makeCode_40 rfl ?_
        refine cj_callV (M' := mX7_doWork) (d' := 4) (k' := 0) (n' := 0) (index := 281) (np := 0) (As := []) (rest := []) dX7_makeCode_41 lkX7_281 mwX7_doWork (tR_doWork hA h) (by omega) rfl rfl (Nat.le_of_ble_eq_true rfl) rm_mo rfl (fun v9 G9 q7 => ?_) (fun _ _ h => absurd h id)
        obtain ⟨S8, e8, e9, h⟩ := q7
        subst e8
        subst e9
        refine cj_st (st' := []) rfl ?_
        refine cj_goto (tgt := 24) dX7_makeCode_44 (by decide) ?_
        refine cj_sub (lv' := [(0, .ref mo)]) (by simp) ?_
        exact ih _ h
set_option maxHeartbeats 4000000 in
set_option maxRecDepth 100000 in
theorem tR_makeCode {mo : Nat} {ad : Nat → Nat} (hA : rm_A mo ad) {G0 : cj_G} {S : rm_S} {Q : rm_S → Prop} (h : wp_makeCode S Q) : cj_T mX7_makeCode 5 0 0 [.ref mo] (rm_md mo ad S G0) (rm_post mo ad G0 Q) cj_no := by
  refine cj_T_of (by decide +kernel) (Nat.le_of_ble_eq_true rfl) ?_
  refine cj_lvs (lv' := [(0, .ref mo)]) rfl ?_
  unfold wp_makeCode at h
  refine cj_aload_n dX7_makeCode_0 rfl ?_
  refine cj_iconst (v := 0) dX7_makeCode_1 (by decide) ?_
  refine rm_put flX7_247 dX7_makeCode_2 rmp_35 rfl rfl (by decide) ?_
  refine cj_aload_n dX7_makeCode_5 rfl ?_
  refine cj_pc (pc' := 6) rfl ?_
  refine cj_iconst (v := 0) dX7_makeCode_6 (by decide) ?_
  refine rm_put flX7_250 dX7_makeCode_7 rmp_39 rfl rfl (by decide) ?_
  refine cj_aload_n dX7_makeCode_10 rfl ?_
  refine cj_iconst (v := 0) dX7_makeCode_11 (by decide) ?_
  refine cj_iconst (v := 0) dX7_makeCode_12 (by decide) ?_
  refine cj_pc (pc' := 13) rfl ?_
  refine cj_callV (M' := mX7_todoEmit) (d' := 1) (k' := 0) (n' := 0) (index := 260) (np := 2) (As := [.int 0, .int 0]) (rest := []) dX7_makeCode_13 lkX7_260 mwX7_todoEmit (tR_todoEmit hA h) (by omega) rfl rfl (Nat.le_of_ble_eq_true rfl) rm_mo rfl (fun v9 G9 q1 => ?_) (fun _ _ h => absurd h id)
  obtain ⟨S2, e8, e9, h⟩ := q1
  subst e8
  subst e9
  refine cj_st (st' := []) rfl ?_
  refine cj_aload_n dX7_makeCode_16 rfl ?_
  refine cj_aload_n dX7_makeCode_17 rfl ?_
  refine rm_get (.int (S2.1 34)) flX7_223 dX7_makeCode_18 rfl ?_
  refine cj_callV (M' := mX7_todoNode) (d' := 1) (k' := 0) (n' := 0) (index := 263) (np := 1) (As := [.int (S2.1 34)]) (rest := []) dX7_makeCode_21 lkX7_263 mwX7_todoNode (tR_todoNode hA h) (by omega) rfl rfl (Nat.le_of_ble_eq_true rfl) rm_mo rfl (fun v9 G9 q3 => ?_) (fun _ _ h => absurd h id)
  obtain ⟨S4, e8, e9, h⟩ := q3
  subst e8
  subst e9
  refine cj_st (st' := []) rfl ?_
  obtain ⟨n9, h⟩ := h
  refine cj_sub (lv' := [(0, .ref mo)]) (by simp) ?_
  refine wl_makeCode_24_ok hA (by omega) ?_ n9 _ h
  clear h
  intro S9 h
  refine cj_vret rfl dX7_makeCode_47 ?_
  exact ⟨_, rfl, rfl, h⟩
def wl_compile_12 (Q : Int32 → rm_S → Prop) (K : Int32 → rm_S → Prop) : Nat → Int32 → rm_S → Prop
  | 0, _, _ => False
  | n + 1, v1, S => (((S.1 1) ≤ v1 → K v1 S) ∧ (¬ (S.1 1) ≤ v1 → (vp_in v1 90 ∧ ((((S.2 2) v1.toNatClampNeg) = 32 → wl_compile_12 Q K n (v1 + 1) S) ∧ (¬ ((S.2 2) v1.toNatClampNeg) = 32 → (vp_in v1 90 ∧ (vp_in (S.1 3) 90 ∧ wl_compile_12 Q K n (v1 + 1) (rm_pf (rm_pa S 4 ((S.1 3).toNatClampNeg) (vp_nar .char ((S.2 2) v1.toNatClampNeg))) 3 ((S.1 3) + 1)))))))))
def wl_compile_163 (Q : Int32 → rm_S → Prop) (K : Int32 → rm_S → Prop) : Nat → Int32 → rm_S → Prop
  | 0, _, _ => False
  | n + 1, v1, S => (((3 * (S.1 35)) ≤ v1 → K v1 S) ∧ (¬ (3 * (S.1 35)) ≤ v1 → (vp_in v1 372 ∧ (vp_in v1 372 ∧ wl_compile_163 Q K n (v1 + 1) (rm_pa S 38 v1.toNatClampNeg ((S.2 36) v1.toNatClampNeg))))))
def wp_compile (S : rm_S) (Q : Int32 → rm_S → Prop) : Prop := (∃ n9 : Nat, wl_compile_12 Q (fun w7 S6 => wp_readText (rm_pf (rm_pf (rm_pf S6 1 0) 5 0) 6 0) (fun S9 => ((¬ (S9.1 6) = 0 → ((¬ (S9.1 6) = 0 → (((S9.1 6) = 0 → (((S9.1 6) = 0 → (∃ n9 : Nat, wl_compile_163 Q (fun w18 S17 => Q (S17.1 37) (rm_pf (rm_pf (rm_pf (rm_pf (rm_pf (rm_pf (rm_pf (rm_pf (rm_pf S17 46 0) 45 0) 47 0) 49 1) 50 1) 51 0) 53 0) 54 1) 55 0)) n9 0 (rm_pf (rm_pf S9 7 (-1)) 37 (S9.1 35)))) ∧ (¬ (S9.1 6) = 0 → wp_fail (rm_pf S9 7 (-1)) 1 (fun x20 S21 => Q x20 S21)))) ∧ (¬ (S9.1 6) = 0 → (((S9.1 6) = 0 → (∃ n9 : Nat, wl_compile_163 Q (fun w24 S23 => Q (S23.1 37) (rm_pf (rm_pf (rm_pf (rm_pf (rm_pf (rm_pf (rm_pf (rm_pf (rm_pf S23 46 0) 45 0) 47 0) 49 1) 50 1) 51 0) 53 0) 54 1) 55 0)) n9 0 (rm_pf (rm_pf S9 7 (S9.1 5)) 37 (S9.1 35)))) ∧ (¬ (S9.1 6) = 0 → wp_fail (rm_pf S9 7 (S9.1 5)) 1 (fun x26 S27 => Q x26 S27)))))) ∧ ((S9.1 6) = 0 → (((S9.1 35) ≤ 120 → (((S9.1 6) = 0 → (((S9.1 6) = 0 → (∃ n9 : Nat, wl_compile_163 Q (fun w32 S31 => Q (S31.1 37) (rm_pf (rm_pf (rm_pf (rm_pf (rm_pf (rm_pf (rm_pf (rm_pf (rm_pf S31 46 0) 45 0) 47 0) 49 1) 50 1) 51 0) 53 0) 54 1) 55 0)) n9 0 (rm_pf (rm_pf S9 7 (-1)) 37 (S9.1 35)))) ∧ (¬ (S9.1 6) = 0 → wp_fail (rm_pf S9 7 (-1)) 1 (fun x34 S35 => Q x34 S35)))) ∧ (¬ (S9.1 6) = 0 → (((S9.1 6) = 0 → (∃ n9 : Nat, wl_compile_163 Q (fun w38 S37 => Q (S37.1 37) (rm_pf (rm_pf (rm_pf (rm_pf (rm_pf (rm_pf (rm_pf (rm_pf (rm_pf S37 46 0) 45 0) 47 0) 49 1) 50 1) 51 0) 53 0) 54 1) 55 0)) n9 0 (rm_pf (rm_pf S9 7 (S9.1 5)) 37 (S9.1 35)))) ∧ (¬ (S9.1 6) = 0 → wp_fail (rm_pf S9 7 (S9.1 5)) 1 (fun x40 S41 => Q x40 S41)))))) ∧ (¬ (S9.1 35) ≤ 120 → wp_fail (rm_pf (rm_pf (rm_pf S9 6 1) 5 (S9.1 3)) 7 (S9.1 3)) 1 (fun x43 S44 => Q x43 S44)))))) ∧ ((S9.1 6) = 0 → wp_makeCode S9 (fun S46 => ((¬ (S46.1 6) = 0 → (((S46.1 6) = 0 → (((S46.1 6) = 0 → (∃ n9 : Nat, wl_compile_163 Q (fun w51 S50 => Q (S50.1 37) (rm_pf (rm_pf (rm_pf (rm_pf (rm_pf (rm_pf (rm_pf (rm_pf (rm_pf S50 46 0) 45 0) 47 0) 49 1) 50 1) 51 0) 53 0) 54 1) 55 0)) n9 0 (rm_pf (rm_pf S46 7 (-1)) 37 (S46.1 35)))) ∧ (¬ (S46.1 6) = 0 → wp_fail (rm_pf S46 7 (-1)) 1 (fun x53 S54 => Q x53 S54)))) ∧ (¬ (S46.1 6) = 0 → (((S46.1 6) = 0 → (∃ n9 : Nat, wl_compile_163 Q (fun w57 S56 => Q (S56.1 37) (rm_pf (rm_pf (rm_pf (rm_pf (rm_pf (rm_pf (rm_pf (rm_pf (rm_pf S56 46 0) 45 0) 47 0) 49 1) 50 1) 51 0) 53 0) 54 1) 55 0)) n9 0 (rm_pf (rm_pf S46 7 (S46.1 5)) 37 (S46.1 35)))) ∧ (¬ (S46.1 6) = 0 → wp_fail (rm_pf S46 7 (S46.1 5)) 1 (fun x59 S60 => Q x59 S60)))))) ∧ ((S46.1 6) = 0 → (((S46.1 35) ≤ 120 → (((S46.1 6) = 0 → (((S46.1 6) = 0 → (∃ n9 : Nat, wl_compile_163 Q (fun w65 S64 => Q (S64.1 37) (rm_pf (rm_pf (rm_pf (rm_pf (rm_pf (rm_pf (rm_pf (rm_pf (rm_pf S64 46 0) 45 0) 47 0) 49 1) 50 1) 51 0) 53 0) 54 1) 55 0)) n9 0 (rm_pf (rm_pf S46 7 (-1)) 37 (S46.1 35)))) ∧ (¬ (S46.1 6) = 0 → wp_fail (rm_pf S46 7 (-1)) 1 (fun x67 S68 => Q x67 S68)))) ∧ (¬ (S46.1 6) = 0 → (((S46.1 6) = 0 → (∃ n9 : Nat, wl_compile_163 Q (fun w71 S70 => Q (S70.1 37) (rm_pf (rm_pf (rm_pf (rm_pf (rm_pf (rm_pf (rm_pf (rm_pf (rm_pf S70 46 0) 45 0) 47 0) 49 1) 50 1) 51 0) 53 0) 54 1) 55 0)) n9 0 (rm_pf (rm_pf S46 7 (S46.1 5)) 37 (S46.1 35)))) ∧ (¬ (S46.1 6) = 0 → wp_fail (rm_pf S46 7 (S46.1 5)) 1 (fun x73 S74 => Q x73 S74)))))) ∧ (¬ (S46.1 35) ≤ 120 → wp_fail (rm_pf (rm_pf (rm_pf S46 6 1) 5 (S46.1 3)) 7 (S46.1 3)) 1 (fun x76 S77 => Q x76 S77)))))))))) n9 0 (rm_pf (rm_pf S 0 0) 3 0))
set_option maxHeartbeats 4000000 in
set_option maxRecDepth 100000 in
theorem wl_compile_12_ok {mo : Nat} {ad : Nat → Nat} (hA : rm_A mo ad) {G0 : cj_G} {d k0 n0 k n9 : Nat} (hd9 : 6 ≤ d) {Q : Int32 → rm_S → Prop} {K : Int32 → rm_S → Prop} (hK : ∀ (v1 : Int32) (S : rm_S), K v1 S → cj_J mX7_compile d k0 n0 (rm_posti mo ad G0 Q) cj_no k n9 62 [(1, .int v1), (0, .ref mo)] [] (rm_md mo ad S G0)) : ∀ (n : Nat) (v1 : Int32) (S : rm_S), wl_compile_12 Q K n v1 S → cj_J mX7_compile d k0 n0 (rm_posti mo ad G0 Q) cj_no k n9 12 [(1, .int v1), (0, .ref mo)] [] (rm_md mo ad S G0) := by
  intro n
  induction n with
  | zero => intro v1 S h; exact absurd h id
  | succ n ih =>
    intro v1 S h
    unfold wl_compile_12 at h
    refine cj_iload_n dX7_compile_12 rfl ?_
    refine cj_pc (pc' := 13) rfl ?_
    refine cj_aload_n dX7_compile_13 rfl ?_
    refine rm_get (.int (S.1 1)) flX7_115 dX7_compile_14 rfl ?_
    refine cj_icmp_ge (tgt := 62) dX7_compile_17 (by decide) (fun c1 => ?_) (fun c1 => ?_)
    · replace h := h.1 c1
      refine cj_sub (lv' := [(1, .int v1), (0, .ref mo)]) (by simp) ?_
      exact hK _ _ h
    · replace h := h.2 c1
      refine cj_aload_n dX7_compile_20 rfl ?_
      refine rm_get (.ref (ad 2)) flX7_7 dX7_compile_21 rfl ?_
      refine cj_pc (pc' := 24) rfl ?_
      refine cj_iload_n dX7_compile_24 rfl ?_
      have i2 := h.1
      replace h := h.2
      refine rm_cald (j := 2) (x := (S.2 2) v1.toNatClampNeg) hA rfl dX7_compile_25 i2 rfl ?_
      refine cj_bipush (v := 32) dX7_compile_26 (by decide) ?_
      refine cj_icmp_eq (tgt := 56) dX7_compile_28 (by decide) (fun c3 => ?_) (fun c3 => ?_)
      · replace h := h.1 c3
        refine cj_iinc (v := v1 + 1) (lv' := [(1, .int (v1 + 1)), (0, .ref mo)]) dX7_compile_56 rfl rfl (by decide) rfl ?_
        refine cj_pc (pc' := 59) rfl ?_
        refine cj_goto (tgt := 12) dX7_compile_59 (by decide) ?_
        refine cj_sub (lv' := [(1, .int (v1 + 1)), (0, .ref mo)]) (by simp) ?_
        exact ih _ _ h
      · replace h := h.2 c3
        refine cj_aload_n dX7_compile_31 rfl ?_
        refine rm_get (.ref (ad 4)) flX7_13 dX7_compile_32 rfl ?_
        refine cj_aload_n dX7_compile_35 rfl ?_
        refine rm_get (.int (S.1 3)) flX7_121 dX7_compile_36 rfl ?_
        refine cj_pc (pc' := 39) rfl ?_
        refine cj_aload_n dX7_compile_39 rfl ?_
        refine rm_get (.ref (ad 2)) flX7_7 dX7_compile_40 rfl ?_
        refine cj_iload_n dX7_compile_43 rfl ?_
        have i4 := h.1
        replace h := h.2
        refine rm_cald (j := 2) (x := (S.2 2) v1.toNatClampNeg) hA rfl dX7_compile_44 i4 rfl ?_
        have i5 := h.1
        replace h := h.2
        refine rm_cast (j := 4) hA rfl dX7_compile_45 i5 ?_
        refine cj_pc (pc' := 46) rfl ?_
        refine cj_aload_n dX7_compile_46 rfl ?_
        refine cj_dup dX7_compile_47 rfl ?_
        refine rm_get (.int (S.1 3)) flX7_121 dX7_compile_48 rfl ?_
        refine cj_iconst (v := 1) dX7_compile_51 (by decide) ?_
        refine cj_iadd dX7_compile_52 ?_
        refine cj_pc (pc' := 53) rfl ?_
        refine rm_put flX7_121 dX7_compile_53 rmp_3 rfl rfl (by decide) ?_
        refine cj_iinc (v := v1 + 1) (lv' := [(1, .int (v1 + 1)), (0, .ref mo)]) dX7_compile_56 rfl rfl (by decide) rfl ?_
        refine cj_goto (tgt := 12) dX7_compile_59 (by decide) ?_
        refine cj_sub (lv' := [(1, .int (v1 + 1)), (0, .ref mo)]) (by simp) ?_
        exact ih _ _ h
set_option maxHeartbeats 4000000 in
set_option maxRecDepth 100000 in
theorem wl_compile_163_ok {mo : Nat} {ad : Nat → Nat} (hA : rm_A mo ad) {G0 : cj_G} {d k0 n0 k n9 : Nat} (hd9 : 6 ≤ d) {Q : Int32 → rm_S → Prop} {K : Int32 → rm_S → Prop} (hK : ∀ (v1 : Int32) (S : rm_S), K v1 S → cj_J mX7_compile d k0 n0 (rm_posti mo ad G0 Q) cj_no k n9 191 [(1, .int v1), (0, .ref mo)] [] (rm_md mo ad S G0)) : ∀ (n : Nat) (v1 : Int32) (S : rm_S), wl_compile_163 Q K n v1 S → cj_J mX7_compile d k0 n0 (rm_posti mo ad G0 Q) cj_no k n9 163 [(1, .int v1), (0, .ref mo)] [] (rm_md mo ad S G0) := by
  intro n
  induction n with
  | zero => intro v1 S h; exact absurd h id
  | succ n ih =>
    intro v1 S h
    unfold wl_compile_163 at h
    refine cj_iload_n dX7_compile_163 rfl ?_
    refine cj_pc (pc' := 164) rfl ?_
    refine cj_iconst (v := 3) dX7_compile_164 (by decide) ?_
    refine cj_aload_n dX7_compile_165 rfl ?_
    refine rm_get (.int (S.1 35)) flX7_247 dX7_compile_166 rfl ?_
    refine cj_imul dX7_compile_169 ?_
    refine cj_icmp_ge (tgt := 191) dX7_compile_170 (by decide) (fun c14 => ?_) (fun c14 => ?_)
    · replace h := h.1 c14
      refine cj_sub (lv' := [(1, .int v1), (0, .ref mo)]) (by simp) ?_
      exact hK _ _ h
    · replace h := h.2 c14
      refine cj_aload_n dX7_compile_173 rfl ?_
      refine cj_pc (pc' := 174) rfl ?_
      refine rm_get (.ref (ad 38)) flX7_82 dX7_compile_174 rfl ?_
      refine cj_iload_n dX7_compile_177 rfl ?_
      refine cj_aload_n dX7_compile_178 rfl ?_
      refine rm_get (.ref (ad 36)) flX7_79 dX7_compile_179 rfl ?_
      refine cj_iload_n dX7_compile_182 rfl ?_
      refine cj_pc (pc' := 183) rfl ?_
      have i15 := h.1
      replace h := h.2
      refine rm_iald (j := 36) (x := (S.2 36) v1.toNatClampNeg) hA rfl dX7_compile_183 i15 rfl ?_
      have i16 := h.1
      replace h := h.2
      refine rm_iast (j := 38) hA rfl dX7_compile_184 i16 ?_
      refine cj_iinc (v := v1 + 1) (lv' := [(1, .int (v1 + 1)), (0, .ref mo)]) dX7_compile_185 rfl rfl (by decide) rfl ?_
      refine cj_goto (tgt := 163) dX7_compile_188 (by decide) ?_
      refine cj_sub (lv' := [(1, .int (v1 + 1)), (0, .ref mo)]) (by simp) ?_
      exact ih _ _ h
set_option maxHeartbeats 4000000 in
set_option maxRecDepth 100000 in
theorem tR_compile {mo : Nat} {ad : Nat → Nat} (hA : rm_A mo ad) {G0 : cj_G} {S : rm_S} {Q : Int32 → rm_S → Prop} (h : wp_compile S Q) : cj_T mX7_compile 6 0 0 [.ref mo] (rm_md mo ad S G0) (rm_posti mo ad G0 Q) cj_no := by
  refine cj_T_of (by decide +kernel) (Nat.le_of_ble_eq_true rfl) ?_
  refine cj_lvs (lv' := [(0, .ref mo)]) rfl ?_
  unfold wp_compile at h
  refine cj_aload_n dX7_compile_0 rfl ?_
  refine cj_iconst (v := 0) dX7_compile_1 (by decide) ?_
  refine rm_put flX7_112 dX7_compile_2 rmp_0 rfl rfl (by decide) ?_
  refine cj_aload_n dX7_compile_5 rfl ?_
  refine cj_pc (pc' := 6) rfl ?_
  refine cj_iconst (v := 0) dX7_compile_6 (by decide) ?_
  refine rm_put flX7_121 dX7_compile_7 rmp_3 rfl rfl (by decide) ?_
  refine cj_iconst (v := 0) dX7_compile_10 (by decide) ?_
  refine cj_istore_n (lv' := [(1, .int 0), (0, .ref mo)]) dX7_compile_11 (by decide) rfl ?_
  obtain ⟨n9, h⟩ := h
  refine cj_sub (lv' := [(1, .int 0), (0, .ref mo)]) (by simp) ?_
  refine wl_compile_12_ok hA (by omega) ?_ n9 _ _ h
  clear h
  intro w7 S6 h
  refine cj_aload_n dX7_compile_62 rfl ?_
  refine cj_iconst (v := 0) dX7_compile_63 (by decide) ?_
  refine cj_pc (pc' := 64) rfl ?_
  refine rm_put flX7_115 dX7_compile_64 rmp_1 rfl rfl (by decide) ?_
  refine cj_aload_n dX7_compile_67 rfl ?_
  refine cj_iconst (v := 0) dX7_compile_68 (by decide) ?_
  refine rm_put flX7_118 dX7_compile_69 rmp_5 rfl rfl (by decide) ?_
  refine cj_aload_n dX7_compile_72 rfl ?_
  refine cj_pc (pc' := 73) rfl ?_
  refine cj_iconst (v := 0) dX7_compile_73 (by decide) ?_
  refine rm_put flX7_138 dX7_compile_74 rmp_6 rfl rfl (by decide) ?_
  refine cj_aload_n dX7_compile_77 rfl ?_
  refine cj_callV (M' := mX7_readText) (d' := 5) (k' := 0) (n' := 0) (index := 284) (np := 0) (As := []) (rest := []) dX7_compile_78 lkX7_284 mwX7_readText (tR_readText hA h) (by omega) rfl rfl (Nat.le_of_ble_eq_true rfl) rm_mo rfl (fun v9 G9 q8 => ?_) (fun _ _ h => absurd h id)
  obtain ⟨S9, e8, e9, h⟩ := q8
  subst e8
  subst e9
  refine cj_st (st' := []) rfl ?_
  refine cj_aload_n dX7_compile_81 rfl ?_
  refine cj_pc (pc' := 82) rfl ?_
  refine rm_get (.int (S9.1 6)) flX7_138 dX7_compile_82 rfl ?_
  refine cj_if_ne (tgt := 92) dX7_compile_85 (by decide) (fun c10 => ?_) (fun c10 => ?_)
  · replace h := h.1 c10
    refine cj_aload_n dX7_compile_92 rfl ?_
    refine rm_get (.int (S9.1 6)) flX7_138 dX7_compile_93 rfl ?_
    refine cj_if_ne (tgt := 121) dX7_compile_96 (by decide) (fun c11 => ?_) (fun c11 => ?_)
    · replace h := h.1 c11
      refine cj_aload_n dX7_compile_121 rfl ?_
      refine cj_pc (pc' := 122) rfl ?_
      refine cj_aload_n dX7_compile_122 rfl ?_
      refine rm_get (.int (S9.1 6)) flX7_138 dX7_compile_123 rfl ?_
      refine cj_if_eq (tgt := 136) dX7_compile_126 (by decide) (fun c12 => ?_) (fun c12 => ?_)
      · replace h := h.1 c12
        refine cj_iconst (v := (-1)) dX7_compile_136 (by decide) ?_
        refine rm_put flX7_16 dX7_compile_137 rmp_7 rfl rfl (by decide) ?_
        refine cj_pc (pc' := 140) rfl ?_
        refine cj_aload_n dX7_compile_140 rfl ?_
        refine rm_get (.int (S9.1 6)) flX7_138 dX7_compile_141 rfl ?_
        refine cj_if_eq (tgt := 153) dX7_compile_144 (by decide) (fun c13 => ?_) (fun c13 => ?_)
        · replace h := h.1 c13
          refine cj_aload_n dX7_compile_153 rfl ?_
          refine cj_aload_n dX7_compile_154 rfl ?_
          refine cj_pc (pc' := 155) rfl ?_
          refine rm_get (.int (S9.1 35)) flX7_247 dX7_compile_155 rfl ?_
          refine rm_put flX7_294 dX7_compile_158 rmp_37 rfl rfl (by decide) ?_
          refine cj_iconst (v := 0) dX7_compile_161 (by decide) ?_
          refine cj_istore_n (lv' := [(1, .int 0), (0, .ref mo)]) dX7_compile_162 (by decide) rfl ?_
          obtain ⟨n9, h⟩ := h
          refine cj_sub (lv' := [(1, .int 0), (0, .ref mo)]) (by simp) ?_
          refine wl_compile_163_ok hA (by omega) ?_ n9 _ _ h
          clear h
          intro w18 S17 h
          refine cj_aload_n dX7_compile_191 rfl ?_
          refine cj_pc (pc' := 192) rfl ?_
          refine cj_iconst (v := 0) dX7_compile_192 (by decide) ?_
          refine rm_put flX7_297 dX7_compile_193 rmp_46 rfl rfl (by decide) ?_
          refine cj_aload_n dX7_compile_196 rfl ?_
          refine cj_iconst (v := 0) dX7_compile_197 (by decide) ?_
          refine rm_put flX7_300 dX7_compile_198 rmp_45 rfl rfl (by decide) ?_
          refine cj_pc (pc' := 201) rfl ?_
          refine cj_aload_n dX7_compile_201 rfl ?_
          refine cj_iconst (v := 0) dX7_compile_202 (by decide) ?_
          refine rm_put flX7_303 dX7_compile_203 rmp_47 rfl rfl (by decide) ?_
          refine cj_aload_n dX7_compile_206 rfl ?_
          refine cj_iconst (v := 1) dX7_compile_207 (by decide) ?_
          refine cj_pc (pc' := 208) rfl ?_
          refine rm_put flX7_100 dX7_compile_208 rmp_49 rfl rfl (by decide) ?_
          refine cj_aload_n dX7_compile_211 rfl ?_
          refine cj_iconst (v := 1) dX7_compile_212 (by decide) ?_
          refine rm_put flX7_103 dX7_compile_213 rmp_50 rfl rfl (by decide) ?_
          refine cj_aload_n dX7_compile_216 rfl ?_
          refine cj_pc (pc' := 217) rfl ?_
          refine cj_iconst (v := 0) dX7_compile_217 (by decide) ?_
          refine rm_put flX7_306 dX7_compile_218 rmp_51 rfl rfl (by decide) ?_
          refine cj_aload_n dX7_compile_221 rfl ?_
          refine cj_iconst (v := 0) dX7_compile_222 (by decide) ?_
          refine rm_put flX7_309 dX7_compile_223 rmp_53 rfl rfl (by decide) ?_
          refine cj_pc (pc' := 226) rfl ?_
          refine cj_aload_n dX7_compile_226 rfl ?_
          refine cj_iconst (v := 1) dX7_compile_227 (by decide) ?_
          refine rm_put flX7_312 dX7_compile_228 rmp_54 rfl rfl (by decide) ?_
          refine cj_aload_n dX7_compile_231 rfl ?_
          refine cj_iconst (v := 0) dX7_compile_232 (by decide) ?_
          refine cj_pc (pc' := 233) rfl ?_
          refine rm_put flX7_315 dX7_compile_233 rmp_55 rfl rfl (by decide) ?_
          refine cj_aload_n dX7_compile_236 rfl ?_
          refine rm_get (.int (S17.1 37)) flX7_294 dX7_compile_237 rfl ?_
          refine cj_iret rfl dX7_compile_240 ?_
          exact ⟨_, _, rfl, rfl, h⟩
        · replace h := h.2 c13
          refine cj_aload_n dX7_compile_147 rfl ?_
          refine cj_pc (pc' := 148) rfl ?_
          refine cj_iconst (v := 1) dX7_compile_148 (by decide) ?_
          refine cj_callV (M' := mX7_fail) (d' := 0) (k' := 0) (n' := 0) (index := 290) (np := 1) (As := [.int 1]) (rest := []) dX7_compile_149 lkX7_290 mwX7_fail (tR_fail hA h) (by omega) rfl rfl (Nat.le_of_ble_eq_true rfl) rm_mo rfl (fun v9 G9 q19 => ?_) (fun _ _ h => absurd h id)
          obtain ⟨x20, S21, e8, e9, h⟩ := q19
          subst e8
          subst e9
          refine cj_st (st' := [.int x20]) rfl ?_
          refine cj_iret rfl dX7_compile_152 ?_
          exact ⟨_, _, rfl, rfl, h⟩
      · replace h := h.2 c12
        refine cj_aload_n dX7_compile_129 rfl ?_
        refine rm_get (.int (S9.1 5)) flX7_118 dX7_compile_130 rfl ?_
        refine cj_pc (pc' := 133) rfl ?_
        refine cj_goto (tgt := 137) dX7_compile_133 (by decide) ?_
        refine rm_put flX7_16 dX7_compile_137 rmp_7 rfl rfl (by decide) ?_
        refine cj_aload_n dX7_compile_140 rfl ?_
        refine rm_get (.int (S9.1 6)) flX7_138 dX7_compile_141 rfl ?_
        refine cj_if_eq (tgt := 153) dX7_compile_144 (by decide) (fun c22 => ?_) (fun c22 => ?_)
        · replace h := h.1 c22
          refine cj_aload_n dX7_compile_153 rfl ?_
          refine cj_pc (pc' := 154) rfl ?_
          refine cj_aload_n dX7_compile_154 rfl ?_
          refine rm_get (.int (S9.1 35)) flX7_247 dX7_compile_155 rfl ?_
          refine rm_put flX7_294 dX7_compile_158 rmp_37 rfl rfl (by decide) ?_
          refine cj_iconst (v := 0) dX7_compile_161 (by decide) ?_
          refine cj_istore_n (lv' := [(1, .int 0), (0, .ref mo)]) dX7_compile_162 (by decide) rfl ?_
          obtain ⟨n9, h⟩ := h
          refine cj_sub (lv' := [(1, .int 0), (0, .ref mo)]) (by simp) ?_
          refine wl_compile_163_ok hA (by omega) ?_ n9 _ _ h
          clear h
          intro w24 S23 h
          refine cj_aload_n dX7_compile_191 rfl ?_
          refine cj_pc (pc' := 192) rfl ?_
          refine cj_iconst (v := 0) dX7_compile_192 (by decide) ?_
          refine rm_put flX7_297 dX7_compile_193 rmp_46 rfl rfl (by decide) ?_
          refine cj_aload_n dX7_compile_196 rfl ?_
          refine cj_iconst (v := 0) dX7_compile_197 (by decide) ?_
          refine rm_put flX7_300 dX7_compile_198 rmp_45 rfl rfl (by decide) ?_
          refine cj_pc (pc' := 201) rfl ?_
          refine cj_aload_n dX7_compile_201 rfl ?_
          refine cj_iconst (v := 0) dX7_compile_202 (by decide) ?_
          refine rm_put flX7_303 dX7_compile_203 rmp_47 rfl rfl (by decide) ?_
          refine cj_aload_n dX7_compile_206 rfl ?_
          refine cj_iconst (v := 1) dX7_compile_207 (by decide) ?_
          refine cj_pc (pc' := 208) rfl ?_
          refine rm_put flX7_100 dX7_compile_208 rmp_49 rfl rfl (by decide) ?_
          refine cj_aload_n dX7_compile_211 rfl ?_
          refine cj_iconst (v := 1) dX7_compile_212 (by decide) ?_
          refine rm_put flX7_103 dX7_compile_213 rmp_50 rfl rfl (by decide) ?_
          refine cj_aload_n dX7_compile_216 rfl ?_
          refine cj_pc (pc' := 217) rfl ?_
          refine cj_iconst (v := 0) dX7_compile_217 (by decide) ?_
          refine rm_put flX7_306 dX7_compile_218 rmp_51 rfl rfl (by decide) ?_
          refine cj_aload_n dX7_compile_221 rfl ?_
          refine cj_iconst (v := 0) dX7_compile_222 (by decide) ?_
          refine rm_put flX7_309 dX7_compile_223 rmp_53 rfl rfl (by decide) ?_
          refine cj_pc (pc' := 226) rfl ?_
          refine cj_aload_n dX7_compile_226 rfl ?_
          refine cj_iconst (v := 1) dX7_compile_227 (by decide) ?_
          refine rm_put flX7_312 dX7_compile_228 rmp_54 rfl rfl (by decide) ?_
          refine cj_aload_n dX7_compile_231 rfl ?_
          refine cj_iconst (v := 0) dX7_compile_232 (by decide) ?_
          refine cj_pc (pc' := 233) rfl ?_
          refine rm_put flX7_315 dX7_compile_233 rmp_55 rfl rfl (by decide) ?_
          refine cj_aload_n dX7_compile_236 rfl ?_
          refine rm_get (.int (S23.1 37)) flX7_294 dX7_compile_237 rfl ?_
          refine cj_iret rfl dX7_compile_240 ?_
          exact ⟨_, _, rfl, rfl, h⟩
        · replace h := h.2 c22
          refine cj_aload_n dX7_compile_147 rfl ?_
          refine cj_pc (pc' := 148) rfl ?_
          refine cj_iconst (v := 1) dX7_compile_148 (by decide) ?_
          refine cj_callV (M' := mX7_fail) (d' := 0) (k' := 0) (n' := 0) (index := 290) (np := 1) (As := [.int 1]) (rest := []) dX7_compile_149 lkX7_290 mwX7_fail (tR_fail hA h) (by omega) rfl rfl (Nat.le_of_ble_eq_true rfl) rm_mo rfl (fun v9 G9 q25 => ?_) (fun _ _ h => absurd h id)
          obtain ⟨x26, S27, e8, e9, h⟩ := q25
          subst e8
          subst e9
          refine cj_st (st' := [.int x26]) rfl ?_
          refine cj_iret rfl dX7_compile_152 ?_
          exact ⟨_, _, rfl, rfl, h⟩
    · replace h := h.2 c11
      refine cj_aload_n dX7_compile_99 rfl ?_
      refine rm_get (.int (S9.1 35)) flX7_247 dX7_compile_100 rfl ?_
      refine cj_pc (pc' := 103) rfl ?_
      refine cj_bipush (v := 120) dX7_compile_103 (by decide) ?_
      refine cj_icmp_le (tgt := 121) dX7_compile_105 (by decide) (fun c28 => ?_) (fun c28 => ?_)
      · replace h := h.1 c28
        refine cj_aload_n dX7_compile_121 rfl ?_
        refine cj_aload_n dX7_compile_122 rfl ?_
        refine rm_get (.int (S9.1 6)) flX7_138 dX7_compile_123 rfl ?_
        refine cj_pc (pc' := 126) rfl ?_
        refine cj_if_eq (tgt := 136) dX7_compile_126 (by decide) (fun c29 => ?_) (fun c29 => ?_)
        · replace h := h.1 c29
          refine cj_iconst (v := (-1)) dX7_compile_136 (by decide) ?_
          refine rm_put flX7_16 dX7_compile_137 rmp_7 rfl rfl (by decide) ?_
          refine cj_aload_n dX7_compile_140 rfl ?_
          refine rm_get (.int (S9.1 6)) flX7_138 dX7_compile_141 rfl ?_
          refine cj_pc (pc' := 144) rfl ?_
          refine cj_if_eq (tgt := 153) dX7_compile_144 (by decide) (fun c30 => ?_) (fun c30 => ?_)
          · replace h := h.1 c30
            refine cj_aload_n dX7_compile_153 rfl ?_
            refine cj_aload_n dX7_compile_154 rfl ?_
            refine rm_get (.int (S9.1 35)) flX7_247 dX7_compile_155 rfl ?_
            refine rm_put flX7_294 dX7_compile_158 rmp_37 rfl rfl (by decide) ?_
            refine cj_pc (pc' := 161) rfl ?_
            refine cj_iconst (v := 0) dX7_compile_161 (by decide) ?_
            refine cj_istore_n (lv' := [(1, .int 0), (0, .ref mo)]) dX7_compile_162 (by decide) rfl ?_
            obtain ⟨n9, h⟩ := h
            refine cj_sub (lv' := [(1, .int 0), (0, .ref mo)]) (by simp) ?_
            refine wl_compile_163_ok hA (by omega) ?_ n9 _ _ h
            clear h
            intro w32 S31 h
            refine cj_aload_n dX7_compile_191 rfl ?_
            refine cj_iconst (v := 0) dX7_compile_192 (by decide) ?_
            refine rm_put flX7_297 dX7_compile_193 rmp_46 rfl rfl (by decide) ?_
            refine cj_pc (pc' := 196) rfl ?_
            refine cj_aload_n dX7_compile_196 rfl ?_
            refine cj_iconst (v := 0) dX7_compile_197 (by decide) ?_
            refine rm_put flX7_300 dX7_compile_198 rmp_45 rfl rfl (by decide) ?_
            refine cj_aload_n dX7_compile_201 rfl ?_
            refine cj_iconst (v := 0) dX7_compile_202 (by decide) ?_
            refine cj_pc (pc' := 203) rfl ?_
            refine rm_put flX7_303 dX7_compile_203 rmp_47 rfl rfl (by decide) ?_
            refine cj_aload_n dX7_compile_206 rfl ?_
            refine cj_iconst (v := 1) dX7_compile_207 (by decide) ?_
            refine rm_put flX7_100 dX7_compile_208 rmp_49 rfl rfl (by decide) ?_
            refine cj_aload_n dX7_compile_211 rfl ?_
            refine cj_pc (pc' := 212) rfl ?_
            refine cj_iconst (v := 1) dX7_compile_212 (by decide) ?_
            refine rm_put flX7_103 dX7_compile_213 rmp_50 rfl rfl (by decide) ?_
            refine cj_aload_n dX7_compile_216 rfl ?_
            refine cj_iconst (v := 0) dX7_compile_217 (by decide) ?_
            refine rm_put flX7_306 dX7_compile_218 rmp_51 rfl rfl (by decide) ?_
            refine cj_pc (pc' := 221) rfl ?_
            refine cj_aload_n dX7_compile_221 rfl ?_
            refine cj_iconst (v := 0) dX7_compile_222 (by decide) ?_
            refine rm_put flX7_309 dX7_compile_223 rmp_53 rfl rfl (by decide) ?_
            refine cj_aload_n dX7_compile_226 rfl ?_
            refine cj_iconst (v := 1) dX7_compile_227 (by decide) ?_
            refine cj_pc (pc' := 228) rfl ?_
            refine rm_put flX7_312 dX7_compile_228 rmp_54 rfl rfl (by decide) ?_
            refine cj_aload_n dX7_compile_231 rfl ?_
            refine cj_iconst (v := 0) dX7_compile_232 (by decide) ?_
            refine rm_put flX7_315 dX7_compile_233 rmp_55 rfl rfl (by decide) ?_
            refine cj_aload_n dX7_compile_236 rfl ?_
            refine cj_pc (pc' := 237) rfl ?_
            refine rm_get (.int (S31.1 37)) flX7_294 dX7_compile_237 rfl ?_
            refine cj_iret rfl dX7_compile_240 ?_
            exact ⟨_, _, rfl, rfl, h⟩
          · replace h := h.2 c30
            refine cj_aload_n dX7_compile_147 rfl ?_
            refine cj_iconst (v := 1) dX7_compile_148 (by decide) ?_
            refine cj_callV (M' := mX7_fail) (d' := 0) (k' := 0) (n' := 0) (index := 290) (np := 1) (As := [.int 1]) (rest := []) dX7_compile_149 lkX7_290 mwX7_fail (tR_fail hA h) (by omega) rfl rfl (Nat.le_of_ble_eq_true rfl) rm_mo rfl (fun v9 G9 q33 => ?_) (fun _ _ h => absurd h id)
            obtain ⟨x34, S35, e8, e9, h⟩ := q33
            subst e8
            subst e9
            refine cj_st (st' := [.int x34]) rfl ?_
            refine cj_pc (pc' := 152) rfl ?_
            refine cj_iret rfl dX7_compile_152 ?_
            exact ⟨_, _, rfl, rfl, h⟩
        · replace h := h.2 c29
          refine cj_aload_n dX7_compile_129 rfl ?_
          refine rm_get (.int (S9.1 5)) flX7_118 dX7_compile_130 rfl ?_
          refine cj_goto (tgt := 137) dX7_compile_133 (by decide) ?_
          refine rm_put flX7_16 dX7_compile_137 rmp_7 rfl rfl (by decide) ?_
          refine cj_pc (pc' := 140) rfl ?_
          refine cj_aload_n dX7_compile_140 rfl ?_
          refine rm_get (.int (S9.1 6)) flX7_138 dX7_compile_141 rfl ?_
          refine cj_if_eq (tgt := 153) dX7_compile_144 (by decide) (fun c36 => ?_) (fun c36 => ?_)
          · replace h := h.1 c36
            refine cj_aload_n dX7_compile_153 rfl ?_
            refine cj_aload_n dX7_compile_154 rfl ?_
            refine cj_pc (pc' := 155) rfl ?_
            refine rm_get (.int (S9.1 35)) flX7_247 dX7_compile_155 rfl ?_
            refine rm_put flX7_294 dX7_compile_158 rmp_37 rfl rfl (by decide) ?_
            refine cj_iconst (v := 0) dX7_compile_161 (by decide) ?_
            refine cj_istore_n (lv' := [(1, .int 0), (0, .ref mo)]) dX7_compile_162 (by decide) rfl ?_
            obtain ⟨n9, h⟩ := h
            refine cj_sub (lv' := [(1, .int 0), (0, .ref mo)]) (by simp) ?_
            refine wl_compile_163_ok hA (by omega) ?_ n9 _ _ h
            clear h
            intro w38 S37 h
            refine cj_aload_n dX7_compile_191 rfl ?_
            refine cj_pc (pc' := 192) rfl ?_
            refine cj_iconst (v := 0) dX7_compile_192 (by decide) ?_
            refine rm_put flX7_297 dX7_compile_193 rmp_46 rfl rfl (by decide) ?_
            refine cj_aload_n dX7_compile_196 rfl ?_
            refine cj_iconst (v := 0) dX7_compile_197 (by decide) ?_
            refine rm_put flX7_300 dX7_compile_198 rmp_45 rfl rfl (by decide) ?_
            refine cj_pc (pc' := 201) rfl ?_
            refine cj_aload_n dX7_compile_201 rfl ?_
            refine cj_iconst (v := 0) dX7_compile_202 (by decide) ?_
            refine rm_put flX7_303 dX7_compile_203 rmp_47 rfl rfl (by decide) ?_
            refine cj_aload_n dX7_compile_206 rfl ?_
            refine cj_iconst (v := 1) dX7_compile_207 (by decide) ?_
            refine cj_pc (pc' := 208) rfl ?_
            refine rm_put flX7_100 dX7_compile_208 rmp_49 rfl rfl (by decide) ?_
            refine cj_aload_n dX7_compile_211 rfl ?_
            refine cj_iconst (v := 1) dX7_compile_212 (by decide) ?_
            refine rm_put flX7_103 dX7_compile_213 rmp_50 rfl rfl (by decide) ?_
            refine cj_aload_n dX7_compile_216 rfl ?_
            refine cj_pc (pc' := 217) rfl ?_
            refine cj_iconst (v := 0) dX7_compile_217 (by decide) ?_
            refine rm_put flX7_306 dX7_compile_218 rmp_51 rfl rfl (by decide) ?_
            refine cj_aload_n dX7_compile_221 rfl ?_
            refine cj_iconst (v := 0) dX7_compile_222 (by decide) ?_
            refine rm_put flX7_309 dX7_compile_223 rmp_53 rfl rfl (by decide) ?_
            refine cj_pc (pc' := 226) rfl ?_
            refine cj_aload_n dX7_compile_226 rfl ?_
            refine cj_iconst (v := 1) dX7_compile_227 (by decide) ?_
            refine rm_put flX7_312 dX7_compile_228 rmp_54 rfl rfl (by decide) ?_
            refine cj_aload_n dX7_compile_231 rfl ?_
            refine cj_iconst (v := 0) dX7_compile_232 (by decide) ?_
            refine cj_pc (pc' := 233) rfl ?_
            refine rm_put flX7_315 dX7_compile_233 rmp_55 rfl rfl (by decide) ?_
            refine cj_aload_n dX7_compile_236 rfl ?_
            refine rm_get (.int (S37.1 37)) flX7_294 dX7_compile_237 rfl ?_
            refine cj_iret rfl dX7_compile_240 ?_
            exact ⟨_, _, rfl, rfl, h⟩
          · replace h := h.2 c36
            refine cj_aload_n dX7_compile_147 rfl ?_
            refine cj_pc (pc' := 148) rfl ?_
            refine cj_iconst (v := 1) dX7_compile_148 (by decide) ?_
            refine cj_callV (M' := mX7_fail) (d' := 0) (k' := 0) (n' := 0) (index := 290) (np := 1) (As := [.int 1]) (rest := []) dX7_compile_149 lkX7_290 mwX7_fail (tR_fail hA h) (by omega) rfl rfl (Nat.le_of_ble_eq_true rfl) rm_mo rfl (fun v9 G9 q39 => ?_) (fun _ _ h => absurd h id)
            obtain ⟨x40, S41, e8, e9, h⟩ := q39
            subst e8
            subst e9
            refine cj_st (st' := [.int x40]) rfl ?_
            refine cj_iret rfl dX7_compile_152 ?_
            exact ⟨_, _, rfl, rfl, h⟩
      · replace h := h.2 c28
        refine cj_aload_n dX7_compile_108 rfl ?_
        refine cj_iconst (v := 1) dX7_compile_109 (by decide) ?_
        refine cj_pc (pc' := 110) rfl ?_
        refine rm_put flX7_138 dX7_compile_110 rmp_6 rfl rfl (by decide) ?_
        refine cj_aload_n dX7_compile_113 rfl ?_
        refine cj_aload_n dX7_compile_114 rfl ?_
        refine rm_get (.int (S9.1 3)) flX7_121 dX7_compile_115 rfl ?_
        refine rm_put flX7_118 dX7_compile_118 rmp_5 rfl rfl (by decide) ?_
        refine cj_pc (pc' := 121) rfl ?_
        refine cj_aload_n dX7_compile_121 rfl ?_
        refine cj_aload_n dX7_compile_122 rfl ?_
        refine rm_get (.int 1) flX7_138 dX7_compile_123 rfl ?_
        refine cj_if_eq (tgt := 136) dX7_compile_126 (by decide) (fun c => absurd c (by decide)) (fun _ => ?_)
        refine cj_aload_n dX7_compile_129 rfl ?_
        refine cj_pc (pc' := 130) rfl ?_
        refine rm_get (.int (S9.1 3)) flX7_118 dX7_compile_130 rfl ?_
        refine cj_goto (tgt := 137) dX7_compile_133 (by decide) ?_
        refine rm_put flX7_16 dX7_compile_137 rmp_7 rfl rfl (by decide) ?_
        refine cj_aload_n dX7_compile_140 rfl ?_
        refine rm_get (.int 1) flX7_138 dX7_compile_141 rfl ?_
        refine cj_pc (pc' := 144) rfl ?_
        refine cj_if_eq (tgt := 153) dX7_compile_144 (by decide) (fun c => absurd c (by decide)) (fun _ => ?_)
        refine cj_aload_n dX7_compile_147 rfl ?_
        refine cj_iconst (v := 1) dX7_compile_148 (by decide) ?_
        refine cj_callV (M' := mX7_fail) (d' := 0) (k' := 0) (n' := 0) (index := 290) (np := 1) (As := [.int 1]) (rest := []) dX7_compile_149 lkX7_290 mwX7_fail (tR_fail hA h) (by omega) rfl rfl (Nat.le_of_ble_eq_true rfl) rm_mo rfl (fun v9 G9 q42 => ?_) (fun _ _ h => absurd h id)
        obtain ⟨x43, S44, e8, e9, h⟩ := q42
        subst e8
        subst e9
        refine cj_st (st' := [.int x43]) rfl ?_
        refine cj_iret rfl dX7_compile_152 ?_
        exact ⟨_, _, rfl, rfl, h⟩
  · replace h := h.2 c10
    refine cj_aload_n dX7_compile_88 rfl ?_
    refine cj_pc (pc' := 89) rfl ?_
    refine cj_callV (M' := mX7_makeCode) (d' := 5) (k' := 0) (n' := 0) (index := 287) (np := 0) (As := []) (rest := []) dX7_compile_89 lkX7_287 mwX7_makeCode (tR_makeCode hA h) (by omega) rfl rfl (Nat.le_of_ble_eq_true rfl) rm_mo rfl (fun v9 G9 q45 => ?_) (fun _ _ h => absurd h id)
    obtain ⟨S46, e8, e9, h⟩ := q45
    subst e8
    subst e9
    refine cj_st (st' := []) rfl ?_
    refine cj_aload_n dX7_compile_92 rfl ?_
    refine rm_get (.int (S46.1 6)) flX7_138 dX7_compile_93 rfl ?_
    refine cj_if_ne (tgt := 121) dX7_compile_96 (by decide) (fun c47 => ?_) (fun c47 => ?_)
    · replace h := h.1 c47
      refine cj_aload_n dX7_compile_121 rfl ?_
      refine cj_pc (pc' := 122) rfl ?_
      refine cj_aload_n dX7_compile_122 rfl ?_
      refine rm_get (.int (S46.1 6)) flX7_138 dX7_compile_123 rfl ?_
      refine cj_if_eq (tgt := 136) dX7_compile_126 (by decide) (fun c48 => ?_) (fun c48 => ?_)
      · replace h := h.1 c48
        refine cj_iconst (v := (-1)) dX7_compile_136 (by decide) ?_
        refine rm_put flX7_16 dX7_compile_137 rmp_7 rfl rfl (by decide) ?_
        refine cj_pc (pc' := 140) rfl ?_
        refine cj_aload_n dX7_compile_140 rfl ?_
        refine rm_get (.int (S46.1 6)) flX7_138 dX7_compile_141 rfl ?_
        refine cj_if_eq (tgt := 153) dX7_compile_144 (by decide) (fun c49 => ?_) (fun c49 => ?_)
        · replace h := h.1 c49
          refine cj_aload_n dX7_compile_153 rfl ?_
          refine cj_aload_n dX7_compile_154 rfl ?_
          refine cj_pc (pc' := 155) rfl ?_
          refine rm_get (.int (S46.1 35)) flX7_247 dX7_compile_155 rfl ?_
          refine rm_put flX7_294 dX7_compile_158 rmp_37 rfl rfl (by decide) ?_
          refine cj_iconst (v := 0) dX7_compile_161 (by decide) ?_
          refine cj_istore_n (lv' := [(1, .int 0), (0, .ref mo)]) dX7_compile_162 (by decide) rfl ?_
          obtain ⟨n9, h⟩ := h
          refine cj_sub (lv' := [(1, .int 0), (0, .ref mo)]) (by simp) ?_
          refine wl_compile_163_ok hA (by omega) ?_ n9 _ _ h
          clear h
          intro w51 S50 h
          refine cj_aload_n dX7_compile_191 rfl ?_
          refine cj_pc (pc' := 192) rfl ?_
          refine cj_iconst (v := 0) dX7_compile_192 (by decide) ?_
          refine rm_put flX7_297 dX7_compile_193 rmp_46 rfl rfl (by decide) ?_
          refine cj_aload_n dX7_compile_196 rfl ?_
          refine cj_iconst (v := 0) dX7_compile_197 (by decide) ?_
          refine rm_put flX7_300 dX7_compile_198 rmp_45 rfl rfl (by decide) ?_
          refine cj_pc (pc' := 201) rfl ?_
          refine cj_aload_n dX7_compile_201 rfl ?_
          refine cj_iconst (v := 0) dX7_compile_202 (by decide) ?_
          refine rm_put flX7_303 dX7_compile_203 rmp_47 rfl rfl (by decide) ?_
          refine cj_aload_n dX7_compile_206 rfl ?_
          refine cj_iconst (v := 1) dX7_compile_207 (by decide) ?_
          refine cj_pc (pc' := 208) rfl ?_
          refine rm_put flX7_100 dX7_compile_208 rmp_49 rfl rfl (by decide) ?_
          refine cj_aload_n dX7_compile_211 rfl ?_
          refine cj_iconst (v := 1) dX7_compile_212 (by decide) ?_
          refine rm_put flX7_103 dX7_compile_213 rmp_50 rfl rfl (by decide) ?_
          refine cj_aload_n dX7_compile_216 rfl ?_
          refine cj_pc (pc' := 217) rfl ?_
          refine cj_iconst (v := 0) dX7_compile_217 (by decide) ?_
          refine rm_put flX7_306 dX7_compile_218 rmp_51 rfl rfl (by decide) ?_
          refine cj_aload_n dX7_compile_221 rfl ?_
          refine cj_iconst (v := 0) dX7_compile_222 (by decide) ?_
          refine rm_put flX7_309 dX7_compile_223 rmp_53 rfl rfl (by decide) ?_
          refine cj_pc (pc' := 226) rfl ?_
          refine cj_aload_n dX7_compile_226 rfl ?_
          refine cj_iconst (v := 1) dX7_compile_227 (by decide) ?_
          refine rm_put flX7_312 dX7_compile_228 rmp_54 rfl rfl (by decide) ?_
          refine cj_aload_n dX7_compile_231 rfl ?_
          refine cj_iconst (v := 0) dX7_compile_232 (by decide) ?_
          refine cj_pc (pc' := 233) rfl ?_
          refine rm_put flX7_315 dX7_compile_233 rmp_55 rfl rfl (by decide) ?_
          refine cj_aload_n dX7_compile_236 rfl ?_
          refine rm_get (.int (S50.1 37)) flX7_294 dX7_compile_237 rfl ?_
          refine cj_iret rfl dX7_compile_240 ?_
          exact ⟨_, _, rfl, rfl, h⟩
        · replace h := h.2 c49
          refine cj_aload_n dX7_compile_147 rfl ?_
          refine cj_pc (pc' := 148) rfl ?_
          refine cj_iconst (v := 1) dX7_compile_148 (by decide) ?_
          refine cj_callV (M' := mX7_fail) (d' := 0) (k' := 0) (n' := 0) (index := 290) (np := 1) (As := [.int 1]) (rest := []) dX7_compile_149 lkX7_290 mwX7_fail (tR_fail hA h) (by omega) rfl rfl (Nat.le_of_ble_eq_true rfl) rm_mo rfl (fun v9 G9 q52 => ?_) (fun _ _ h => absurd h id)
          obtain ⟨x53, S54, e8, e9, h⟩ := q52
          subst e8
          subst e9
          refine cj_st (st' := [.int x53]) rfl ?_
          refine cj_iret rfl dX7_compile_152 ?_
          exact ⟨_, _, rfl, rfl, h⟩
      · replace h := h.2 c48
        refine cj_aload_n dX7_compile_129 rfl ?_
        refine rm_get (.int (S46.1 5)) flX7_118 dX7_compile_130 rfl ?_
        refine cj_pc (pc' := 133) rfl ?_
        refine cj_goto (tgt := 137) dX7_compile_133 (by decide) ?_
        refine rm_put flX7_16 dX7_compile_137 rmp_7 rfl rfl (by decide) ?_
        refine cj_aload_n dX7_compile_140 rfl ?_
        refine rm_get (.int (S46.1 6)) flX7_138 dX7_compile_141 rfl ?_
        refine cj_if_eq (tgt := 153) dX7_compile_144 (by decide) (fun c55 => ?_) (fun c55 => ?_)
        · replace h := h.1 c55
          refine cj_aload_n dX7_compile_153 rfl ?_
          refine cj_pc (pc' := 154) rfl ?_
          refine cj_aload_n dX7_compile_154 rfl ?_
          refine rm_get (.int (S46.1 35)) flX7_247 dX7_compile_155 rfl ?_
          refine rm_put flX7_294 dX7_compile_158 rmp_37 rfl rfl (by decide) ?_
          refine cj_iconst (v := 0) dX7_compile_161 (by decide) ?_
          refine cj_istore_n (lv' := [(1, .int 0), (0, .ref mo)]) dX7_compile_162 (by decide) rfl ?_
          obtain ⟨n9, h⟩ := h
          refine cj_sub (lv' := [(1, .int 0), (0, .ref mo)]) (by simp) ?_
          refine wl_compile_163_ok hA (by omega) ?_ n9 _ _ h
          clear h
          intro w57 S56 h
          refine cj_aload_n dX7_compile_191 rfl ?_
          refine cj_pc (pc' := 192) rfl ?_
          refine cj_iconst (v := 0) dX7_compile_192 (by decide) ?_
          refine rm_put flX7_297 dX7_compile_193 rmp_46 rfl rfl (by decide) ?_
          refine cj_aload_n dX7_compile_196 rfl ?_
          refine cj_iconst (v := 0) dX7_compile_197 (by decide) ?_
          refine rm_put flX7_300 dX7_compile_198 rmp_45 rfl rfl (by decide) ?_
          refine cj_pc (pc' := 201) rfl ?_
          refine cj_aload_n dX7_compile_201 rfl ?_
          refine cj_iconst (v := 0) dX7_compile_202 (by decide) ?_
          refine rm_put flX7_303 dX7_compile_203 rmp_47 rfl rfl (by decide) ?_
          refine cj_aload_n dX7_compile_206 rfl ?_
          refine cj_iconst (v := 1) dX7_compile_207 (by decide) ?_
          refine cj_pc (pc' := 208) rfl ?_
          refine rm_put flX7_100 dX7_compile_208 rmp_49 rfl rfl (by decide) ?_
          refine cj_aload_n dX7_compile_211 rfl ?_
          refine cj_iconst (v := 1) dX7_compile_212 (by decide) ?_
          refine rm_put flX7_103 dX7_compile_213 rmp_50 rfl rfl (by decide) ?_
          refine cj_aload_n dX7_compile_216 rfl ?_
          refine cj_pc (pc' := 217) rfl ?_
          refine cj_iconst (v := 0) dX7_compile_217 (by decide) ?_
          refine rm_put flX7_306 dX7_compile_218 rmp_51 rfl rfl (by decide) ?_
          refine cj_aload_n dX7_compile_221 rfl ?_
          refine cj_iconst (v := 0) dX7_compile_222 (by decide) ?_
          refine rm_put flX7_309 dX7_compile_223 rmp_53 rfl rfl (by decide) ?_
          refine cj_pc (pc' := 226) rfl ?_
          refine cj_aload_n dX7_compile_226 rfl ?_
          refine cj_iconst (v := 1) dX7_compile_227 (by decide) ?_
          refine rm_put flX7_312 dX7_compile_228 rmp_54 rfl rfl (by decide) ?_
          refine cj_aload_n dX7_compile_231 rfl ?_
          refine cj_iconst (v := 0) dX7_compile_232 (by decide) ?_
          refine cj_pc (pc' := 233) rfl ?_
          refine rm_put flX7_315 dX7_compile_233 rmp_55 rfl rfl (by decide) ?_
          refine cj_aload_n dX7_compile_236 rfl ?_
          refine rm_get (.int (S56.1 37)) flX7_294 dX7_compile_237 rfl ?_
          refine cj_iret rfl dX7_compile_240 ?_
          exact ⟨_, _, rfl, rfl, h⟩
        · replace h := h.2 c55
          refine cj_aload_n dX7_compile_147 rfl ?_
          refine cj_pc (pc' := 148) rfl ?_
          refine cj_iconst (v := 1) dX7_compile_148 (by decide) ?_
          refine cj_callV (M' := mX7_fail) (d' := 0) (k' := 0) (n' := 0) (index := 290) (np := 1) (As := [.int 1]) (rest := []) dX7_compile_149 lkX7_290 mwX7_fail (tR_fail hA h) (by omega) rfl rfl (Nat.le_of_ble_eq_true rfl) rm_mo rfl (fun v9 G9 q58 => ?_) (fun _ _ h => absurd h id)
          obtain ⟨x59, S60, e8, e9, h⟩ := q58
          subst e8
          subst e9
          refine cj_st (st' := [.int x59]) rfl ?_
          refine cj_iret rfl dX7_compile_152 ?_
          exact ⟨_, _, rfl, rfl, h⟩
    · replace h := h.2 c47
      refine cj_aload_n dX7_compile_99 rfl ?_
      refine rm_get (.int (S46.1 35)) flX7_247 dX7_compile_100 rfl ?_
      refine cj_pc (pc' := 103) rfl ?_
      refine cj_bipush (v := 120) dX7_compile_103 (by decide) ?_
      refine cj_icmp_le (tgt := 121) dX7_compile_105 (by decide) (fun c61 => ?_) (fun c61 => ?_)
      · replace h := h.1 c61
        refine cj_aload_n dX7_compile_121 rfl ?_
        refine cj_aload_n dX7_compile_122 rfl ?_
        refine rm_get (.int (S46.1 6)) flX7_138 dX7_compile_123 rfl ?_
        refine cj_pc (pc' := 126) rfl ?_
        refine cj_if_eq (tgt := 136) dX7_compile_126 (by decide) (fun c62 => ?_) (fun c62 => ?_)
        · replace h := h.1 c62
          refine cj_iconst (v := (-1)) dX7_compile_136 (by decide) ?_
          refine rm_put flX7_16 dX7_compile_137 rmp_7 rfl rfl (by decide) ?_
          refine cj_aload_n dX7_compile_140 rfl ?_
          refine rm_get (.int (S46.1 6)) flX7_138 dX7_compile_141 rfl ?_
          refine cj_pc (pc' := 144) rfl ?_
          refine cj_if_eq (tgt := 153) dX7_compile_144 (by decide) (fun c63 => ?_) (fun c63 => ?_)
          · replace h := h.1 c63
            refine cj_aload_n dX7_compile_153 rfl ?_
            refine cj_aload_n dX7_compile_154 rfl ?_
            refine rm_get (.int (S46.1 35)) flX7_247 dX7_compile_155 rfl ?_
            refine rm_put flX7_294 dX7_compile_158 rmp_37 rfl rfl (by decide) ?_
            refine cj_pc (pc' := 161) rfl ?_
            refine cj_iconst (v := 0) dX7_compile_161 (by decide) ?_
            refine cj_istore_n (lv' := [(1, .int 0), (0, .ref mo)]) dX7_compile_162 (by decide) rfl ?_
            obtain ⟨n9, h⟩ := h
            refine cj_sub (lv' := [(1, .int 0), (0, .ref mo)]) (by simp) ?_
            refine wl_compile_163_ok hA (by omega) ?_ n9 _ _ h
            clear h
            intro w65 S64 h
            refine cj_aload_n dX7_compile_191 rfl ?_
            refine cj_iconst (v := 0) dX7_compile_192 (by decide) ?_
            refine rm_put flX7_297 dX7_compile_193 rmp_46 rfl rfl (by decide) ?_
            refine cj_pc (pc' := 196) rfl ?_
            refine cj_aload_n dX7_compile_196 rfl ?_
            refine cj_iconst (v := 0) dX7_compile_197 (by decide) ?_
            refine rm_put flX7_300 dX7_compile_198 rmp_45 rfl rfl (by decide) ?_
            refine cj_aload_n dX7_compile_201 rfl ?_
            refine cj_iconst (v := 0) dX7_compile_202 (by decide) ?_
            refine cj_pc (pc' := 203) rfl ?_
            refine rm_put flX7_303 dX7_compile_203 rmp_47 rfl rfl (by decide) ?_
            refine cj_aload_n dX7_compile_206 rfl ?_
            refine cj_iconst (v := 1) dX7_compile_207 (by decide) ?_
            refine rm_put flX7_100 dX7_compile_208 rmp_49 rfl rfl (by decide) ?_
            refine cj_aload_n dX7_compile_211 rfl ?_
            refine cj_pc (pc' := 212) rfl ?_
            refine cj_iconst (v := 1) dX7_compile_212 (by decide) ?_
            refine rm_put flX7_103 dX7_compile_213 rmp_50 rfl rfl (by decide) ?_
            refine cj_aload_n dX7_compile_216 rfl ?_
            refine cj_iconst (v := 0) dX7_compile_217 (by decide) ?_
            refine rm_put flX7_306 dX7_compile_218 rmp_51 rfl rfl (by decide) ?_
            refine cj_pc (pc' := 221) rfl ?_
            refine cj_aload_n dX7_compile_221 rfl ?_
            refine cj_iconst (v := 0) dX7_compile_222 (by decide) ?_
            refine rm_put flX7_309 dX7_compile_223 rmp_53 rfl rfl (by decide) ?_
            refine cj_aload_n dX7_compile_226 rfl ?_
            refine cj_iconst (v := 1) dX7_compile_227 (by decide) ?_
            refine cj_pc (pc' := 228) rfl ?_
            refine rm_put flX7_312 dX7_compile_228 rmp_54 rfl rfl (by decide) ?_
            refine cj_aload_n dX7_compile_231 rfl ?_
            refine cj_iconst (v := 0) dX7_compile_232 (by decide) ?_
            refine rm_put flX7_315 dX7_compile_233 rmp_55 rfl rfl (by decide) ?_
            refine cj_aload_n dX7_compile_236 rfl ?_
            refine cj_pc (pc' := 237) rfl ?_
            refine rm_get (.int (S64.1 37)) flX7_294 dX7_compile_237 rfl ?_
            refine cj_iret rfl dX7_compile_240 ?_
            exact ⟨_, _, rfl, rfl, h⟩
          · replace h := h.2 c63
            refine cj_aload_n dX7_compile_147 rfl ?_
            refine cj_iconst (v := 1) dX7_compile_148 (by decide) ?_
            refine cj_callV (M' := mX7_fail) (d' := 0) (k' := 0) (n' := 0) (index := 290) (np := 1) (As := [.int 1]) (rest := []) dX7_compile_149 lkX7_290 mwX7_fail (tR_fail hA h) (by omega) rfl rfl (Nat.le_of_ble_eq_true rfl) rm_mo rfl (fun v9 G9 q66 => ?_) (fun _ _ h => absurd h id)
            obtain ⟨x67, S68, e8, e9, h⟩ := q66
            subst e8
            subst e9
            refine cj_st (st' := [.int x67]) rfl ?_
            refine cj_pc (pc' := 152) rfl ?_
            refine cj_iret rfl dX7_compile_152 ?_
            exact ⟨_, _, rfl, rfl, h⟩
        · replace h := h.2 c62
          refine cj_aload_n dX7_compile_129 rfl ?_
          refine rm_get (.int (S46.1 5)) flX7_118 dX7_compile_130 rfl ?_
          refine cj_goto (tgt := 137) dX7_compile_133 (by decide) ?_
          refine rm_put flX7_16 dX7_compile_137 rmp_7 rfl rfl (by decide) ?_
          refine cj_pc (pc' := 140) rfl ?_
          refine cj_aload_n dX7_compile_140 rfl ?_
          refine rm_get (.int (S46.1 6)) flX7_138 dX7_compile_141 rfl ?_
          refine cj_if_eq (tgt := 153) dX7_compile_144 (by decide) (fun c69 => ?_) (fun c69 => ?_)
          · replace h := h.1 c69
            refine cj_aload_n dX7_compile_153 rfl ?_
            refine cj_aload_n dX7_compile_154 rfl ?_
            refine cj_pc (pc' := 155) rfl ?_
            refine rm_get (.int (S46.1 35)) flX7_247 dX7_compile_155 rfl ?_
            refine rm_put flX7_294 dX7_compile_158 rmp_37 rfl rfl (by decide) ?_
            refine cj_iconst (v := 0) dX7_compile_161 (by decide) ?_
            refine cj_istore_n (lv' := [(1, .int 0), (0, .ref mo)]) dX7_compile_162 (by decide) rfl ?_
            obtain ⟨n9, h⟩ := h
            refine cj_sub (lv' := [(1, .int 0), (0, .ref mo)]) (by simp) ?_
            refine wl_compile_163_ok hA (by omega) ?_ n9 _ _ h
            clear h
            intro w71 S70 h
            refine cj_aload_n dX7_compile_191 rfl ?_
            refine cj_pc (pc' := 192) rfl ?_
            refine cj_iconst (v := 0) dX7_compile_192 (by decide) ?_
            refine rm_put flX7_297 dX7_compile_193 rmp_46 rfl rfl (by decide) ?_
            refine cj_aload_n dX7_compile_196 rfl ?_
            refine cj_iconst (v := 0) dX7_compile_197 (by decide) ?_
            refine rm_put flX7_300 dX7_compile_198 rmp_45 rfl rfl (by decide) ?_
            refine cj_pc (pc' := 201) rfl ?_
            refine cj_aload_n dX7_compile_201 rfl ?_
            refine cj_iconst (v := 0) dX7_compile_202 (by decide) ?_
            refine rm_put flX7_303 dX7_compile_203 rmp_47 rfl rfl (by decide) ?_
            refine cj_aload_n dX7_compile_206 rfl ?_
            refine cj_iconst (v := 1) dX7_compile_207 (by decide) ?_
            refine cj_pc (pc' := 208) rfl ?_
            refine rm_put flX7_100 dX7_compile_208 rmp_49 rfl rfl (by decide) ?_
            refine cj_aload_n dX7_compile_211 rfl ?_
            refine cj_iconst (v := 1) dX7_compile_212 (by decide) ?_
            refine rm_put flX7_103 dX7_compile_213 rmp_50 rfl rfl (by decide) ?_
            refine cj_aload_n dX7_compile_216 rfl ?_
            refine cj_pc (pc' := 217) rfl ?_
            refine cj_iconst (v := 0) dX7_compile_217 (by decide) ?_
            refine rm_put flX7_306 dX7_compile_218 rmp_51 rfl rfl (by decide) ?_
            refine cj_aload_n dX7_compile_221 rfl ?_
            refine cj_iconst (v := 0) dX7_compile_222 (by decide) ?_
            refine rm_put flX7_309 dX7_compile_223 rmp_53 rfl rfl (by decide) ?_
            refine cj_pc (pc' := 226) rfl ?_
            refine cj_aload_n dX7_compile_226 rfl ?_
            refine cj_iconst (v := 1) dX7_compile_227 (by decide) ?_
            refine rm_put flX7_312 dX7_compile_228 rmp_54 rfl rfl (by decide) ?_
            refine cj_aload_n dX7_compile_231 rfl ?_
            refine cj_iconst (v := 0) dX7_compile_232 (by decide) ?_
            refine cj_pc (pc' := 233) rfl ?_
            refine rm_put flX7_315 dX7_compile_233 rmp_55 rfl rfl (by decide) ?_
            refine cj_aload_n dX7_compile_236 rfl ?_
            refine rm_get (.int (S70.1 37)) flX7_294 dX7_compile_237 rfl ?_
            refine cj_iret rfl dX7_compile_240 ?_
            exact ⟨_, _, rfl, rfl, h⟩
          · replace h := h.2 c69
            refine cj_aload_n dX7_compile_147 rfl ?_
            refine cj_pc (pc' := 148) rfl ?_
            refine cj_iconst (v := 1) dX7_compile_148 (by decide) ?_
            refine cj_callV (M' := mX7_fail) (d' := 0) (k' := 0) (n' := 0) (index := 290) (np := 1) (As := [.int 1]) (rest := []) dX7_compile_149 lkX7_290 mwX7_fail (tR_fail hA h) (by omega) rfl rfl (Nat.le_of_ble_eq_true rfl) rm_mo rfl (fun v9 G9 q72 => ?_) (fun _ _ h => absurd h id)
            obtain ⟨x73, S74, e8, e9, h⟩ := q72
            subst e8
            subst e9
            refine cj_st (st' := [.int x73]) rfl ?_
            refine cj_iret rfl dX7_compile_152 ?_
            exact ⟨_, _, rfl, rfl, h⟩
      · replace h := h.2 c61
        refine cj_aload_n dX7_compile_108 rfl ?_
        refine cj_iconst (v := 1) dX7_compile_109 (by decide) ?_
        refine cj_pc (pc' := 110) rfl ?_
        refine rm_put flX7_138 dX7_compile_110 rmp_6 rfl rfl (by decide) ?_
        refine cj_aload_n dX7_compile_113 rfl ?_
        refine cj_aload_n dX7_compile_114 rfl ?_
        refine rm_get (.int (S46.1 3)) flX7_121 dX7_compile_115 rfl ?_
        refine rm_put flX7_118 dX7_compile_118 rmp_5 rfl rfl (by decide) ?_
        refine cj_pc (pc' := 121) rfl ?_
        refine cj_aload_n dX7_compile_121 rfl ?_
        refine cj_aload_n dX7_compile_122 rfl ?_
        refine rm_get (.int 1) flX7_138 dX7_compile_123 rfl ?_
        refine cj_if_eq (tgt := 136) dX7_compile_126 (by decide) (fun c => absurd c (by decide)) (fun _ => ?_)
        refine cj_aload_n dX7_compile_129 rfl ?_
        refine cj_pc (pc' := 130) rfl ?_
        refine rm_get (.int (S46.1 3)) flX7_118 dX7_compile_130 rfl ?_
        refine cj_goto (tgt := 137) dX7_compile_133 (by decide) ?_
        refine rm_put flX7_16 dX7_compile_137 rmp_7 rfl rfl (by decide) ?_
        refine cj_aload_n dX7_compile_140 rfl ?_
        refine rm_get (.int 1) flX7_138 dX7_compile_141 rfl ?_
        refine cj_pc (pc' := 144) rfl ?_
        refine cj_if_eq (tgt := 153) dX7_compile_144 (by decide) (fun c => absurd c (by decide)) (fun _ => ?_)
        refine cj_aload_n dX7_compile_147 rfl ?_
        refine cj_iconst (v := 1) dX7_compile_148 (by decide) ?_
        refine cj_callV (M' := mX7_fail) (d' := 0) (k' := 0) (n' := 0) (index := 290) (np := 1) (As := [.int 1]) (rest := []) dX7_compile_149 lkX7_290 mwX7_fail (tR_fail hA h) (by omega) rfl rfl (Nat.le_of_ble_eq_true rfl) rm_mo rfl (fun v9 G9 q75 => ?_) (fun _ _ h => absurd h id)
        obtain ⟨x76, S77, e8, e9, h⟩ := q75
        subst e8
        subst e9
        refine cj_st (st' := [.int x76]) rfl ?_
        refine cj_iret rfl dX7_compile_152 ?_
        exact ⟨_, _, rfl, rfl, h⟩
def wp_place (S : rm_S) (Q : Int32 → rm_S → Prop) : Prop := Q (S.1 7) (rm_pf S 0 0)
set_option maxHeartbeats 4000000 in
set_option maxRecDepth 100000 in
theorem tR_place {mo : Nat} {ad : Nat → Nat} (hA : rm_A mo ad) {G0 : cj_G} {S : rm_S} {Q : Int32 → rm_S → Prop} (h : wp_place S Q) : cj_T mX7_place 0 0 0 [.ref mo] (rm_md mo ad S G0) (rm_posti mo ad G0 Q) cj_no := by
  refine cj_T_of (by decide +kernel) (Nat.le_of_ble_eq_true rfl) ?_
  refine cj_lvs (lv' := [(0, .ref mo)]) rfl ?_
  unfold wp_place at h
  refine cj_aload_n dX7_place_0 rfl ?_
  refine cj_iconst (v := 0) dX7_place_1 (by decide) ?_
  refine rm_put flX7_112 dX7_place_2 rmp_0 rfl rfl (by decide) ?_
  refine cj_aload_n dX7_place_5 rfl ?_
  refine cj_pc (pc' := 6) rfl ?_
  refine rm_get (.int (S.1 7)) flX7_16 dX7_place_6 rfl ?_
  refine cj_iret rfl dX7_place_9 ?_
  exact ⟨_, _, rfl, rfl, h⟩
def wp_code (S : rm_S) (a1 : Int32) (a2 : Int32) (Q : Int32 → rm_S → Prop) : Prop := ((a1 < 0 → Q (-1) (rm_pf S 0 0)) ∧ (¬ a1 < 0 → (((S.1 37) ≤ a1 → Q (-1) (rm_pf S 0 0)) ∧ (¬ (S.1 37) ≤ a1 → ((a2 < 0 → Q (-1) (rm_pf S 0 0)) ∧ (¬ a2 < 0 → ((a2 ≤ 2 → (vp_in ((3 * a1) + a2) 372 ∧ Q ((S.2 38) (((3 * a1) + a2).toNatClampNeg)) (rm_pf S 0 0))) ∧ (¬ a2 ≤ 2 → Q (-1) (rm_pf S 0 0)))))))))
set_option maxHeartbeats 4000000 in
set_option maxRecDepth 100000 in
theorem tR_code {mo : Nat} {ad : Nat → Nat} (hA : rm_A mo ad) {G0 : cj_G} {S : rm_S} {a1 : Int32} {a2 : Int32} {Q : Int32 → rm_S → Prop} (h : wp_code S a1 a2 Q) : cj_T mX7_code 0 0 0 [.ref mo, .int a1, .int a2] (rm_md mo ad S G0) (rm_posti mo ad G0 Q) cj_no := by
  refine cj_T_of (by decide +kernel) (Nat.le_of_ble_eq_true rfl) ?_
  refine cj_lvs (lv' := [(0, .ref mo), (1, .int a1), (2, .int a2)]) rfl ?_
  unfold wp_code at h
  refine cj_aload_n dX7_code_0 rfl ?_
  refine cj_iconst (v := 0) dX7_code_1 (by decide) ?_
  refine rm_put flX7_112 dX7_code_2 rmp_0 rfl rfl (by decide) ?_
  refine cj_iload_n dX7_code_5 rfl ?_
  refine cj_pc (pc' := 6) rfl ?_
  refine cj_if_lt (tgt := 26) dX7_code_6 (by decide) (fun c1 => ?_) (fun c1 => ?_)
  · replace h := h.1 c1
    refine cj_iconst (v := (-1)) dX7_code_26 (by decide) ?_
    refine cj_goto (tgt := 40) dX7_code_27 (by decide) ?_
    refine cj_iret rfl dX7_code_40 ?_
    exact ⟨_, _, rfl, rfl, h⟩
  · replace h := h.2 c1
    refine cj_iload_n dX7_code_9 rfl ?_
    refine cj_pc (pc' := 10) rfl ?_
    refine cj_aload_n dX7_code_10 rfl ?_
    refine rm_get (.int (S.1 37)) flX7_294 dX7_code_11 rfl ?_
    refine cj_icmp_ge (tgt := 26) dX7_code_14 (by decide) (fun c2 => ?_) (fun c2 => ?_)
    · replace h := h.1 c2
      refine cj_iconst (v := (-1)) dX7_code_26 (by decide) ?_
      refine cj_goto (tgt := 40) dX7_code_27 (by decide) ?_
      refine cj_pc (pc' := 40) rfl ?_
      refine cj_iret rfl dX7_code_40 ?_
      exact ⟨_, _, rfl, rfl, h⟩
    · replace h := h.2 c2
      refine cj_iload_n dX7_code_17 rfl ?_
      refine cj_if_lt (tgt := 26) dX7_code_18 (by decide) (fun c3 => ?_) (fun c3 => ?_)
      · replace h := h.1 c3
        refine cj_iconst (v := (-1)) dX7_code_26 (by decide) ?_
        refine cj_goto (tgt := 40) dX7_code_27 (by decide) ?_
        refine cj_pc (pc' := 40) rfl ?_
        refine cj_iret rfl dX7_code_40 ?_
        exact ⟨_, _, rfl, rfl, h⟩
      · replace h := h.2 c3
        refine cj_iload_n dX7_code_21 rfl ?_
        refine cj_iconst (v := 2) dX7_code_22 (by decide) ?_
        refine cj_icmp_le (tgt := 30) dX7_code_23 (by decide) (fun c4 => ?_) (fun c4 => ?_)
        · replace h := h.1 c4
          refine cj_aload_n dX7_code_30 rfl ?_
          refine cj_pc (pc' := 31) rfl ?_
          refine rm_get (.ref (ad 38)) flX7_82 dX7_code_31 rfl ?_
          refine cj_iconst (v := 3) dX7_code_34 (by decide) ?_
          refine cj_iload_n dX7_code_35 rfl ?_
          refine cj_imul dX7_code_36 ?_
          refine cj_iload_n dX7_code_37 rfl ?_
          refine cj_pc (pc' := 38) rfl ?_
          refine cj_iadd dX7_code_38 ?_
          have i5 := h.1
          replace h := h.2
          refine rm_iald (j := 38) (x := (S.2 38) (((3 * a1) + a2).toNatClampNeg)) hA rfl dX7_code_39 i5 rfl ?_
          refine cj_iret rfl dX7_code_40 ?_
          exact ⟨_, _, rfl, rfl, h⟩
        · replace h := h.2 c4
          refine cj_iconst (v := (-1)) dX7_code_26 (by decide) ?_
          refine cj_goto (tgt := 40) dX7_code_27 (by decide) ?_
          refine cj_pc (pc' := 40) rfl ?_
          refine cj_iret rfl dX7_code_40 ?_
          exact ⟨_, _, rfl, rfl, h⟩
