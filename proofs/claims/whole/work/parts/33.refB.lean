/-! THE REFERENCE, by program: wp_<method>: what must hold so that it comes to its end with Q; tR_<method>: its contract -/
def wl_settle_0 (v1 : Int32) (Q : rm_S → Prop) (K : rm_S → Prop) : Nat → rm_S → Prop
  | 0, _ => False
  | n + 1, S => (vp_in ((S.1 17) - 1) 8 ∧ (((S.1 31) ≤ ((S.2 21) (((S.1 17) - 1).toNatClampNeg)) → K S) ∧ (¬ (S.1 31) ≤ ((S.2 21) (((S.1 17) - 1).toNatClampNeg)) → (vp_in ((S.1 31) - 1) 100 ∧ wp_rank ((S.2 32) (((S.1 31) - 1).toNatClampNeg)) (fun x5 => ((x5 < v1 → K S) ∧ (¬ x5 < v1 → (vp_in ((S.1 29) - 1) 100 ∧ (vp_in (((S.1 29) - 1) - 1) 100 ∧ (vp_in ((S.1 31) - 1) 100 ∧ ((¬ ((S.2 32) (((S.1 31) - 1).toNatClampNeg)) = 32 → (vp_in ((S.1 31) - 1) 100 ∧ ((¬ ((S.2 32) (((S.1 31) - 1).toNatClampNeg)) = 43 → ((¬ ((S.2 32) (((S.1 31) - 1).toNatClampNeg)) = 45 → ((¬ ((S.2 32) (((S.1 31) - 1).toNatClampNeg)) = 42 → ((¬ ((S.2 32) (((S.1 31) - 1).toNatClampNeg)) = 60 → wp_node (rm_pf (rm_pf S 31 ((S.1 31) - 1)) 29 ((S.1 29) - 1)) 2 8 (fun x17 S18 => wp_addChild S18 x17 ((S.2 30) ((((S.1 29) - 1) - 1).toNatClampNeg)) (fun S20 => wp_addChild S20 x17 ((S.2 30) (((S.1 29) - 1).toNatClampNeg)) (fun S22 => (vp_in ((S22.1 29) - 1) 100 ∧ wl_settle_0 v1 Q K n (rm_pa S22 30 (((S22.1 29) - 1).toNatClampNeg) x17)))))) ∧ (((S.2 32) (((S.1 31) - 1).toNatClampNeg)) = 60 → wp_node (rm_pf (rm_pf S 31 ((S.1 31) - 1)) 29 ((S.1 29) - 1)) 2 7 (fun x25 S26 => wp_addChild S26 x25 ((S.2 30) ((((S.1 29) - 1) - 1).toNatClampNeg)) (fun S28 => wp_addChild S28 x25 ((S.2 30) (((S.1 29) - 1).toNatClampNeg)) (fun S30 => (vp_in ((S30.1 29) - 1) 100 ∧ wl_settle_0 v1 Q K n (rm_pa S30 30 (((S30.1 29) - 1).toNatClampNeg) x25)))))))) ∧ (((S.2 32) (((S.1 31) - 1).toNatClampNeg)) = 42 → wp_node (rm_pf (rm_pf S 31 ((S.1 31) - 1)) 29 ((S.1 29) - 1)) 2 6 (fun x33 S34 => wp_addChild S34 x33 ((S.2 30) ((((S.1 29) - 1) - 1).toNatClampNeg)) (fun S36 => wp_addChild S36 x33 ((S.2 30) (((S.1 29) - 1).toNatClampNeg)) (fun S38 => (vp_in ((S38.1 29) - 1) 100 ∧ wl_settle_0 v1 Q K n (rm_pa S38 30 (((S38.1 29) - 1).toNatClampNeg) x33)))))))) ∧ (((S.2 32) (((S.1 31) - 1).toNatClampNeg)) = 45 → wp_node (rm_pf (rm_pf S 31 ((S.1 31) - 1)) 29 ((S.1 29) - 1)) 2 5 (fun x41 S42 => wp_addChild S42 x41 ((S.2 30) ((((S.1 29) - 1) - 1).toNatClampNeg)) (fun S44 => wp_addChild S44 x41 ((S.2 30) (((S.1 29) - 1).toNatClampNeg)) (fun S46 => (vp_in ((S46.1 29) - 1) 100 ∧ wl_settle_0 v1 Q K n (rm_pa S46 30 (((S46.1 29) - 1).toNatClampNeg) x41)))))))) ∧ (((S.2 32) (((S.1 31) - 1).toNatClampNeg)) = 43 → wp_node (rm_pf (rm_pf S 31 ((S.1 31) - 1)) 29 ((S.1 29) - 1)) 2 4 (fun x49 S50 => wp_addChild S50 x49 ((S.2 30) ((((S.1 29) - 1) - 1).toNatClampNeg)) (fun S52 => wp_addChild S52 x49 ((S.2 30) (((S.1 29) - 1).toNatClampNeg)) (fun S54 => (vp_in ((S54.1 29) - 1) 100 ∧ wl_settle_0 v1 Q K n (rm_pa S54 30 (((S54.1 29) - 1).toNatClampNeg) x49))))))))) ∧ (((S.2 32) (((S.1 31) - 1).toNatClampNeg)) = 32 → (vp_in ((S.2 30) ((((S.1 29) - 1) - 1).toNatClampNeg)) 300 ∧ ((¬ ((S.2 9) (((S.2 30) ((((S.1 29) - 1) - 1).toNatClampNeg)).toNatClampNeg)) = 3 → wp_node (rm_pf (rm_pf S 31 ((S.1 31) - 1)) 29 ((S.1 29) - 1)) 3 0 (fun x59 S60 => wp_addChild S60 x59 ((S.2 30) ((((S.1 29) - 1) - 1).toNatClampNeg)) (fun S62 => wp_addChild S62 x59 ((S.2 30) (((S.1 29) - 1).toNatClampNeg)) (fun S64 => (vp_in ((S64.1 29) - 1) 100 ∧ wl_settle_0 v1 Q K n (rm_pa S64 30 (((S64.1 29) - 1).toNatClampNeg) x59)))))) ∧ (((S.2 9) (((S.2 30) ((((S.1 29) - 1) - 1).toNatClampNeg)).toNatClampNeg)) = 3 → (vp_in ((S.2 30) ((((S.1 29) - 1) - 1).toNatClampNeg)) 300 ∧ ((¬ ((S.2 14) (((S.2 30) ((((S.1 29) - 1) - 1).toNatClampNeg)).toNatClampNeg)) = 0 → wp_node (rm_pf (rm_pf S 31 ((S.1 31) - 1)) 29 ((S.1 29) - 1)) 3 0 (fun x69 S70 => wp_addChild S70 x69 ((S.2 30) ((((S.1 29) - 1) - 1).toNatClampNeg)) (fun S72 => wp_addChild S72 x69 ((S.2 30) (((S.1 29) - 1).toNatClampNeg)) (fun S74 => (vp_in ((S74.1 29) - 1) 100 ∧ wl_settle_0 v1 Q K n (rm_pa S74 30 (((S74.1 29) - 1).toNatClampNeg) x69)))))) ∧ (((S.2 14) (((S.2 30) ((((S.1 29) - 1) - 1).toNatClampNeg)).toNatClampNeg)) = 0 → wp_addChild (rm_pf (rm_pf S 31 ((S.1 31) - 1)) 29 ((S.1 29) - 1)) ((S.2 30) ((((S.1 29) - 1) - 1).toNatClampNeg)) ((S.2 30) (((S.1 29) - 1).toNatClampNeg)) (fun S77 => (vp_in ((S77.1 29) - 1) 100 ∧ wl_settle_0 v1 Q K n (rm_pa S77 30 (((S77.1 29) - 1).toNatClampNeg) ((S.2 30) ((((S.1 29) - 1) - 1).toNatClampNeg)))))))))))))))))))))))
def wp_settle (S : rm_S) (a1 : Int32) (Q : rm_S → Prop) : Prop := (∃ n9 : Nat, wl_settle_0 a1 Q (fun S79 => Q S79) n9 S)
set_option maxHeartbeats 4000000 in
set_option maxRecDepth 100000 in
theorem wl_settle_0_ok {mo : Nat} {ad : Nat → Nat} (hA : rm_A mo ad) {G0 : cj_G} {d k0 n0 k n9 : Nat} (hd9 : 1 ≤ d) (v1 : Int32) {Q : rm_S → Prop} {K : rm_S → Prop} (hK : ∀ (S : rm_S), K S → cj_J mX7_settle d k0 n0 (rm_post mo ad G0 Q) cj_no k n9 266 [(1, .int v1), (0, .ref mo)] [] (rm_md mo ad S G0)) : ∀ (n : Nat) (S : rm_S), wl_settle_0 v1 Q K n S → cj_J mX7_settle d k0 n0 (rm_post mo ad G0 Q) cj_no k n9 0 [(1, .int v1), (0, .ref mo)] [] (rm_md mo ad S G0) := by
  intro n
  induction n with
  | zero => intro S h; exact absurd h id
  | succ n ih =>
    intro S h
    unfold wl_settle_0 at h
    refine cj_aload_n dX7_settle_0 rfl ?_
    refine rm_get (.int (S.1 31)) flX7_154 dX7_settle_1 rfl ?_
    refine cj_aload_n dX7_settle_4 rfl ?_
    refine rm_get (.ref (ad 21)) flX7_52 dX7_settle_5 rfl ?_
    refine cj_pc (pc' := 8) rfl ?_
    refine cj_aload_n dX7_settle_8 rfl ?_
    refine rm_get (.int (S.1 17)) flX7_148 dX7_settle_9 rfl ?_
    refine cj_iconst (v := 1) dX7_settle_12 (by decide) ?_
    refine cj_isub dX7_settle_13 ?_
    have i1 := h.1
    replace h := h.2
    refine rm_iald (j := 21) (x := (S.2 21) (((S.1 17) - 1).toNatClampNeg)) hA rfl dX7_settle_14 i1 rfl ?_
    refine cj_pc (pc' := 15) rfl ?_
    refine cj_icmp_le (tgt := 266) dX7_settle_15 (by decide) (fun c2 => ?_) (fun c2 => ?_)
    · replace h := h.1 c2
      refine cj_sub (lv' := [(1, .int v1), (0, .ref mo)]) (by simp) ?_
      exact hK _ h
    · replace h := h.2 c2
      refine cj_aload_n dX7_settle_18 rfl ?_
      refine rm_get (.ref (ad 32)) flX7_76 dX7_settle_19 rfl ?_
      refine cj_aload_n dX7_settle_22 rfl ?_
      refine rm_get (.int (S.1 31)) flX7_154 dX7_settle_23 rfl ?_
      refine cj_pc (pc' := 26) rfl ?_
      refine cj_iconst (v := 1) dX7_settle_26 (by decide) ?_
      refine cj_isub dX7_settle_27 ?_
      have i3 := h.1
      replace h := h.2
      refine rm_cald (j := 32) (x := (S.2 32) (((S.1 31) - 1).toNatClampNeg)) hA rfl dX7_settle_28 i3 rfl ?_
      refine cj_callS (M' := mX7_rank) (d' := 0) (k' := 0) (n' := 0) (index := 187) (np := 1) (As := [.int ((S.2 32) (((S.1 31) - 1).toNatClampNeg))]) (rest := []) dX7_settle_29 lkX7_187 mwX7_rank (tR_rank h) (by omega) rfl rfl (Nat.le_of_ble_eq_true rfl) (fun v9 G9 q4 => ?_) (fun _ _ h => absurd h id)
      obtain ⟨x5, e8, e9, h⟩ := q4
      subst e8
      subst e9
      refine cj_st (st' := [.int x5]) rfl ?_
      refine cj_iload_n dX7_settle_32 rfl ?_
      refine cj_pc (pc' := 33) rfl ?_
      refine cj_icmp_lt (tgt := 266) dX7_settle_33 (by decide) (fun c6 => ?_) (fun c6 => ?_)
      · replace h := h.1 c6
        refine cj_sub (lv' := [(1, .int v1), (0, .ref mo)]) (by simp) ?_
        exact hK _ h
      · replace h := h.2 c6
        refine cj_aload_n dX7_settle_36 rfl ?_
        refine cj_dup dX7_settle_37 rfl ?_
        refine rm_get (.int (S.1 31)) flX7_154 dX7_settle_38 rfl ?_
        refine cj_iconst (v := 1) dX7_settle_41 (by decide) ?_
        refine cj_pc (pc' := 42) rfl ?_
        refine cj_isub dX7_settle_42 ?_
        refine rm_put flX7_154 dX7_settle_43 rmp_31 rfl rfl (by decide) ?_
        refine cj_aload_n dX7_settle_46 rfl ?_
        refine cj_dup dX7_settle_47 rfl ?_
        refine rm_get (.int (S.1 29)) flX7_191 dX7_settle_48 rfl ?_
        refine cj_pc (pc' := 51) rfl ?_
        refine cj_iconst (v := 1) dX7_settle_51 (by decide) ?_
        refine cj_isub dX7_settle_52 ?_
        refine rm_put flX7_191 dX7_settle_53 rmp_29 rfl rfl (by decide) ?_
        refine cj_aload_n dX7_settle_56 rfl ?_
        refine rm_get (.ref (ad 30)) flX7_73 dX7_settle_57 rfl ?_
        refine cj_pc (pc' := 60) rfl ?_
        refine cj_aload_n dX7_settle_60 rfl ?_
        refine rm_get (.int ((S.1 29) - 1)) flX7_191 dX7_settle_61 rfl ?_
        have i7 := h.1
        replace h := h.2
        refine rm_iald (j := 30) (x := (S.2 30) (((S.1 29) - 1).toNatClampNeg)) hA rfl dX7_settle_64 i7 rfl ?_
        refine cj_istore_n (lv' := [(2, .int ((S.2 30) (((S.1 29) - 1).toNatClampNeg))), (1, .int v1), (0, .ref mo)]) dX7_settle_65 (by decide) rfl ?_
        refine cj_aload_n dX7_settle_66 rfl ?_
        refine cj_pc (pc' := 67) rfl ?_
        refine rm_get (.ref (ad 30)) flX7_73 dX7_settle_67 rfl ?_
        refine cj_aload_n dX7_settle_70 rfl ?_
        refine rm_get (.int ((S.1 29) - 1)) flX7_191 dX7_settle_71 rfl ?_
        refine cj_iconst (v := 1) dX7_settle_74 (by decide) ?_
        refine cj_isub dX7_settle_75 ?_
        refine cj_pc (pc' := 76) rfl ?_
        have i8 := h.1
        replace h := h.2
        refine rm_iald (j := 30) (x := (S.2 30) ((((S.1 29) - 1) - 1).toNatClampNeg)) hA rfl dX7_settle_76 i8 rfl ?_
        refine cj_istore_n (lv' := [(3, .int ((S.2 30) ((((S.1 29) - 1) - 1).toNatClampNeg))), (2, .int ((S.2 30) (((S.1 29) - 1).toNatClampNeg))), (1, .int v1), (0, .ref mo)]) dX7_settle_77 (by decide) rfl ?_
        refine cj_aload_n dX7_settle_78 rfl ?_
        refine rm_get (.ref (ad 32)) flX7_76 dX7_settle_79 rfl ?_
        refine cj_aload_n dX7_settle_82 rfl ?_
        refine cj_pc (pc' := 83) rfl ?_
        refine rm_get (.int ((S.1 31) - 1)) flX7_154 dX7_settle_83 rfl ?_
        have i9 := h.1
        replace h := h.2
        refine rm_cald (j := 32) (x := (S.2 32) (((S.1 31) - 1).toNatClampNeg)) hA rfl dX7_settle_86 i9 rfl ?_
        refine cj_bipush (v := 32) dX7_settle_87 (by decide) ?_
        refine cj_icmp_ne (tgt := 170) dX7_settle_89 (by decide) (fun c10 => ?_) (fun c10 => ?_)
        · replace h := h.1 c10
          refine cj_aload_n dX7_settle_170 rfl ?_
          refine cj_pc (pc' := 171) rfl ?_
          refine rm_get (.ref (ad 32)) flX7_76 dX7_settle_171 rfl ?_
          refine cj_aload_n dX7_settle_174 rfl ?_
          refine rm_get (.int ((S.1 31) - 1)) flX7_154 dX7_settle_175 rfl ?_
          have i11 := h.1
          replace h := h.2
          refine rm_cald (j := 32) (x := (S.2 32) (((S.1 31) - 1).toNatClampNeg)) hA rfl dX7_settle_178 i11 rfl ?_
          refine cj_istore (lv' := [(4, .int ((S.2 32) (((S.1 31) - 1).toNatClampNeg))), (3, .int ((S.2 30) ((((S.1 29) - 1) - 1).toNatClampNeg))), (2, .int ((S.2 30) (((S.1 29) - 1).toNatClampNeg))), (1, .int v1), (0, .ref mo)]) dX7_settle_179 (by decide) rfl ?_
          refine cj_pc (pc' := 181) rfl ?_
          refine cj_aload_n dX7_settle_181 rfl ?_
          refine cj_iconst (v := 2) dX7_settle_182 (by decide) ?_
          refine cj_iload dX7_settle_183 rfl ?_
          refine cj_bipush (v := 43) dX7_settle_185 (by decide) ?_
          refine cj_icmp_ne (tgt := 194) dX7_settle_187 (by decide) (fun c12 => ?_) (fun c12 => ?_)
          · replace h := h.1 c12
            refine cj_iload dX7_settle_194 rfl ?_
            refine cj_pc (pc' := 196) rfl ?_
            refine cj_bipush (v := 45) dX7_settle_196 (by decide) ?_
            refine cj_icmp_ne (tgt := 205) dX7_settle_198 (by decide) (fun c13 => ?_) (fun c13 => ?_)
            · replace h := h.1 c13
              refine cj_iload dX7_settle_205 rfl ?_
              refine cj_bipush (v := 42) dX7_settle_207 (by decide) ?_
              refine cj_icmp_ne (tgt := 217) dX7_settle_209 (by decide) (fun c14 => ?_) (fun c14 => ?_)
              · replace h := h.1 c14
                refine cj_iload dX7_settle_217 rfl ?_
                refine cj_pc (pc' := 219) rfl ?_
                refine cj_bipush (v := 60) dX7_settle_219 (by decide) ?_
                refine cj_icmp_ne (tgt := 229) dX7_settle_221 (by decide) (fun c15 => ?_) (fun c15 => ?_)
                · replace h := h.1 c15
                  refine cj_bipush (v := 8) dX7_settle_229 (by decide) ?_
                  refine cj_callV (M' := mX7_node) (d' := 0) (k' := 0) (n' := 0) (index := 180) (np := 2) (As := [.int 2, .int 8]) (rest := []) dX7_settle_231 lkX7_180 mwX7_node (tR_node hA h) (by omega) rfl rfl (Nat.le_of_ble_eq_true rfl) rm_mo rfl (fun v9 G9 q16 => ?_) (fun _ _ h => absurd h id)
                  obtain ⟨x17, S18, e8, e9, h⟩ := q16
                  subst e8
                  subst e9
                  refine cj_st (st' := [.int x17]) rfl ?_
                  refine cj_istore (lv' := [(5, .int x17), (4, .int ((S.2 32) (((S.1 31) - 1).toNatClampNeg))), (3, .int ((S.2 30) ((((S.1 29) - 1) - 1).toNatClampNeg))), (2, .int ((S.2 30) (((S.1 29) - 1).toNatClampNeg))), (1, .int v1), (0, .ref mo)]) dX7_settle_234 (by decide) rfl ?_
                  refine cj_pc (pc' := 236) rfl ?_
                  refine cj_aload_n dX7_settle_236 rfl ?_
                  refine cj_iload dX7_settle_237 rfl ?_
                  refine cj_iload_n dX7_settle_239 rfl ?_
                  refine cj_callV (M' := mX7_addChild) (d' := 0) (k' := 0) (n' := 0) (index := 194) (np := 2) (As := [.int x17, .int ((S.2 30) ((((S.1 29) - 1) - 1).toNatClampNeg))]) (rest := []) dX7_settle_240 lkX7_194 mwX7_addChild (tR_addChild hA h) (by omega) rfl rfl (Nat.le_of_ble_eq_true rfl) rm_mo rfl (fun v9 G9 q19 => ?_) (fun _ _ h => absurd h id)
                  obtain ⟨S20, e8, e9, h⟩ := q19
                  subst e8
                  subst e9
                  refine cj_st (st' := []) rfl ?_
                  refine cj_aload_n dX7_settle_243 rfl ?_
                  refine cj_pc (pc' := 244) rfl ?_
                  refine cj_iload dX7_settle_244 rfl ?_
                  refine cj_iload_n dX7_settle_246 rfl ?_
                  refine cj_callV (M' := mX7_addChild) (d' := 0) (k' := 0) (n' := 0) (index := 194) (np := 2) (As := [.int x17, .int ((S.2 30) (((S.1 29) - 1).toNatClampNeg))]) (rest := []) dX7_settle_247 lkX7_194 mwX7_addChild (tR_addChild hA h) (by omega) rfl rfl (Nat.le_of_ble_eq_true rfl) rm_mo rfl (fun v9 G9 q21 => ?_) (fun _ _ h => absurd h id)
                  obtain ⟨S22, e8, e9, h⟩ := q21
                  subst e8
                  subst e9
                  refine cj_st (st' := []) rfl ?_
                  refine cj_aload_n dX7_settle_250 rfl ?_
                  refine rm_get (.ref (ad 30)) flX7_73 dX7_settle_251 rfl ?_
                  refine cj_pc (pc' := 254) rfl ?_
                  refine cj_aload_n dX7_settle_254 rfl ?_
                  refine rm_get (.int (S22.1 29)) flX7_191 dX7_settle_255 rfl ?_
                  refine cj_iconst (v := 1) dX7_settle_258 (by decide) ?_
                  refine cj_isub dX7_settle_259 ?_
                  refine cj_iload dX7_settle_260 rfl ?_
                  refine cj_pc (pc' := 262) rfl ?_
                  have i23 := h.1
                  replace h := h.2
                  refine rm_iast (j := 30) hA rfl dX7_settle_262 i23 ?_
                  refine cj_goto (tgt := 0) dX7_settle_263 (by decide) ?_
                  refine cj_sub (lv' := [(1, .int v1), (0, .ref mo)]) (by simp) ?_
                  exact ih _ h
                · replace h := h.2 c15
                  refine cj_bipush (v := 7) dX7_settle_224 (by decide) ?_
                  refine cj_goto (tgt := 231) dX7_settle_226 (by decide) ?_
                  refine cj_callV (M' := mX7_node) (d' := 0) (k' := 0) (n' := 0) (index := 180) (np := 2) (As := [.int 2, .int 7]) (rest := []) dX7_settle_231 lkX7_180 mwX7_node (tR_node hA h) (by omega) rfl rfl (Nat.le_of_ble_eq_true rfl) rm_mo rfl (fun v9 G9 q24 => ?_) (fun _ _ h => absurd h id)
                  obtain ⟨x25, S26, e8, e9, h⟩ := q24
                  subst e8
                  subst e9
                  refine cj_st (st' := [.int x25]) rfl ?_
                  refine cj_pc (pc' := 234) rfl ?_
                  refine cj_istore (lv' := [(5, .int x25), (4, .int ((S.2 32) (((S.1 31) - 1).toNatClampNeg))), (3, .int ((S.2 30) ((((S.1 29) - 1) - 1).toNatClampNeg))), (2, .int ((S.2 30) (((S.1 29) - 1).toNatClampNeg))), (1, .int v1), (0, .ref mo)]) dX7_settle_234 (by decide) rfl ?_
                  refine cj_aload_n dX7_settle_236 rfl ?_
                  refine cj_iload dX7_settle_237 rfl ?_
                  refine cj_iload_n dX7_settle_239 rfl ?_
                  refine cj_callV (M' := mX7_addChild) (d' := 0) (k' := 0) (n' := 0) (index := 194) (np := 2) (As := [.int x25, .int ((S.2 30) ((((S.1 29) - 1) - 1).toNatClampNeg))]) (rest := []) dX7_settle_240 lkX7_194 mwX7_addChild (tR_addChild hA h) (by omega) rfl rfl (Nat.le_of_ble_eq_true rfl) rm_mo rfl (fun v9 G9 q27 => ?_) (fun _ _ h => absurd h id)
                  obtain ⟨S28, e8, e9, h⟩ := q27
                  subst e8
                  subst e9
                  refine cj_st (st' := []) rfl ?_
                  refine cj_pc (pc' := 243) rfl ?_
                  refine cj_aload_n dX7_settle_243 rfl ?_
                  refine cj_iload dX7_settle_244 rfl ?_
                  refine cj_iload_n dX7_settle_246 rfl ?_
                  refine cj_callV (M' := mX7_addChild) (d' := 0) (k' := 0) (n' := 0) (index := 194) (np := 2) (As := [.int x25, .int ((S.2 30) (((S.1 29) - 1).toNatClampNeg))]) (rest := []) dX7_settle_247 lkX7_194 mwX7_addChild (tR_addChild hA h) (by omega) rfl rfl (Nat.le_of_ble_eq_true rfl) rm_mo rfl (fun v9 G9 q29 => ?_) (fun _ _ h => absurd h id)
                  obtain ⟨S30, e8, e9, h⟩ := q29
                  subst e8
                  subst e9
                  refine cj_st (st' := []) rfl ?_
                  refine cj_aload_n dX7_settle_250 rfl ?_
                  refine cj_pc (pc' := 251) rfl ?_
                  refine rm_get (.ref (ad 30)) flX7_73 dX7_settle_251 rfl ?_
                  refine cj_aload_n dX7_settle_254 rfl ?_
                  refine rm_get (.int (S30.1 29)) flX7_191 dX7_settle_255 rfl ?_
                  refine cj_iconst (v := 1) dX7_settle_258 (by decide) ?_
                  refine cj_isub dX7_settle_259 ?_
                  refine cj_pc (pc' := 260) rfl ?_
                  refine cj_iload dX7_settle_260 rfl ?_
                  have i31 := h.1
                  replace h := h.2
                  refine rm_iast (j := 30) hA rfl dX7_settle_262 i31 ?_
                  refine cj_goto (tgt := 0) dX7_settle_263 (by decide) ?_
                  refine cj_sub (lv' := [(1, .int v1), (0, .ref mo)]) (by simp) ?_
                  exact ih _ h
              · replace h := h.2 c14
                refine cj_bipush (v := 6) dX7_settle_212 (by decide) ?_
                refine cj_goto (tgt := 231) dX7_settle_214 (by decide) ?_
                refine cj_pc (pc' := 231) rfl ?_
                refine cj_callV (M' := mX7_node) (d' := 0) (k' := 0) (n' := 0) (index := 180) (np := 2) (As := [.int 2, .int 6]) (rest := []) dX7_settle_231 lkX7_180 mwX7_node (tR_node hA h) (by omega) rfl rfl (Nat.le_of_ble_eq_true rfl) rm_mo rfl (fun v9 G9 q32 => ?_) (fun _ _ h => absurd h id)
                obtain ⟨x33, S34, e8, e9, h⟩ := q32
                subst e8
                subst e9
                refine cj_st (st' := [.int x33]) rfl ?_
                refine cj_istore (lv' := [(5, .int x33), (4, .int ((S.2 32) (((S.1 31) - 1).toNatClampNeg))), (3, .int ((S.2 30) ((((S.1 29) - 1) - 1).toNatClampNeg))), (2, .int ((S.2 30) (((S.1 29) - 1).toNatClampNeg))), (1, .int v1), (0, .ref mo)]) dX7_settle_234 (by decide) rfl ?_
                refine cj_aload_n dX7_settle_236 rfl ?_
                refine cj_iload dX7_settle_237 rfl ?_
                refine cj_iload_n dX7_settle_239 rfl ?_
                refine cj_pc (pc' := 240) rfl ?_
                refine cj_callV (M' := mX7_addChild) (d' := 0) (k' := 0) (n' := 0) (index := 194) (np := 2) (As := [.int x33, .int ((S.2 30) ((((S.1 29) - 1) - 1).toNatClampNeg))]) (rest := []) dX7_settle_240 lkX7_194 mwX7_addChild (tR_addChild hA h) (by omega) rfl rfl (Nat.le_of_ble_eq_true rfl) rm_mo rfl (fun v9 G9 q35 => ?_) (fun _ _ h => absurd h id)
                obtain ⟨S36, e8, e9, h⟩ := q35
                subst e8
                subst e9
                refine cj_st (st' := []) rfl ?_
                refine cj_aload_n dX7_settle_243 rfl ?_
                refine cj_iload dX7_settle_244 rfl ?_
                refine cj_iload_n dX7_settle_246 rfl ?_
                refine cj_callV (M' := mX7_addChild) (d' := 0) (k' := 0) (n' := 0) (index := 194) (np := 2) (As := [.int x33, .int ((S.2 30) (((S.1 29) - 1).toNatClampNeg))]) (rest := []) dX7_settle_247 lkX7_194 mwX7_addChild (tR_addChild hA h) (by omega) rfl rfl (Nat.le_of_ble_eq_true rfl) rm_mo rfl (fun v9 G9 q37 => ?_) (fun _ _ h => absurd h id)
                obtain ⟨S38, e8, e9, h⟩ := q37
                subst e8
                subst e9
                refine cj_st (st' := []) rfl ?_
                refine cj_pc (pc' := 250) rfl ?_
                refine cj_aload_n dX7_settle_250 rfl ?_
                refine rm_get (.ref (ad 30)) flX7_73 dX7_settle_251 rfl ?_
                refine cj_aload_n dX7_settle_254 rfl ?_
                refine rm_get (.int (S38.1 29)) flX7_191 dX7_settle_255 rfl ?_
                refine cj_iconst (v := 1) dX7_settle_258 (by decide) ?_
                refine cj_pc (pc' := 259) rfl ?_
                refine cj_isub dX7_settle_259 ?_
                refine cj_iload dX7_settle_260 rfl ?_
                have i39 := h.1
                replace h := h.2
                refine rm_iast (j := 30) hA rfl dX7_settle_262 i39 ?_
                refine cj_goto (tgt := 0) dX7_settle_263 (by decide) ?_
                refine cj_sub (lv' := [(1, .int v1), (0, .ref mo)]) (by simp) ?_
                exact ih _ h
            · replace h := h.2 c13
              refine cj_iconst (v := 5) dX7_settle_201 (by decide) ?_
              refine cj_pc (pc' := 202) rfl ?_
              refine cj_goto (tgt := 231) dX7_settle_202 (by decide) ?_
              refine cj_callV (M' := mX7_node) (d' := 0) (k' := 0) (n' := 0) (index := 180) (np := 2) (As := [.int 2, .int 5]) (rest := []) dX7_settle_231 lkX7_180 mwX7_node (tR_node hA h) (by omega) rfl rfl (Nat.le_of_ble_eq_true rfl) rm_mo rfl (fun v9 G9 q40 => ?_) (fun _ _ h => absurd h id)
              obtain ⟨x41, S42, e8, e9, h⟩ := q40
              subst e8
              subst e9
              refine cj_st (st' := [.int x41]) rfl ?_
              refine cj_istore (lv' := [(5, .int x41), (4, .int ((S.2 32) (((S.1 31) - 1).toNatClampNeg))), (3, .int ((S.2 30) ((((S.1 29) - 1) - 1).toNatClampNeg))), (2, .int ((S.2 30) (((S.1 29) - 1).toNatClampNeg))), (1, .int v1), (0, .ref mo)]) dX7_settle_234 (by decide) rfl ?_
              refine cj_aload_n dX7_settle_236 rfl ?_
              refine cj_iload dX7_settle_237 rfl ?_
              refine cj_pc (pc' := 239) rfl ?_
              refine cj_iload_n dX7_settle_239 rfl ?_
              refine cj_callV (M' := mX7_addChild) (d' := 0) (k' := 0) (n' := 0) (index := 194) (np := 2) (As := [.int x41, .int ((S.2 30) ((((S.1 29) - 1) - 1).toNatClampNeg))]) (rest := []) dX7_settle_240 lkX7_194 mwX7_addChild (tR_addChild hA h) (by omega) rfl rfl (Nat.le_of_ble_eq_true rfl) rm_mo rfl (fun v9 G9 q43 => ?_) (fun _ _ h => absurd h id)
              obtain ⟨S44, e8, e9, h⟩ := q43
              subst e8
              subst e9
              refine cj_st (st' := []) rfl ?_
              refine cj_aload_n dX7_settle_243 rfl ?_
              refine cj_iload dX7_settle_244 rfl ?_
              refine cj_iload_n dX7_settle_246 rfl ?_
              refine cj_pc (pc' := 247) rfl ?_
              refine cj_callV (M' := mX7_addChild) (d' := 0) (k' := 0) (n' := 0) (index := 194) (np := 2) (As := [.int x41, .int ((S.2 30) (((S.1 29) - 1).toNatClampNeg))]) (rest := []) dX7_settle_247 lkX7_194 mwX7_addChild (tR_addChild hA h) (by omega) rfl rfl (Nat.le_of_ble_eq_true rfl) rm_mo rfl (fun v9 G9 q45 => ?_) (fun _ _ h => absurd h id)
              obtain ⟨S46, e8, e9, h⟩ := q45
              subst e8
              subst e9
              refine cj_st (st' := []) rfl ?_
              refine cj_aload_n dX7_settle_250 rfl ?_
              refine rm_get (.ref (ad 30)) flX7_73 dX7_settle_251 rfl ?_
              refine cj_aload_n dX7_settle_254 rfl ?_
              refine rm_get (.int (S46.1 29)) flX7_191 dX7_settle_255 rfl ?_
              refine cj_pc (pc' := 258) rfl ?_
              refine cj_iconst (v := 1) dX7_settle_258 (by decide) ?_
              refine cj_isub dX7_settle_259 ?_
              refine cj_iload dX7_settle_260 rfl ?_
              have i47 := h.1
              replace h := h.2
              refine rm_iast (j := 30) hA rfl dX7_settle_262 i47 ?_
              refine cj_goto (tgt := 0) dX7_settle_263 (by decide) ?_
              refine cj_sub (lv' := [(1, .int v1), (0, .ref mo)]) (by simp) ?_
              exact ih _ h
          · replace h := h.2 c12
            refine cj_iconst (v := 4) dX7_settle_190 (by decide) ?_
            refine cj_pc (pc' := 191) rfl ?_
            refine cj_goto (tgt := 231) dX7_settle_191 (by decide) ?_
            refine cj_callV (M' := mX7_node) (d' := 0) (k' := 0) (n' := 0) (index := 180) (np := 2) (As := [.int 2, .int 4]) (rest := []) dX7_settle_231 lkX7_180 mwX7_node (tR_node hA h) (by omega) rfl rfl (Nat.le_of_ble_eq_true rfl) rm_mo rfl (fun v9 G9 q48 => ?_) (fun _ _ h => absurd h id)
            obtain ⟨x49, S50, e8, e9, h⟩ := q48
            subst e8
            subst e9
            refine cj_st (st' := [.int x49]) rfl ?_
            refine cj_istore (lv' := [(5, .int x49), (4, .int ((S.2 32) (((S.1 31) - 1).toNatClampNeg))), (3, .int ((S.2 30) ((((S.1 29) - 1) - 1).toNatClampNeg))), (2, .int ((S.2 30) (((S.1 29) - 1).toNatClampNeg))), (1, .int v1), (0, .ref mo)]) dX7_settle_234 (by decide) rfl ?_
            refine cj_aload_n dX7_settle_236 rfl ?_
            refine cj_iload dX7_settle_237 rfl ?_
            refine cj_pc (pc' := 239) rfl ?_
            refine cj_iload_n dX7_settle_239 rfl ?_
            refine cj_callV (M' := mX7_addChild) (d' := 0) (k' := 0) (n' := 0) (index := 194) (np := 2) (As := [.int x49, .int ((S.2 30) ((((S.1 29) - 1) - 1).toNatClampNeg))]) (rest := []) dX7_settle_240 lkX7_194 mwX7_addChild (tR_addChild hA h) (by omega) rfl rfl (Nat.le_of_ble_eq_true rfl) rm_mo rfl (fun v9 G9 q51 => ?_) (fun _ _ h => absurd h id)
            obtain ⟨S52, e8, e9, h⟩ := q51
            subst e8
            subst e9
            refine cj_st (st' := []) rfl ?_
            refine cj_aload_n dX7_settle_243 rfl ?_
            refine cj_iload dX7_settle_244 rfl ?_
            refine cj_iload_n dX7_settle_246 rfl ?_
            refine cj_pc (pc' := 247) rfl ?_
            refine cj_callV (M' := mX7_addChild) (d' := 0) (k' := 0) (n' := 0) (index := 194) (np := 2) (As := [.int x49, .int ((S.2 30) (((S.1 29) - 1).toNatClampNeg))]) (rest := []) dX7_settle_247 lkX7_194 mwX7_addChild (tR_addChild hA h) (by omega) rfl rfl (Nat.le_of_ble_eq_true rfl) rm_mo rfl (fun v9 G9 q53 => ?_) (fun _ _ h => absurd h id)
            obtain ⟨S54, e8, e9, h⟩ := q53
            subst e8
            subst e9
            refine cj_st (st' := []) rfl ?_
            refine cj_aload_n dX7_settle_250 rfl ?_
            refine rm_get (.ref (ad 30)) flX7_73 dX7_settle_251 rfl ?_
            refine cj_aload_n dX7_settle_254 rfl ?_
            refine rm_get (.int (S54.1 29)) flX7_191 dX7_settle_255 rfl ?_
            refine cj_pc (pc' := 258) rfl ?_
            refine cj_iconst (v := 1) dX7_settle_258 (by decide) ?_
            refine cj_isub dX7_settle_259 ?_
            refine cj_iload dX7_settle_260 rfl ?_
            have i55 := h.1
            replace h := h.2
            refine rm_iast (j := 30) hA rfl dX7_settle_262 i55 ?_
            refine cj_goto (tgt := 0) dX7_settle_263 (by decide) ?_
            refine cj_sub (lv' := [(1, .int v1), (0, .ref mo)]) (by simp) ?_
            exact ih _ h
        · replace h := h.2 c10
          refine cj_aload_n dX7_settle_92 rfl ?_
          refine cj_pc (pc' := 93) rfl ?_
          refine rm_get (.ref (ad 9)) flX7_20 dX7_settle_93 rfl ?_
          refine cj_iload_n dX7_settle_96 rfl ?_
          have i56 := h.1
          replace h := h.2
          refine rm_iald (j := 9) (x := (S.2 9) (((S.2 30) ((((S.1 29) - 1) - 1).toNatClampNeg)).toNatClampNeg)) hA rfl dX7_settle_97 i56 rfl ?_
          refine cj_iconst (v := 3) dX7_settle_98 (by decide) ?_
          refine cj_icmp_ne (tgt := 115) dX7_settle_99 (by decide) (fun c57 => ?_) (fun c57 => ?_)
          · replace h := h.1 c57
            refine cj_iconst (v := 0) dX7_settle_115 (by decide) ?_
            refine cj_pc (pc' := 116) rfl ?_
            refine cj_istore (lv' := [(4, .int 0), (3, .int ((S.2 30) ((((S.1 29) - 1) - 1).toNatClampNeg))), (2, .int ((S.2 30) (((S.1 29) - 1).toNatClampNeg))), (1, .int v1), (0, .ref mo)]) dX7_settle_116 (by decide) rfl ?_
            refine cj_iload dX7_settle_118 rfl ?_
            refine cj_if_eq (tgt := 127) dX7_settle_120 (by decide) (fun _ => ?_) (fun c => absurd (by decide) c)
            refine cj_aload_n dX7_settle_127 rfl ?_
            refine cj_iconst (v := 3) dX7_settle_128 (by decide) ?_
            refine cj_pc (pc' := 129) rfl ?_
            refine cj_iconst (v := 0) dX7_settle_129 (by decide) ?_
            refine cj_callV (M' := mX7_node) (d' := 0) (k' := 0) (n' := 0) (index := 180) (np := 2) (As := [.int 3, .int 0]) (rest := []) dX7_settle_130 lkX7_180 mwX7_node (tR_node hA h) (by omega) rfl rfl (Nat.le_of_ble_eq_true rfl) rm_mo rfl (fun v9 G9 q58 => ?_) (fun _ _ h => absurd h id)
            obtain ⟨x59, S60, e8, e9, h⟩ := q58
            subst e8
            subst e9
            refine cj_st (st' := [.int x59]) rfl ?_
            refine cj_istore (lv' := [(5, .int x59), (4, .int 0), (3, .int ((S.2 30) ((((S.1 29) - 1) - 1).toNatClampNeg))), (2, .int ((S.2 30) (((S.1 29) - 1).toNatClampNeg))), (1, .int v1), (0, .ref mo)]) dX7_settle_133 (by decide) rfl ?_
            refine cj_iload dX7_settle_135 rfl ?_
            refine cj_if_ne (tgt := 147) dX7_settle_137 (by decide) (fun c => absurd c (by decide)) (fun _ => ?_)
            refine cj_pc (pc' := 140) rfl ?_
            refine cj_aload_n dX7_settle_140 rfl ?_
            refine cj_iload dX7_settle_141 rfl ?_
            refine cj_iload_n dX7_settle_143 rfl ?_
            refine cj_callV (M' := mX7_addChild) (d' := 0) (k' := 0) (n' := 0) (index := 194) (np := 2) (As := [.int x59, .int ((S.2 30) ((((S.1 29) - 1) - 1).toNatClampNeg))]) (rest := []) dX7_settle_144 lkX7_194 mwX7_addChild (tR_addChild hA h) (by omega) rfl rfl (Nat.le_of_ble_eq_true rfl) rm_mo rfl (fun v9 G9 q61 => ?_) (fun _ _ h => absurd h id)
            obtain ⟨S62, e8, e9, h⟩ := q61
            subst e8
            subst e9
            refine cj_st (st' := []) rfl ?_
            refine cj_aload_n dX7_settle_147 rfl ?_
            refine cj_pc (pc' := 148) rfl ?_
            refine cj_iload dX7_settle_148 rfl ?_
            refine cj_iload_n dX7_settle_150 rfl ?_
            refine cj_callV (M' := mX7_addChild) (d' := 0) (k' := 0) (n' := 0) (index := 194) (np := 2) (As := [.int x59, .int ((S.2 30) (((S.1 29) - 1).toNatClampNeg))]) (rest := []) dX7_settle_151 lkX7_194 mwX7_addChild (tR_addChild hA h) (by omega) rfl rfl (Nat.le_of_ble_eq_true rfl) rm_mo rfl (fun v9 G9 q63 => ?_) (fun _ _ h => absurd h id)
            obtain ⟨S64, e8, e9, h⟩ := q63
            subst e8
            subst e9
            refine cj_st (st' := []) rfl ?_
            refine cj_aload_n dX7_settle_154 rfl ?_
            refine rm_get (.ref (ad 30)) flX7_73 dX7_settle_155 rfl ?_
            refine cj_pc (pc' := 158) rfl ?_
            refine cj_aload_n dX7_settle_158 rfl ?_
            refine rm_get (.int (S64.1 29)) flX7_191 dX7_settle_159 rfl ?_
            refine cj_iconst (v := 1) dX7_settle_162 (by decide) ?_
            refine cj_isub dX7_settle_163 ?_
            refine cj_iload dX7_settle_164 rfl ?_
            refine cj_pc (pc' := 166) rfl ?_
            have i65 := h.1
            replace h := h.2
            refine rm_iast (j := 30) hA rfl dX7_settle_166 i65 ?_
            refine cj_goto (tgt := 263) dX7_settle_167 (by decide) ?_
            refine cj_goto (tgt := 0) dX7_settle_263 (by decide) ?_
            refine cj_sub (lv' := [(1, .int v1), (0, .ref mo)]) (by simp) ?_
            exact ih _ h
          · replace h := h.2 c57
            refine cj_aload_n dX7_settle_102 rfl ?_
            refine rm_get (.ref (ad 14)) flX7_36 dX7_settle_103 rfl ?_
            refine cj_pc (pc' := 106) rfl ?_
            refine cj_iload_n dX7_settle_106 rfl ?_
            have i66 := h.1
            replace h := h.2
            refine rm_zald (j := 14) (x := (S.2 14) (((S.2 30) ((((S.1 29) - 1) - 1).toNatClampNeg)).toNatClampNeg)) hA rfl dX7_settle_107 i66 rfl ?_
            refine cj_if_ne (tgt := 115) dX7_settle_108 (by decide) (fun c67 => ?_) (fun c67 => ?_)
            · replace h := h.1 c67
              refine cj_iconst (v := 0) dX7_settle_115 (by decide) ?_
              refine cj_istore (lv' := [(4, .int 0), (3, .int ((S.2 30) ((((S.1 29) - 1) - 1).toNatClampNeg))), (2, .int ((S.2 30) (((S.1 29) - 1).toNatClampNeg))), (1, .int v1), (0, .ref mo)]) dX7_settle_116 (by decide) rfl ?_
              refine cj_pc (pc' := 118) rfl ?_
              refine cj_iload dX7_settle_118 rfl ?_
              refine cj_if_eq (tgt := 127) dX7_settle_120 (by decide) (fun _ => ?_) (fun c => absurd (by decide) c)
              refine cj_aload_n dX7_settle_127 rfl ?_
              refine cj_iconst (v := 3) dX7_settle_128 (by decide) ?_
              refine cj_iconst (v := 0) dX7_settle_129 (by decide) ?_
              refine cj_pc (pc' := 130) rfl ?_
              refine cj_callV (M' := mX7_node) (d' := 0) (k' := 0) (n' := 0) (index := 180) (np := 2) (As := [.int 3, .int 0]) (rest := []) dX7_settle_130 lkX7_180 mwX7_node (tR_node hA h) (by omega) rfl rfl (Nat.le_of_ble_eq_true rfl) rm_mo rfl (fun v9 G9 q68 => ?_) (fun _ _ h => absurd h id)
              obtain ⟨x69, S70, e8, e9, h⟩ := q68
              subst e8
              subst e9
              refine cj_st (st' := [.int x69]) rfl ?_
              refine cj_istore (lv' := [(5, .int x69), (4, .int 0), (3, .int ((S.2 30) ((((S.1 29) - 1) - 1).toNatClampNeg))), (2, .int ((S.2 30) (((S.1 29) - 1).toNatClampNeg))), (1, .int v1), (0, .ref mo)]) dX7_settle_133 (by decide) rfl ?_
              refine cj_iload dX7_settle_135 rfl ?_
              refine cj_if_ne (tgt := 147) dX7_settle_137 (by decide) (fun c => absurd c (by decide)) (fun _ => ?_)
              refine cj_aload_n dX7_settle_140 rfl ?_
              refine cj_pc (pc' := 141) rfl ?_
              refine cj_iload dX7_settle_141 rfl ?_
              refine cj_iload_n dX7_settle_143 rfl ?_
              refine cj_callV (M' := mX7_addChild) (d' := 0) (k' := 0) (n' := 0) (index := 194) (np := 2) (As := [.int x69, .int ((S.2 30) ((((S.1 29) - 1) - 1).toNatClampNeg))]) (rest := []) dX7_settle_144 lkX7_194 mwX7_addChild (tR_addChild hA h) (by omega) rfl rfl (Nat.le_of_ble_eq_true rfl) rm_mo rfl (fun v9 G9 q71 => ?_) (fun _ _ h => absurd h id)
              obtain ⟨S72, e8, e9, h⟩ := q71
              subst e8
              subst e9
              refine cj_st (st' := []) rfl ?_
              refine cj_aload_n dX7_settle_147 rfl ?_
              refine cj_iload dX7_settle_148 rfl ?_
              refine cj_pc (pc' := 150) rfl ?_
              refine cj_iload_n dX7_settle_150 rfl ?_
              refine cj_callV (M' := mX7_addChild) (d' := 0) (k' := 0) (n' := 0) (index := 194) (np := 2) (As := [.int x69, .int ((S.2 30) (((S.1 29) - 1).toNatClampNeg))]) (rest := []) dX7_settle_151 lkX7_194 mwX7_addChild (tR_addChild hA h) (by omega) rfl rfl (Nat.le_of_ble_eq_true rfl) rm_mo rfl (fun v9 G9 q73 => ?_) (fun _ _ h => absurd h id)
              obtain ⟨S74, e8, e9, h⟩ := q73
              subst e8
              subst e9
              refine cj_st (st' := []) rfl ?_
              refine cj_aload_n dX7_settle_154 rfl ?_
              refine rm_get (.ref (ad 30)) flX7_73 dX7_settle_155 rfl ?_
              refine cj_aload_n dX7_settle_158 rfl ?_
              refine cj_pc (pc' := 159) rfl ?_
              refine rm_get (.int (S74.1 29)) flX7_191 dX7_settle_159 rfl ?_
              refine cj_iconst (v := 1) dX7_settle_162 (by decide) ?_
              refine cj_isub dX7_settle_163 ?_
              refine cj_iload dX7_settle_164 rfl ?_
              have i75 := h.1
              replace h := h.2
              refine rm_iast (j := 30) hA rfl dX7_settle_166 i75 ?_
              refine cj_pc (pc' := 167) rfl ?_
              refine cj_goto (tgt := 263) dX7_settle_167 (by decide) ?_
              refine cj_goto (tgt := 0) dX7_settle_263 (by decide) ?_
              refine cj_sub (lv' := [(1, .int v1), (0, .ref mo)]) (by simp) ?_
              exact ih _ h
            · replace h := h.2 c67
              refine cj_iconst (v := 1) dX7_settle_111 (by decide) ?_
              refine cj_goto (tgt := 116) dX7_settle_112 (by decide) ?_
              refine cj_istore (lv' := [(4, .int 1), (3, .int ((S.2 30) ((((S.1 29) - 1) - 1).toNatClampNeg))), (2, .int ((S.2 30) (((S.1 29) - 1).toNatClampNeg))), (1, .int v1), (0, .ref mo)]) dX7_settle_116 (by decide) rfl ?_
              refine cj_pc (pc' := 118) rfl ?_
              refine cj_iload dX7_settle_118 rfl ?_
              refine cj_if_eq (tgt := 127) dX7_settle_120 (by decide) (fun c => absurd c (by decide)) (fun _ => ?_)
              refine cj_iload_n dX7_settle_123 rfl ?_
              refine cj_goto (tgt := 133) dX7_settle_124 (by decide) ?_
              refine cj_istore (lv' := [(5, .int ((S.2 30) ((((S.1 29) - 1) - 1).toNatClampNeg))), (4, .int 1), (3, .int ((S.2 30) ((((S.1 29) - 1) - 1).toNatClampNeg))), (2, .int ((S.2 30) (((S.1 29) - 1).toNatClampNeg))), (1, .int v1), (0, .ref mo)]) dX7_settle_133 (by decide) rfl ?_
              refine cj_pc (pc' := 135) rfl ?_
              refine cj_iload dX7_settle_135 rfl ?_
              refine cj_if_ne (tgt := 147) dX7_settle_137 (by decide) (fun _ => ?_) (fun c => absurd c (by decide))
              refine cj_aload_n dX7_settle_147 rfl ?_
              refine cj_iload dX7_settle_148 rfl ?_
              refine cj_iload_n dX7_settle_150 rfl ?_
              refine cj_pc (pc' := 151) rfl ?_
              refine cj_callV (M' := mX7_addChild) (d' := 0) (k' := 0) (n' := 0) (index := 194) (np := 2) (As := [.int ((S.2 30) ((((S.1 29) - 1) - 1).toNatClampNeg)), .int ((S.2 30) (((S.1 29) - 1).toNatClampNeg))]) (rest := []) dX7_settle_151 lkX7_194 mwX7_addChild (tR_addChild hA h) (by omega) rfl rfl (Nat.le_of_ble_eq_true rfl) rm_mo rfl (fun v9 G9 q76 => ?_) (fun _ _ h => absurd h id)
              obtain ⟨S77, e8, e9, h⟩ := q76
              subst e8
              subst e9
              refine cj_st (st' := []) rfl ?_
              refine cj_aload_n dX7_settle_154 rfl ?_
              refine rm_get (.ref (ad 30)) flX7_73 dX7_settle_155 rfl ?_
              refine cj_aload_n dX7_settle_158 rfl ?_
              refine rm_get (.int (S77.1 29)) flX7_191 dX7_settle_159 rfl ?_
              refine cj_pc (pc' := 162) rfl ?_
              refine cj_iconst (v := 1) dX7_settle_162 (by decide) ?_
              refine cj_isub dX7_settle_163 ?_
              refine cj_iload dX7_settle_164 rfl ?_
              have i78 := h.1
              replace h := h.2
              refine rm_iast (j := 30) hA rfl dX7_settle_166 i78 ?_
              refine cj_goto (tgt := 263) dX7_settle_167 (by decide) ?_
              refine cj_pc (pc' := 263) rfl ?_
              refine cj_goto (tgt := 0) dX7_settle_263 (by decide) ?_
              refine cj_sub (lv' := [(1, .int v1), (0, .ref mo)]) (by simp) ?_
              exact ih _ h
set_option maxHeartbeats 4000000 in
set_option maxRecDepth 100000 in
theorem tR_settle {mo : Nat} {ad : Nat → Nat} (hA : rm_A mo ad) {G0 : cj_G} {S : rm_S} {a1 : Int32} {Q : rm_S → Prop} (h : wp_settle S a1 Q) : cj_T mX7_settle 1 0 0 [.ref mo, .int a1] (rm_md mo ad S G0) (rm_post mo ad G0 Q) cj_no := by
  refine cj_T_of (by decide +kernel) (Nat.le_of_ble_eq_true rfl) ?_
  refine cj_lvs (lv' := [(0, .ref mo), (1, .int a1)]) rfl ?_
  unfold wp_settle at h
  obtain ⟨n9, h⟩ := h
  refine cj_sub (lv' := [(1, .int a1), (0, .ref mo)]) (by simp) ?_
  refine wl_settle_0_ok hA (by omega) _ ?_ n9 _ h
  clear h
  intro S79 h
  refine cj_vret rfl dX7_settle_266 ?_
  exact ⟨_, rfl, rfl, h⟩
def wp_push (S : rm_S) (a1 : Int32) (Q : rm_S → Prop) : Prop := (vp_in (S.1 29) 100 ∧ Q (rm_pf (rm_pf (rm_pa S 30 ((S.1 29).toNatClampNeg) a1) 29 ((S.1 29) + 1)) 33 2))
set_option maxHeartbeats 4000000 in
set_option maxRecDepth 100000 in
theorem tR_push {mo : Nat} {ad : Nat → Nat} (hA : rm_A mo ad) {G0 : cj_G} {S : rm_S} {a1 : Int32} {Q : rm_S → Prop} (h : wp_push S a1 Q) : cj_T mX7_push 0 0 0 [.ref mo, .int a1] (rm_md mo ad S G0) (rm_post mo ad G0 Q) cj_no := by
  refine cj_T_of (by decide +kernel) (Nat.le_of_ble_eq_true rfl) ?_
  refine cj_lvs (lv' := [(0, .ref mo), (1, .int a1)]) rfl ?_
  unfold wp_push at h
  refine cj_aload_n dX7_push_0 rfl ?_
  refine rm_get (.ref (ad 30)) flX7_73 dX7_push_1 rfl ?_
  refine cj_aload_n dX7_push_4 rfl ?_
  refine rm_get (.int (S.1 29)) flX7_191 dX7_push_5 rfl ?_
  refine cj_pc (pc' := 8) rfl ?_
  refine cj_iload_n dX7_push_8 rfl ?_
  have i1 := h.1
  replace h := h.2
  refine rm_iast (j := 30) hA rfl dX7_push_9 i1 ?_
  refine cj_aload_n dX7_push_10 rfl ?_
  refine cj_dup dX7_push_11 rfl ?_
  refine rm_get (.int (S.1 29)) flX7_191 dX7_push_12 rfl ?_
  refine cj_pc (pc' := 15) rfl ?_
  refine cj_iconst (v := 1) dX7_push_15 (by decide) ?_
  refine cj_iadd dX7_push_16 ?_
  refine rm_put flX7_191 dX7_push_17 rmp_29 rfl rfl (by decide) ?_
  refine cj_aload_n dX7_push_20 rfl ?_
  refine cj_iconst (v := 2) dX7_push_21 (by decide) ?_
  refine cj_pc (pc' := 22) rfl ?_
  refine rm_put flX7_157 dX7_push_22 rmp_33 rfl rfl (by decide) ?_
  refine cj_vret rfl dX7_push_25 ?_
  exact ⟨_, rfl, rfl, h⟩
def wl_readNumeral_4 (Q : rm_S → Prop) (K : Int32 → Int32 → rm_S → Prop) : Nat → Int32 → Int32 → rm_S → Prop
  | 0, _, _, _ => False
  | n + 1, v1, v2, S => ((4 ≤ v2 → K v1 v2 S) ∧ (¬ 4 ≤ v2 → wp_look S (fun x3 S4 => wp_isDigit x3 (fun x6 => ((x6 = 0 → K v1 v2 S4) ∧ (¬ x6 = 0 → wp_look S4 (fun x9 S10 => wl_readNumeral_4 Q K n (((10 * v1) + x9) - 48) (v2 + 1) (rm_pf S10 5 ((S10.1 5) + 1)))))))))
def wp_readNumeral (S : rm_S) (Q : rm_S → Prop) : Prop := (∃ n9 : Nat, wl_readNumeral_4 Q (fun w12 w13 S11 => wp_node S11 0 w12 (fun x15 S16 => wp_push S16 x15 (fun S18 => Q S18))) n9 0 0 S)
set_option maxHeartbeats 4000000 in
set_option maxRecDepth 100000 in
theorem wl_readNumeral_4_ok {mo : Nat} {ad : Nat → Nat} (hA : rm_A mo ad) {G0 : cj_G} {d k0 n0 k n9 : Nat} (hd9 : 1 ≤ d) {Q : rm_S → Prop} {K : Int32 → Int32 → rm_S → Prop} (hK : ∀ (v1 : Int32) (v2 : Int32) (S : rm_S), K v1 v2 S → cj_J mX7_readNumeral d k0 n0 (rm_post mo ad G0 Q) cj_no k n9 48 [(1, .int v1), (2, .int v2), (0, .ref mo)] [] (rm_md mo ad S G0)) : ∀ (n : Nat) (v1 : Int32) (v2 : Int32) (S : rm_S), wl_readNumeral_4 Q K n v1 v2 S → cj_J mX7_readNumeral d k0 n0 (rm_post mo ad G0 Q) cj_no k n9 4 [(1, .int v1), (2, .int v2), (0, .ref mo)] [] (rm_md mo ad S G0) := by
  intro n
  induction n with
  | zero => intro v1 v2 S h; exact absurd h id
  | succ n ih =>
    intro v1 v2 S h
    unfold wl_readNumeral_4 at h
    refine cj_iload_n dX7_readNumeral_4 rfl ?_
    refine cj_pc (pc' := 5) rfl ?_
    refine cj_iconst (v := 4) dX7_readNumeral_5 (by decide) ?_
    refine cj_icmp_ge (tgt := 48) dX7_readNumeral_6 (by decide) (fun c1 => ?_) (fun c1 => ?_)
    · replace h := h.1 c1
      refine cj_sub (lv' := [(1, .int v1), (2, .int v2), (0, .ref mo)]) (by simp) ?_
      exact hK _ _ _ h
    · replace h := h.2 c1
      refine cj_aload_n dX7_readNumeral_9 rfl ?_
      refine cj_callV (M' := mX7_look) (d' := 0) (k' := 0) (n' := 0) (index := 134) (np := 0) (As := []) (rest := []) dX7_readNumeral_10 lkX7_134 mwX7_look (tR_look hA h) (by omega) rfl rfl (Nat.le_of_ble_eq_true rfl) rm_mo rfl (fun v9 G9 q2 => ?_) (fun _ _ h => absurd h id)
      obtain ⟨x3, S4, e8, e9, h⟩ := q2
      subst e8
      subst e9
      refine cj_st (st' := [.int x3]) rfl ?_
      refine cj_callS (M' := mX7_isDigit) (d' := 0) (k' := 0) (n' := 0) (index := 128) (np := 1) (As := [.int x3]) (rest := []) dX7_readNumeral_13 lkX7_128 mwX7_isDigit (tR_isDigit h) (by omega) rfl rfl (Nat.le_of_ble_eq_true rfl) (fun v9 G9 q5 => ?_) (fun _ _ h => absurd h id)
      obtain ⟨x6, e8, e9, h⟩ := q5
      subst e8
      subst e9
      refine cj_st (st' := [.int x6]) rfl ?_
      refine cj_pc (pc' := 16) rfl ?_
      refine cj_if_eq (tgt := 48) dX7_readNumeral_16 (by decide) (fun c7 => ?_) (fun c7 => ?_)
      · replace h := h.1 c7
        refine cj_sub (lv' := [(1, .int v1), (2, .int v2), (0, .ref mo)]) (by simp) ?_
        exact hK _ _ _ h
      · replace h := h.2 c7
        refine cj_bipush (v := 10) dX7_readNumeral_19 (by decide) ?_
        refine cj_iload_n dX7_readNumeral_21 rfl ?_
        refine cj_imul dX7_readNumeral_22 ?_
        refine cj_aload_n dX7_readNumeral_23 rfl ?_
        refine cj_pc (pc' := 24) rfl ?_
        refine cj_callV (M' := mX7_look) (d' := 0) (k' := 0) (n' := 0) (index := 134) (np := 0) (As := []) (rest := [.int (10 * v1)]) dX7_readNumeral_24 lkX7_134 mwX7_look (tR_look hA h) (by omega) rfl rfl (Nat.le_of_ble_eq_true rfl) rm_mo rfl (fun v9 G9 q8 => ?_) (fun _ _ h => absurd h id)
        obtain ⟨x9, S10, e8, e9, h⟩ := q8
        subst e8
        subst e9
        refine cj_st (st' := [.int x9, .int (10 * v1)]) rfl ?_
        refine cj_iadd dX7_readNumeral_27 ?_
        refine cj_bipush (v := 48) dX7_readNumeral_28 (by decide) ?_
        refine cj_isub dX7_readNumeral_30 ?_
        refine cj_istore_n (lv' := [(1, .int (((10 * v1) + x9) - 48)), (2, .int v2), (0, .ref mo)]) dX7_readNumeral_31 (by decide) rfl ?_
        refine cj_pc (pc' := 32) rfl ?_
        refine cj_aload_n dX7_readNumeral_32 rfl ?_
        refine cj_dup dX7_readNumeral_33 rfl ?_
        refine rm_get (.int (S10.1 5)) flX7_118 dX7_readNumeral_34 rfl ?_
        refine cj_iconst (v := 1) dX7_readNumeral_37 (by decide) ?_
        refine cj_iadd dX7_readNumeral_38 ?_
        refine cj_pc (pc' := 39) rfl ?_
        refine rm_put flX7_118 dX7_readNumeral_39 rmp_5 rfl rfl (by decide) ?_
        refine cj_iinc (v := v2 + 1) (lv' := [(2, .int (v2 + 1)), (1, .int (((10 * v1) + x9) - 48)), (0, .ref mo)]) dX7_readNumeral_42 rfl rfl (by decide) rfl ?_
        refine cj_goto (tgt := 4) dX7_readNumeral_45 (by decide) ?_
        refine cj_sub (lv' := [(1, .int (((10 * v1) + x9) - 48)), (2, .int (v2 + 1)), (0, .ref mo)]) (by simp) ?_
        exact ih _ _ _ h
set_option maxHeartbeats 4000000 in
set_option maxRecDepth 100000 in
theorem tR_readNumeral {mo : Nat} {ad : Nat → Nat} (hA : rm_A mo ad) {G0 : cj_G} {S : rm_S} {Q : rm_S → Prop} (h : wp_readNumeral S Q) : cj_T mX7_readNumeral 1 0 0 [.ref mo] (rm_md mo ad S G0) (rm_post mo ad G0 Q) cj_no := by
  refine cj_T_of (by decide +kernel) (Nat.le_of_ble_eq_true rfl) ?_
  refine cj_lvs (lv' := [(0, .ref mo)]) rfl ?_
  unfold wp_readNumeral at h
  refine cj_iconst (v := 0) dX7_readNumeral_0 (by decide) ?_
  refine cj_istore_n (lv' := [(1, .int 0), (0, .ref mo)]) dX7_readNumeral_1 (by decide) rfl ?_
  refine cj_iconst (v := 0) dX7_readNumeral_2 (by decide) ?_
  refine cj_istore_n (lv' := [(2, .int 0), (1, .int 0), (0, .ref mo)]) dX7_readNumeral_3 (by decide) rfl ?_
  obtain ⟨n9, h⟩ := h
  refine cj_sub (lv' := [(1, .int 0), (2, .int 0), (0, .ref mo)]) (by simp) ?_
  refine wl_readNumeral_4_ok hA (by omega) ?_ n9 _ _ _ h
  clear h
  intro w12 w13 S11 h
  refine cj_aload_n dX7_readNumeral_48 rfl ?_
  refine cj_aload_n dX7_readNumeral_49 rfl ?_
  refine cj_pc (pc' := 50) rfl ?_
  refine cj_iconst (v := 0) dX7_readNumeral_50 (by decide) ?_
  refine cj_iload_n dX7_readNumeral_51 rfl ?_
  refine cj_callV (M' := mX7_node) (d' := 0) (k' := 0) (n' := 0) (index := 180) (np := 2) (As := [.int 0, .int w12]) (rest := [.ref mo]) dX7_readNumeral_52 lkX7_180 mwX7_node (tR_node hA h) (by omega) rfl rfl (Nat.le_of_ble_eq_true rfl) rm_mo rfl (fun v9 G9 q14 => ?_) (fun _ _ h => absurd h id)
  obtain ⟨x15, S16, e8, e9, h⟩ := q14
  subst e8
  subst e9
  refine cj_st (st' := [.int x15, .ref mo]) rfl ?_
  refine cj_callV (M' := mX7_push) (d' := 0) (k' := 0) (n' := 0) (index := 197) (np := 1) (As := [.int x15]) (rest := []) dX7_readNumeral_55 lkX7_197 mwX7_push (tR_push hA h) (by omega) rfl rfl (Nat.le_of_ble_eq_true rfl) rm_mo rfl (fun v9 G9 q17 => ?_) (fun _ _ h => absurd h id)
  obtain ⟨S18, e8, e9, h⟩ := q17
  subst e8
  subst e9
  refine cj_st (st' := []) rfl ?_
  refine cj_vret rfl dX7_readNumeral_58 ?_
  exact ⟨_, rfl, rfl, h⟩
def wl_readName_7 (Q : rm_S → Prop) (K : Int32 → rm_S → Prop) : Nat → Int32 → rm_S → Prop
  | 0, _, _ => False
  | n + 1, v1, S => ((v1 < 0 → K v1 S) ∧ (¬ v1 < 0 → (vp_in v1 100 ∧ wp_look S (fun x4 S5 => ((((S.2 16) v1.toNatClampNeg) = x4 → K v1 S5) ∧ (¬ ((S.2 16) v1.toNatClampNeg) = x4 → wl_readName_7 Q K n (v1 + (-1)) S5))))))
def wp_readName (S : rm_S) (Q : rm_S → Prop) : Prop := (∃ n9 : Nat, wl_readName_7 Q (fun w8 S7 => ((0 ≤ w8 → wp_node (rm_pf S7 5 ((S7.1 5) + 1)) 1 (((S7.1 15) - 1) - w8) (fun x11 S12 => wp_push S12 x11 (fun S14 => Q S14))) ∧ (¬ 0 ≤ w8 → Q (rm_pf S7 6 1)))) n9 ((S.1 15) - 1) S)
set_option maxHeartbeats 4000000 in
set_option maxRecDepth 100000 in
theorem wl_readName_7_ok {mo : Nat} {ad : Nat → Nat} (hA : rm_A mo ad) {G0 : cj_G} {d k0 n0 k n9 : Nat} (hd9 : 1 ≤ d) {Q : rm_S → Prop} {K : Int32 → rm_S → Prop} (hK : ∀ (v1 : Int32) (S : rm_S), K v1 S → cj_J mX7_readName d k0 n0 (rm_post mo ad G0 Q) cj_no k n9 30 [(1, .int v1), (0, .ref mo)] [] (rm_md mo ad S G0)) : ∀ (n : Nat) (v1 : Int32) (S : rm_S), wl_readName_7 Q K n v1 S → cj_J mX7_readName d k0 n0 (rm_post mo ad G0 Q) cj_no k n9 7 [(1, .int v1), (0, .ref mo)] [] (rm_md mo ad S G0) := by
  intro n
  induction n with
  | zero => intro v1 S h; exact absurd h id
  | succ n ih =>
    intro v1 S h
    unfold wl_readName_7 at h
    refine cj_iload_n dX7_readName_7 rfl ?_
    refine cj_if_lt (tgt := 30) dX7_readName_8 (by decide) (fun c1 => ?_) (fun c1 => ?_)
    · replace h := h.1 c1
      refine cj_sub (lv' := [(1, .int v1), (0, .ref mo)]) (by simp) ?_
      exact hK _ _ h
    · replace h := h.2 c1
      refine cj_aload_n dX7_readName_11 rfl ?_
      refine rm_get (.ref (ad 16)) flX7_40 dX7_readName_12 rfl ?_
      refine cj_pc (pc' := 15) rfl ?_
      refine cj_iload_n dX7_readName_15 rfl ?_
      have i2 := h.1
      replace h := h.2
      refine rm_cald (j := 16) (x := (S.2 16) v1.toNatClampNeg) hA rfl dX7_readName_16 i2 rfl ?_
      refine cj_aload_n dX7_readName_17 rfl ?_
      refine cj_callV (M' := mX7_look) (d' := 0) (k' := 0) (n' := 0) (index := 134) (np := 0) (As := []) (rest := [.int ((S.2 16) v1.toNatClampNeg)]) dX7_readName_18 lkX7_134 mwX7_look (tR_look hA h) (by omega) rfl rfl (Nat.le_of_ble_eq_true rfl) rm_mo rfl (fun v9 G9 q3 => ?_) (fun _ _ h => absurd h id)
      obtain ⟨x4, S5, e8, e9, h⟩ := q3
      subst e8
      subst e9
      refine cj_st (st' := [.int x4, .int ((S.2 16) v1.toNatClampNeg)]) rfl ?_
      refine cj_icmp_eq (tgt := 30) dX7_readName_21 (by decide) (fun c6 => ?_) (fun c6 => ?_)
      · replace h := h.1 c6
        refine cj_sub (lv' := [(1, .int v1), (0, .ref mo)]) (by simp) ?_
        exact hK _ _ h
      · replace h := h.2 c6
        refine cj_iinc (v := v1 + (-1)) (lv' := [(1, .int (v1 + (-1))), (0, .ref mo)]) dX7_readName_24 rfl rfl (by decide) rfl ?_
        refine cj_pc (pc' := 27) rfl ?_
        refine cj_goto (tgt := 7) dX7_readName_27 (by decide) ?_
        refine cj_sub (lv' := [(1, .int (v1 + (-1))), (0, .ref mo)]) (by simp) ?_
        exact ih _ _ h
set_option maxHeartbeats 4000000 in
set_option maxRecDepth 100000 in
theorem tR_readName {mo : Nat} {ad : Nat → Nat} (hA : rm_A mo ad) {G0 : cj_G} {S : rm_S} {Q : rm_S → Prop} (h : wp_readName S Q) : cj_T mX7_readName 1 0 0 [.ref mo] (rm_md mo ad S G0) (rm_post mo ad G0 Q) cj_no := by
  refine cj_T_of (by decide +kernel) (Nat.le_of_ble_eq_true rfl) ?_
  refine cj_lvs (lv' := [(0, .ref mo)]) rfl ?_
  unfold wp_readName at h
  refine cj_aload_n dX7_readName_0 rfl ?_
  refine rm_get (.int (S.1 15)) flX7_145 dX7_readName_1 rfl ?_
  refine cj_iconst (v := 1) dX7_readName_4 (by decide) ?_
  refine cj_isub dX7_readName_5 ?_
  refine cj_pc (pc' := 6) rfl ?_
  refine cj_istore_n (lv' := [(1, .int ((S.1 15) - 1)), (0, .ref mo)]) dX7_readName_6 (by decide) rfl ?_
  obtain ⟨n9, h⟩ := h
  refine cj_sub (lv' := [(1, .int ((S.1 15) - 1)), (0, .ref mo)]) (by simp) ?_
  refine wl_readName_7_ok hA (by omega) ?_ n9 _ _ h
  clear h
  intro w8 S7 h
  refine cj_iload_n dX7_readName_30 rfl ?_
  refine cj_if_ge (tgt := 40) dX7_readName_31 (by decide) (fun c9 => ?_) (fun c9 => ?_)
  · replace h := h.1 c9
    refine cj_aload_n dX7_readName_40 rfl ?_
    refine cj_dup dX7_readName_41 rfl ?_
    refine cj_pc (pc' := 42) rfl ?_
    refine rm_get (.int (S7.1 5)) flX7_118 dX7_readName_42 rfl ?_
    refine cj_iconst (v := 1) dX7_readName_45 (by decide) ?_
    refine cj_iadd dX7_readName_46 ?_
    refine rm_put flX7_118 dX7_readName_47 rmp_5 rfl rfl (by decide) ?_
    refine cj_aload_n dX7_readName_50 rfl ?_
    refine cj_pc (pc' := 51) rfl ?_
    refine cj_aload_n dX7_readName_51 rfl ?_
    refine cj_iconst (v := 1) dX7_readName_52 (by decide) ?_
    refine cj_aload_n dX7_readName_53 rfl ?_
    refine rm_get (.int (S7.1 15)) flX7_145 dX7_readName_54 rfl ?_
    refine cj_iconst (v := 1) dX7_readName_57 (by decide) ?_
    refine cj_pc (pc' := 58) rfl ?_
    refine cj_isub dX7_readName_58 ?_
    refine cj_iload_n dX7_readName_59 rfl ?_
    refine cj_isub dX7_readName_60 ?_
    refine cj_callV (M' := mX7_node) (d' := 0) (k' := 0) (n' := 0) (index := 180) (np := 2) (As := [.int 1, .int (((S7.1 15) - 1) - w8)]) (rest := [.ref mo]) dX7_readName_61 lkX7_180 mwX7_node (tR_node hA h) (by omega) rfl rfl (Nat.le_of_ble_eq_true rfl) rm_mo rfl (fun v9 G9 q10 => ?_) (fun _ _ h => absurd h id)
    obtain ⟨x11, S12, e8, e9, h⟩ := q10
    subst e8
    subst e9
    refine cj_st (st' := [.int x11, .ref mo]) rfl ?_
    refine cj_callV (M' := mX7_push) (d' := 0) (k' := 0) (n' := 0) (index := 197) (np := 1) (As := [.int x11]) (rest := []) dX7_readName_64 lkX7_197 mwX7_push (tR_push hA h) (by omega) rfl rfl (Nat.le_of_ble_eq_true rfl) rm_mo rfl (fun v9 G9 q13 => ?_) (fun _ _ h => absurd h id)
    obtain ⟨S14, e8, e9, h⟩ := q13
    subst e8
    subst e9
    refine cj_st (st' := []) rfl ?_
    refine cj_pc (pc' := 67) rfl ?_
    refine cj_vret rfl dX7_readName_67 ?_
    exact ⟨_, rfl, rfl, h⟩
  · replace h := h.2 c9
    refine cj_aload_n dX7_readName_34 rfl ?_
    refine cj_iconst (v := 1) dX7_readName_35 (by decide) ?_
    refine rm_put flX7_138 dX7_readName_36 rmp_6 rfl rfl (by decide) ?_
    refine cj_vret rfl dX7_readName_39 ?_
    exact ⟨_, rfl, rfl, h⟩
def wp_readAtom (S : rm_S) (Q : rm_S → Prop) : Prop := wp_look S (fun x2 S3 => wp_isDigit x2 (fun x5 => ((x5 = 0 → wp_isName x2 (fun x8 => ((x8 = 0 → wp_isConstructor x2 (fun x11 => ((x11 = 0 → ((¬ x2 = 40 → Q (rm_pf S3 6 1)) ∧ (x2 = 40 → wp_begin (rm_pf S3 5 ((S3.1 5) + 1)) 4 (-1) (fun S15 => Q S15)))) ∧ (¬ x11 = 0 → wp_node S3 4 (x2 - 65) (fun x17 S18 => (vp_in x17 300 ∧ ((¬ (((S18.2 10) x17.toNatClampNeg) - ((S18.2 10) x17.toNatClampNeg) / 4 * 4) = 0 → wp_want (rm_pf S18 5 ((S18.1 5) + 1)) 40 (fun S22 => ((¬ (S22.1 6) = 0 → Q S22) ∧ ((S22.1 6) = 0 → wp_begin S22 3 x17 (fun S25 => Q S25))))) ∧ ((((S18.2 10) x17.toNatClampNeg) - ((S18.2 10) x17.toNatClampNeg) / 4 * 4) = 0 → wp_push (rm_pf S18 5 ((S18.1 5) + 1)) x17 (fun S27 => Q S27))))))))) ∧ (¬ x8 = 0 → wp_readName S3 (fun S29 => Q S29))))) ∧ (¬ x5 = 0 → wp_readNumeral S3 (fun S31 => Q S31)))))
set_option maxHeartbeats 4000000 in
set_option maxRecDepth 100000 in
theorem tR_readAtom {mo : Nat} {ad : Nat → Nat} (hA : rm_A mo ad) {G0 : cj_G} {S : rm_S} {Q : rm_S → Prop} (h : wp_readAtom S Q) : cj_T mX7_readAtom 2 0 0 [.ref mo] (rm_md mo ad S G0) (rm_post mo ad G0 Q) cj_no := by
  refine cj_T_of (by decide +kernel) (Nat.le_of_ble_eq_true rfl) ?_
  refine cj_lvs (lv' := [(0, .ref mo)]) rfl ?_
  unfold wp_readAtom at h
  refine cj_aload_n dX7_readAtom_0 rfl ?_
  refine cj_callV (M' := mX7_look) (d' := 0) (k' := 0) (n' := 0) (index := 134) (np := 0) (As := []) (rest := []) dX7_readAtom_1 lkX7_134 mwX7_look (tR_look hA h) (by omega) rfl rfl (Nat.le_of_ble_eq_true rfl) rm_mo rfl (fun v9 G9 q1 => ?_) (fun _ _ h => absurd h id)
  obtain ⟨x2, S3, e8, e9, h⟩ := q1
  subst e8
  subst e9
  refine cj_st (st' := [.int x2]) rfl ?_
  refine cj_istore_n (lv' := [(1, .int x2), (0, .ref mo)]) dX7_readAtom_4 (by decide) rfl ?_
  refine cj_iload_n dX7_readAtom_5 rfl ?_
  refine cj_pc (pc' := 6) rfl ?_
  refine cj_callS (M' := mX7_isDigit) (d' := 0) (k' := 0) (n' := 0) (index := 128) (np := 1) (As := [.int x2]) (rest := []) dX7_readAtom_6 lkX7_128 mwX7_isDigit (tR_isDigit h) (by omega) rfl rfl (Nat.le_of_ble_eq_true rfl) (fun v9 G9 q4 => ?_) (fun _ _ h => absurd h id)
  obtain ⟨x5, e8, e9, h⟩ := q4
  subst e8
  subst e9
  refine cj_st (st' := [.int x5]) rfl ?_
  refine cj_if_eq (tgt := 19) dX7_readAtom_9 (by decide) (fun c6 => ?_) (fun c6 => ?_)
  · replace h := h.1 c6
    refine cj_iload_n dX7_readAtom_19 rfl ?_
    refine cj_callS (M' := mX7_isName) (d' := 0) (k' := 0) (n' := 0) (index := 124) (np := 1) (As := [.int x2]) (rest := []) dX7_readAtom_20 lkX7_124 mwX7_isName (tR_isName h) (by omega) rfl rfl (Nat.le_of_ble_eq_true rfl) (fun v9 G9 q7 => ?_) (fun _ _ h => absurd h id)
    obtain ⟨x8, e8, e9, h⟩ := q7
    subst e8
    subst e9
    refine cj_st (st' := [.int x8]) rfl ?_
    refine cj_if_eq (tgt := 33) dX7_readAtom_23 (by decide) (fun c9 => ?_) (fun c9 => ?_)
    · replace h := h.1 c9
      refine cj_iload_n dX7_readAtom_33 rfl ?_
      refine cj_pc (pc' := 34) rfl ?_
      refine cj_callS (M' := mX7_isConstructor) (d' := 0) (k' := 0) (n' := 0) (index := 131) (np := 1) (As := [.int x2]) (rest := []) dX7_readAtom_34 lkX7_131 mwX7_isConstructor (tR_isConstructor h) (by omega) rfl rfl (Nat.le_of_ble_eq_true rfl) (fun v9 G9 q10 => ?_) (fun _ _ h => absurd h id)
      obtain ⟨x11, e8, e9, h⟩ := q10
      subst e8
      subst e9
      refine cj_st (st' := [.int x11]) rfl ?_
      refine cj_if_eq (tgt := 99) dX7_readAtom_37 (by decide) (fun c12 => ?_) (fun c12 => ?_)
      · replace h := h.1 c12
        refine cj_iload_n dX7_readAtom_99 rfl ?_
        refine cj_bipush (v := 40) dX7_readAtom_100 (by decide) ?_
        refine cj_icmp_ne (tgt := 124) dX7_readAtom_102 (by decide) (fun c13 => ?_) (fun c13 => ?_)
        · replace h := h.1 c13
          refine cj_aload_n dX7_readAtom_124 rfl ?_
          refine cj_pc (pc' := 125) rfl ?_
          refine cj_iconst (v := 1) dX7_readAtom_125 (by decide) ?_
          refine rm_put flX7_138 dX7_readAtom_126 rmp_6 rfl rfl (by decide) ?_
          refine cj_vret rfl dX7_readAtom_129 ?_
          exact ⟨_, rfl, rfl, h⟩
        · replace h := h.2 c13
          refine cj_aload_n dX7_readAtom_105 rfl ?_
          refine cj_dup dX7_readAtom_106 rfl ?_
          refine cj_pc (pc' := 107) rfl ?_
          refine rm_get (.int (S3.1 5)) flX7_118 dX7_readAtom_107 rfl ?_
          refine cj_iconst (v := 1) dX7_readAtom_110 (by decide) ?_
          refine cj_iadd dX7_readAtom_111 ?_
          refine rm_put flX7_118 dX7_readAtom_112 rmp_5 rfl rfl (by decide) ?_
          refine cj_aload_n dX7_readAtom_115 rfl ?_
          refine cj_pc (pc' := 116) rfl ?_
          refine cj_iconst (v := 4) dX7_readAtom_116 (by decide) ?_
          refine cj_iconst (v := (-1)) dX7_readAtom_117 (by decide) ?_
          refine cj_callV (M' := mX7_begin) (d' := 0) (k' := 0) (n' := 0) (index := 174) (np := 2) (As := [.int 4, .int (-1)]) (rest := []) dX7_readAtom_118 lkX7_174 mwX7_begin (tR_begin hA h) (by omega) rfl rfl (Nat.le_of_ble_eq_true rfl) rm_mo rfl (fun v9 G9 q14 => ?_) (fun _ _ h => absurd h id)
          obtain ⟨S15, e8, e9, h⟩ := q14
          subst e8
          subst e9
          refine cj_st (st' := []) rfl ?_
          refine cj_goto (tgt := 129) dX7_readAtom_121 (by decide) ?_
          refine cj_vret rfl dX7_readAtom_129 ?_
          exact ⟨_, rfl, rfl, h⟩
      · replace h := h.2 c12
        refine cj_aload_n dX7_readAtom_40 rfl ?_
        refine cj_pc (pc' := 41) rfl ?_
        refine cj_iconst (v := 4) dX7_readAtom_41 (by decide) ?_
        refine cj_iload_n dX7_readAtom_42 rfl ?_
        refine cj_bipush (v := 65) dX7_readAtom_43 (by decide) ?_
        refine cj_isub dX7_readAtom_45 ?_
        refine cj_callV (M' := mX7_node) (d' := 0) (k' := 0) (n' := 0) (index := 180) (np := 2) (As := [.int 4, .int (x2 - 65)]) (rest := []) dX7_readAtom_46 lkX7_180 mwX7_node (tR_node hA h) (by omega) rfl rfl (Nat.le_of_ble_eq_true rfl) rm_mo rfl (fun v9 G9 q16 => ?_) (fun _ _ h => absurd h id)
        obtain ⟨x17, S18, e8, e9, h⟩ := q16
        subst e8
        subst e9
        refine cj_st (st' := [.int x17]) rfl ?_
        refine cj_pc (pc' := 49) rfl ?_
        refine cj_istore_n (lv' := [(2, .int x17), (1, .int x2), (0, .ref mo)]) dX7_readAtom_49 (by decide) rfl ?_
        refine cj_aload_n dX7_readAtom_50 rfl ?_
        refine cj_dup dX7_readAtom_51 rfl ?_
        refine rm_get (.int (S18.1 5)) flX7_118 dX7_readAtom_52 rfl ?_
        refine cj_iconst (v := 1) dX7_readAtom_55 (by decide) ?_
        refine cj_pc (pc' := 56) rfl ?_
        refine cj_iadd dX7_readAtom_56 ?_
        refine rm_put flX7_118 dX7_readAtom_57 rmp_5 rfl rfl (by decide) ?_
        refine cj_aload_n dX7_readAtom_60 rfl ?_
        refine rm_get (.ref (ad 10)) flX7_24 dX7_readAtom_61 rfl ?_
        refine cj_iload_n dX7_readAtom_64 rfl ?_
        refine cj_pc (pc' := 65) rfl ?_
        have i19 := h.1
        replace h := h.2
        refine rm_iald (j := 10) (x := (S18.2 10) x17.toNatClampNeg) hA rfl dX7_readAtom_65 i19 rfl ?_
        refine cj_iconst (v := 4) dX7_readAtom_66 (by decide) ?_
        refine cj_irem dX7_readAtom_67 (by decide) ?_
        refine cj_if_ne (tgt := 77) dX7_readAtom_68 (by decide) (fun c20 => ?_) (fun c20 => ?_)
        · replace h := h.1 c20
          refine cj_aload_n dX7_readAtom_77 rfl ?_
          refine cj_pc (pc' := 78) rfl ?_
          refine cj_bipush (v := 40) dX7_readAtom_78 (by decide) ?_
          refine cj_callV (M' := mX7_want) (d' := 1) (k' := 0) (n' := 0) (index := 184) (np := 1) (As := [.int 40]) (rest := []) dX7_readAtom_80 lkX7_184 mwX7_want (tR_want hA h) (by omega) rfl rfl (Nat.le_of_ble_eq_true rfl) rm_mo rfl (fun v9 G9 q21 => ?_) (fun _ _ h => absurd h id)
          obtain ⟨S22, e8, e9, h⟩ := q21
          subst e8
          subst e9
          refine cj_st (st' := []) rfl ?_
          refine cj_aload_n dX7_readAtom_83 rfl ?_
          refine rm_get (.int (S22.1 6)) flX7_138 dX7_readAtom_84 rfl ?_
          refine cj_if_ne (tgt := 96) dX7_readAtom_87 (by decide) (fun c23 => ?_) (fun c23 => ?_)
          · replace h := h.1 c23
            refine cj_goto (tgt := 129) dX7_readAtom_96 (by decide) ?_
            refine cj_pc (pc' := 129) rfl ?_
            refine cj_vret rfl dX7_readAtom_129 ?_
            exact ⟨_, rfl, rfl, h⟩
          · replace h := h.2 c23
            refine cj_aload_n dX7_readAtom_90 rfl ?_
            refine cj_iconst (v := 3) dX7_readAtom_91 (by decide) ?_
            refine cj_iload_n dX7_readAtom_92 rfl ?_
            refine cj_callV (M' := mX7_begin) (d' := 0) (k' := 0) (n' := 0) (index := 174) (np := 2) (As := [.int 3, .int x17]) (rest := []) dX7_readAtom_93 lkX7_174 mwX7_begin (tR_begin hA h) (by omega) rfl rfl (Nat.le_of_ble_eq_true rfl) rm_mo rfl (fun v9 G9 q24 => ?_) (fun _ _ h => absurd h id)
            obtain ⟨S25, e8, e9, h⟩ := q24
            subst e8
            subst e9
            refine cj_st (st' := []) rfl ?_
            refine cj_pc (pc' := 96) rfl ?_
            refine cj_goto (tgt := 129) dX7_readAtom_96 (by decide) ?_
            refine cj_vret rfl dX7_readAtom_129 ?_
            exact ⟨_, rfl, rfl, h⟩
        · replace h := h.2 c20
          refine cj_aload_n dX7_readAtom_71 rfl ?_
          refine cj_iload_n dX7_readAtom_72 rfl ?_
          refine cj_callV (M' := mX7_push) (d' := 0) (k' := 0) (n' := 0) (index := 197) (np := 1) (As := [.int x17]) (rest := []) dX7_readAtom_73 lkX7_197 mwX7_push (tR_push hA h) (by omega) rfl rfl (Nat.le_of_ble_eq_true rfl) rm_mo rfl (fun v9 G9 q26 => ?_) (fun _ _ h => absurd h id)
          obtain ⟨S27, e8, e9, h⟩ := q26
          subst e8
          subst e9
          refine cj_st (st' := []) rfl ?_
          refine cj_pc (pc' := 76) rfl ?_
          refine cj_vret rfl dX7_readAtom_76 ?_
          exact ⟨_, rfl, rfl, h⟩
    · replace h := h.2 c9
      refine cj_aload_n dX7_readAtom_26 rfl ?_
      refine cj_callV (M' := mX7_readName) (d' := 1) (k' := 0) (n' := 0) (index := 204) (np := 0) (As := []) (rest := []) dX7_readAtom_27 lkX7_204 mwX7_readName (tR_readName hA h) (by omega) rfl rfl (Nat.le_of_ble_eq_true rfl) rm_mo rfl (fun v9 G9 q28 => ?_) (fun _ _ h => absurd h id)
      obtain ⟨S29, e8, e9, h⟩ := q28
      subst e8
      subst e9
      refine cj_st (st' := []) rfl ?_
      refine cj_goto (tgt := 129) dX7_readAtom_30 (by decide) ?_
      refine cj_vret rfl dX7_readAtom_129 ?_
      exact ⟨_, rfl, rfl, h⟩
  · replace h := h.2 c6
    refine cj_aload_n dX7_readAtom_12 rfl ?_
    refine cj_pc (pc' := 13) rfl ?_
    refine cj_callV (M' := mX7_readNumeral) (d' := 1) (k' := 0) (n' := 0) (index := 201) (np := 0) (As := []) (rest := []) dX7_readAtom_13 lkX7_201 mwX7_readNumeral (tR_readNumeral hA h) (by omega) rfl rfl (Nat.le_of_ble_eq_true rfl) rm_mo rfl (fun v9 G9 q30 => ?_) (fun _ _ h => absurd h id)
    obtain ⟨S31, e8, e9, h⟩ := q30
    subst e8
    subst e9
    refine cj_st (st' := []) rfl ?_
    refine cj_goto (tgt := 129) dX7_readAtom_16 (by decide) ?_
    refine cj_vret rfl dX7_readAtom_129 ?_
    exact ⟨_, rfl, rfl, h⟩
def wp_join (S : rm_S) (a1 : Int32) (a2 : Int32) (Q : rm_S → Prop) : Prop := wp_settle S a2 (fun S2 => (vp_in (S2.1 31) 100 ∧ ((a1 = 32 → Q (rm_pf (rm_pf (rm_pa S2 32 ((S2.1 31).toNatClampNeg) (vp_nar .char a1)) 31 ((S2.1 31) + 1)) 33 1)) ∧ (¬ a1 = 32 → Q (rm_pf (rm_pf (rm_pf (rm_pa S2 32 ((S2.1 31).toNatClampNeg) (vp_nar .char a1)) 31 ((S2.1 31) + 1)) 5 ((S2.1 5) + 1)) 33 1)))))
set_option maxHeartbeats 4000000 in
set_option maxRecDepth 100000 in
theorem tR_join {mo : Nat} {ad : Nat → Nat} (hA : rm_A mo ad) {G0 : cj_G} {S : rm_S} {a1 : Int32} {a2 : Int32} {Q : rm_S → Prop} (h : wp_join S a1 a2 Q) : cj_T mX7_join 2 0 0 [.ref mo, .int a1, .int a2] (rm_md mo ad S G0) (rm_post mo ad G0 Q) cj_no := by
  refine cj_T_of (by decide +kernel) (Nat.le_of_ble_eq_true rfl) ?_
  refine cj_lvs (lv' := [(0, .ref mo), (1, .int a1), (2, .int a2)]) rfl ?_
  unfold wp_join at h
  refine cj_aload_n dX7_join_0 rfl ?_
  refine cj_iload_n dX7_join_1 rfl ?_
  refine cj_callV (M' := mX7_settle) (d' := 1) (k' := 0) (n' := 0) (index := 214) (np := 1) (As := [.int a2]) (rest := []) dX7_join_2 lkX7_214 mwX7_settle (tR_settle hA h) (by omega) rfl rfl (Nat.le_of_ble_eq_true rfl) rm_mo rfl (fun v9 G9 q1 => ?_) (fun _ _ h => absurd h id)
  obtain ⟨S2, e8, e9, h⟩ := q1
  subst e8
  subst e9
  refine cj_st (st' := []) rfl ?_
  refine cj_aload_n dX7_join_5 rfl ?_
  refine cj_pc (pc' := 6) rfl ?_
  refine rm_get (.ref (ad 32)) flX7_76 dX7_join_6 rfl ?_
  refine cj_aload_n dX7_join_9 rfl ?_
  refine rm_get (.int (S2.1 31)) flX7_154 dX7_join_10 rfl ?_
  refine cj_iload_n dX7_join_13 rfl ?_
  have i3 := h.1
  replace h := h.2
  refine rm_cast (j := 32) hA rfl dX7_join_14 i3 ?_
  refine cj_pc (pc' := 15) rfl ?_
  refine cj_aload_n dX7_join_15 rfl ?_
  refine cj_dup dX7_join_16 rfl ?_
  refine rm_get (.int (S2.1 31)) flX7_154 dX7_join_17 rfl ?_
  refine cj_iconst (v := 1) dX7_join_20 (by decide) ?_
  refine cj_iadd dX7_join_21 ?_
  refine cj_pc (pc' := 22) rfl ?_
  refine rm_put flX7_154 dX7_join_22 rmp_31 rfl rfl (by decide) ?_
  refine cj_iload_n dX7_join_25 rfl ?_
  refine cj_bipush (v := 32) dX7_join_26 (by decide) ?_
  refine cj_icmp_eq (tgt := 41) dX7_join_28 (by decide) (fun c4 => ?_) (fun c4 => ?_)
  · replace h := h.1 c4
    refine cj_aload_n dX7_join_41 rfl ?_
    refine cj_pc (pc' := 42) rfl ?_
    refine cj_iconst (v := 1) dX7_join_42 (by decide) ?_
    refine rm_put flX7_157 dX7_join_43 rmp_33 rfl rfl (by decide) ?_
    refine cj_vret rfl dX7_join_46 ?_
    exact ⟨_, rfl, rfl, h⟩
  · replace h := h.2 c4
    refine cj_aload_n dX7_join_31 rfl ?_
    refine cj_dup dX7_join_32 rfl ?_
    refine cj_pc (pc' := 33) rfl ?_
    refine rm_get (.int (S2.1 5)) flX7_118 dX7_join_33 rfl ?_
    refine cj_iconst (v := 1) dX7_join_36 (by decide) ?_
    refine cj_iadd dX7_join_37 ?_
    refine rm_put flX7_118 dX7_join_38 rmp_5 rfl rfl (by decide) ?_
    refine cj_aload_n dX7_join_41 rfl ?_
    refine cj_pc (pc' := 42) rfl ?_
    refine cj_iconst (v := 1) dX7_join_42 (by decide) ?_
    refine rm_put flX7_157 dX7_join_43 rmp_33 rfl rfl (by decide) ?_
    refine cj_vret rfl dX7_join_46 ?_
    exact ⟨_, rfl, rfl, h⟩
def wp_fieldEnds (S : rm_S) (a1 : Int32) (a2 : Int32) (Q : rm_S → Prop) : Prop := wp_addChild S a1 a2 (fun S2 => (vp_in a1 300 ∧ (vp_in a1 300 ∧ (((((S2.2 10) a1.toNatClampNeg) - ((S2.2 10) a1.toNatClampNeg) / 4 * 4) ≤ ((S2.2 13) a1.toNatClampNeg) → wp_want S2 41 (fun S7 => wp_push S7 a1 (fun S9 => Q S9))) ∧ (¬ (((S2.2 10) a1.toNatClampNeg) - ((S2.2 10) a1.toNatClampNeg) / 4 * 4) ≤ ((S2.2 13) a1.toNatClampNeg) → wp_want S2 44 (fun S11 => ((¬ (S11.1 6) = 0 → Q S11) ∧ ((S11.1 6) = 0 → wp_begin S11 3 a1 (fun S14 => Q S14)))))))))
set_option maxHeartbeats 4000000 in
set_option maxRecDepth 100000 in
theorem tR_fieldEnds {mo : Nat} {ad : Nat → Nat} (hA : rm_A mo ad) {G0 : cj_G} {S : rm_S} {a1 : Int32} {a2 : Int32} {Q : rm_S → Prop} (h : wp_fieldEnds S a1 a2 Q) : cj_T mX7_fieldEnds 2 0 0 [.ref mo, .int a1, .int a2] (rm_md mo ad S G0) (rm_post mo ad G0 Q) cj_no := by
  refine cj_T_of (by decide +kernel) (Nat.le_of_ble_eq_true rfl) ?_
  refine cj_lvs (lv' := [(0, .ref mo), (1, .int a1), (2, .int a2)]) rfl ?_
  unfold wp_fieldEnds at h
  refine cj_aload_n dX7_fieldEnds_0 rfl ?_
  refine cj_iload_n dX7_fieldEnds_1 rfl ?_
  refine cj_iload_n dX7_fieldEnds_2 rfl ?_
  refine cj_callV (M' := mX7_addChild) (d' := 0) (k' := 0) (n' := 0) (index := 194) (np := 2) (As := [.int a1, .int a2]) (rest := []) dX7_fieldEnds_3 lkX7_194 mwX7_addChild (tR_addChild hA h) (by omega) rfl rfl (Nat.le_of_ble_eq_true rfl) rm_mo rfl (fun v9 G9 q1 => ?_) (fun _ _ h => absurd h id)
  obtain ⟨S2, e8, e9, h⟩ := q1
  subst e8
  subst e9
  refine cj_st (st' := []) rfl ?_
  refine cj_pc (pc' := 6) rfl ?_
  refine cj_aload_n dX7_fieldEnds_6 rfl ?_
  refine rm_get (.ref (ad 13)) flX7_33 dX7_fieldEnds_7 rfl ?_
  refine cj_iload_n dX7_fieldEnds_10 rfl ?_
  have i3 := h.1
  replace h := h.2
  refine rm_iald (j := 13) (x := (S2.2 13) a1.toNatClampNeg) hA rfl dX7_fieldEnds_11 i3 rfl ?_
  refine cj_aload_n dX7_fieldEnds_12 rfl ?_
  refine cj_pc (pc' := 13) rfl ?_
  refine rm_get (.ref (ad 10)) flX7_24 dX7_fieldEnds_13 rfl ?_
  refine cj_iload_n dX7_fieldEnds_16 rfl ?_
  have i4 := h.1
  replace h := h.2
  refine rm_iald (j := 10) (x := (S2.2 10) a1.toNatClampNeg) hA rfl dX7_fieldEnds_17 i4 rfl ?_
  refine cj_iconst (v := 4) dX7_fieldEnds_18 (by decide) ?_
  refine cj_irem dX7_fieldEnds_19 (by decide) ?_
  refine cj_pc (pc' := 20) rfl ?_
  refine cj_icmp_ge (tgt := 43) dX7_fieldEnds_20 (by decide) (fun c5 => ?_) (fun c5 => ?_)
  · replace h := h.1 c5
    refine cj_aload_n dX7_fieldEnds_43 rfl ?_
    refine cj_bipush (v := 41) dX7_fieldEnds_44 (by decide) ?_
    refine cj_callV (M' := mX7_want) (d' := 1) (k' := 0) (n' := 0) (index := 184) (np := 1) (As := [.int 41]) (rest := []) dX7_fieldEnds_46 lkX7_184 mwX7_want (tR_want hA h) (by omega) rfl rfl (Nat.le_of_ble_eq_true rfl) rm_mo rfl (fun v9 G9 q6 => ?_) (fun _ _ h => absurd h id)
    obtain ⟨S7, e8, e9, h⟩ := q6
    subst e8
    subst e9
    refine cj_st (st' := []) rfl ?_
    refine cj_aload_n dX7_fieldEnds_49 rfl ?_
    refine cj_pc (pc' := 50) rfl ?_
    refine cj_iload_n dX7_fieldEnds_50 rfl ?_
    refine cj_callV (M' := mX7_push) (d' := 0) (k' := 0) (n' := 0) (index := 197) (np := 1) (As := [.int a1]) (rest := []) dX7_fieldEnds_51 lkX7_197 mwX7_push (tR_push hA h) (by omega) rfl rfl (Nat.le_of_ble_eq_true rfl) rm_mo rfl (fun v9 G9 q8 => ?_) (fun _ _ h => absurd h id)
    obtain ⟨S9, e8, e9, h⟩ := q8
    subst e8
    subst e9
    refine cj_st (st' := []) rfl ?_
    refine cj_vret rfl dX7_fieldEnds_54 ?_
    exact ⟨_, rfl, rfl, h⟩
  · replace h := h.2 c5
    refine cj_aload_n dX7_fieldEnds_23 rfl ?_
    refine cj_bipush (v := 44) dX7_fieldEnds_24 (by decide) ?_
    refine cj_pc (pc' := 26) rfl ?_
    refine cj_callV (M' := mX7_want) (d' := 1) (k' := 0) (n' := 0) (index := 184) (np := 1) (As := [.int 44]) (rest := []) dX7_fieldEnds_26 lkX7_184 mwX7_want (tR_want hA h) (by omega) rfl rfl (Nat.le_of_ble_eq_true rfl) rm_mo rfl (fun v9 G9 q10 => ?_) (fun _ _ h => absurd h id)
    obtain ⟨S11, e8, e9, h⟩ := q10
    subst e8
    subst e9
    refine cj_st (st' := []) rfl ?_
    refine cj_aload_n dX7_fieldEnds_29 rfl ?_
    refine rm_get (.int (S11.1 6)) flX7_138 dX7_fieldEnds_30 rfl ?_
    refine cj_if_ne (tgt := 42) dX7_fieldEnds_33 (by decide) (fun c12 => ?_) (fun c12 => ?_)
    · replace h := h.1 c12
      refine cj_vret rfl dX7_fieldEnds_42 ?_
      exact ⟨_, rfl, rfl, h⟩
    · replace h := h.2 c12
      refine cj_aload_n dX7_fieldEnds_36 rfl ?_
      refine cj_pc (pc' := 37) rfl ?_
      refine cj_iconst (v := 3) dX7_fieldEnds_37 (by decide) ?_
      refine cj_iload_n dX7_fieldEnds_38 rfl ?_
      refine cj_callV (M' := mX7_begin) (d' := 0) (k' := 0) (n' := 0) (index := 174) (np := 2) (As := [.int 3, .int a1]) (rest := []) dX7_fieldEnds_39 lkX7_174 mwX7_begin (tR_begin hA h) (by omega) rfl rfl (Nat.le_of_ble_eq_true rfl) rm_mo rfl (fun v9 G9 q13 => ?_) (fun _ _ h => absurd h id)
      obtain ⟨S14, e8, e9, h⟩ := q13
      subst e8
      subst e9
      refine cj_st (st' := []) rfl ?_
      refine cj_vret rfl dX7_fieldEnds_42 ?_
      exact ⟨_, rfl, rfl, h⟩
def wp_caseEnds (S : rm_S) (Q : rm_S → Prop) : Prop := ((¬ (S.1 6) = 0 → Q (rm_pf S 56 0)) ∧ ((S.1 6) = 0 → wp_look S (fun x3 S4 => ((¬ x3 = 125 → Q (rm_pf S4 56 0)) ∧ (x3 = 125 → Q (rm_pf S4 56 1))))))
set_option maxHeartbeats 4000000 in
set_option maxRecDepth 100000 in
theorem tR_caseEnds {mo : Nat} {ad : Nat → Nat} (hA : rm_A mo ad) {G0 : cj_G} {S : rm_S} {Q : rm_S → Prop} (h : wp_caseEnds S Q) : cj_T mX7_caseEnds 1 0 0 [.ref mo] (rm_md mo ad S G0) (rm_post mo ad G0 Q) cj_no := by
  refine cj_T_of (by decide +kernel) (Nat.le_of_ble_eq_true rfl) ?_
  refine cj_lvs (lv' := [(0, .ref mo)]) rfl ?_
  unfold wp_caseEnds at h
  refine cj_aload_n dX7_caseEnds_0 rfl ?_
  refine cj_aload_n dX7_caseEnds_1 rfl ?_
  refine rm_get (.int (S.1 6)) flX7_138 dX7_caseEnds_2 rfl ?_
  refine cj_if_ne (tgt := 21) dX7_caseEnds_5 (by decide) (fun c1 => ?_) (fun c1 => ?_)
  · replace h := h.1 c1
    refine cj_iconst (v := 0) dX7_caseEnds_21 (by decide) ?_
    refine cj_pc (pc' := 22) rfl ?_
    refine rm_put flX7_232 dX7_caseEnds_22 rmp_56 rfl rfl (by decide) ?_
    refine cj_vret rfl dX7_caseEnds_25 ?_
    exact ⟨_, rfl, rfl, h⟩
  · replace h := h.2 c1
    refine cj_aload_n dX7_caseEnds_8 rfl ?_
    refine cj_callV (M' := mX7_look) (d' := 0) (k' := 0) (n' := 0) (index := 134) (np := 0) (As := []) (rest := [.ref mo]) dX7_caseEnds_9 lkX7_134 mwX7_look (tR_look hA h) (by omega) rfl rfl (Nat.le_of_ble_eq_true rfl) rm_mo rfl (fun v9 G9 q2 => ?_) (fun _ _ h => absurd h id)
    obtain ⟨x3, S4, e8, e9, h⟩ := q2
    subst e8
    subst e9
    refine cj_st (st' := [.int x3, .ref mo]) rfl ?_
    refine cj_bipush (v := 125) dX7_caseEnds_12 (by decide) ?_
    refine cj_pc (pc' := 14) rfl ?_
    refine cj_icmp_ne (tgt := 21) dX7_caseEnds_14 (by decide) (fun c5 => ?_) (fun c5 => ?_)
    · replace h := h.1 c5
      refine cj_iconst (v := 0) dX7_caseEnds_21 (by decide) ?_
      refine rm_put flX7_232 dX7_caseEnds_22 rmp_56 rfl rfl (by decide) ?_
      refine cj_vret rfl dX7_caseEnds_25 ?_
      exact ⟨_, rfl, rfl, h⟩
    · replace h := h.2 c5
      refine cj_iconst (v := 1) dX7_caseEnds_17 (by decide) ?_
      refine cj_pc (pc' := 18) rfl ?_
      refine cj_goto (tgt := 22) dX7_caseEnds_18 (by decide) ?_
      refine rm_put flX7_232 dX7_caseEnds_22 rmp_56 rfl rfl (by decide) ?_
      refine cj_vret rfl dX7_caseEnds_25 ?_
      exact ⟨_, rfl, rfl, h⟩
def wl_completed_9 (v1 : Int32) (v3 : Int32) (Q : rm_S → Prop) (K : Int32 → rm_S → Prop) : Nat → Int32 → rm_S → Prop
  | 0, _, _ => False
  | n + 1, v2, S => (vp_in v3 8 ∧ (((S.1 26) ≤ ((S.2 19) v3.toNatClampNeg) → K v2 S) ∧ (¬ (S.1 26) ≤ ((S.2 19) v3.toNatClampNeg) → (vp_in ((S.1 26) - 1) 60 ∧ wp_node (rm_pf S 26 ((S.1 26) - 1)) ((S.2 27) (((S.1 26) - 1).toNatClampNeg)) 0 (fun x5 S6 => (vp_in (S6.1 26) 60 ∧ ((((S6.2 28) ((S6.1 26).toNatClampNeg)) < 0 → wp_addChild S6 x5 v2 (fun S10 => wl_completed_9 v1 v3 Q K n x5 S10)) ∧ (¬ ((S6.2 28) ((S6.1 26).toNatClampNeg)) < 0 → (vp_in (S6.1 26) 60 ∧ wp_addChild S6 x5 ((S6.2 28) ((S6.1 26).toNatClampNeg)) (fun S13 => wp_addChild S13 x5 v2 (fun S15 => wl_completed_9 v1 v3 Q K n x5 S15)))))))))))
def wp_completed (S : rm_S) (a1 : Int32) (Q : rm_S → Prop) : Prop := (∃ n9 : Nat, wl_completed_9 a1 ((S.1 17) - 1) Q (fun w17 S16 => (vp_in ((S.1 17) - 1) 8 ∧ (vp_in ((S.1 17) - 1) 8 ∧ ((((S16.2 18) (((S.1 17) - 1).toNatClampNeg)) = 0 → (((S16.1 3) ≤ (S16.1 5) → Q (rm_pf (rm_pf (rm_pf (rm_pf S16 15 ((S16.2 20) (((S.1 17) - 1).toNatClampNeg))) 17 ((S16.1 17) - 1)) 34 w17) 33 4)) ∧ (¬ (S16.1 3) ≤ (S16.1 5) → Q (rm_pf (rm_pf (rm_pf (rm_pf (rm_pf S16 15 ((S16.2 20) (((S.1 17) - 1).toNatClampNeg))) 17 ((S16.1 17) - 1)) 34 w17) 6 1) 33 4)))) ∧ (¬ ((S16.2 18) (((S.1 17) - 1).toNatClampNeg)) = 0 → ((((S16.2 18) (((S.1 17) - 1).toNatClampNeg)) = 1 → wp_want (rm_pf (rm_pf S16 15 ((S16.2 20) (((S.1 17) - 1).toNatClampNeg))) 17 ((S16.1 17) - 1)) 59 (fun S24 => (vp_in ((S.1 17) - 1) 8 ∧ wp_addChild S24 ((S24.2 22) (((S.1 17) - 1).toNatClampNeg)) w17 (fun S27 => wp_caseEnds (rm_pf S27 33 3) (fun S29 => Q S29))))) ∧ (¬ ((S16.2 18) (((S.1 17) - 1).toNatClampNeg)) = 1 → ((((S16.2 18) (((S.1 17) - 1).toNatClampNeg)) = 2 → wp_want (rm_pf (rm_pf S16 15 ((S16.2 20) (((S.1 17) - 1).toNatClampNeg))) 17 ((S16.1 17) - 1)) 59 (fun S32 => (vp_in ((S.1 17) - 1) 8 ∧ wp_addChild S32 ((S32.2 22) (((S.1 17) - 1).toNatClampNeg)) w17 (fun S35 => wp_caseEnds (rm_pf S35 33 3) (fun S37 => Q S37))))) ∧ (¬ ((S16.2 18) (((S.1 17) - 1).toNatClampNeg)) = 2 → ((((S16.2 18) (((S.1 17) - 1).toNatClampNeg)) = 3 → (vp_in ((S.1 17) - 1) 8 ∧ wp_fieldEnds (rm_pf (rm_pf S16 15 ((S16.2 20) (((S.1 17) - 1).toNatClampNeg))) 17 ((S16.1 17) - 1)) ((S16.2 22) (((S.1 17) - 1).toNatClampNeg)) w17 (fun S41 => Q S41))) ∧ (¬ ((S16.2 18) (((S.1 17) - 1).toNatClampNeg)) = 3 → ((((S16.2 18) (((S.1 17) - 1).toNatClampNeg)) = 4 → wp_want (rm_pf (rm_pf S16 15 ((S16.2 20) (((S.1 17) - 1).toNatClampNeg))) 17 ((S16.1 17) - 1)) 41 (fun S44 => (vp_in w17 300 ∧ wp_push (rm_pa S44 14 w17.toNatClampNeg 1) w17 (fun S47 => Q S47)))) ∧ (¬ ((S16.2 18) (((S.1 17) - 1).toNatClampNeg)) = 4 → ((((S16.2 18) (((S.1 17) - 1).toNatClampNeg)) = 5 → wp_want (rm_pf (rm_pf S16 15 ((S16.2 20) (((S.1 17) - 1).toNatClampNeg))) 17 ((S16.1 17) - 1)) 59 (fun S50 => (vp_in ((S.1 17) - 1) 8 ∧ wp_addChild S50 ((S50.2 22) (((S.1 17) - 1).toNatClampNeg)) w17 (fun S53 => wp_caseEnds (rm_pf S53 33 3) (fun S55 => Q S55))))) ∧ (¬ ((S16.2 18) (((S.1 17) - 1).toNatClampNeg)) = 5 → ((((S16.2 18) (((S.1 17) - 1).toNatClampNeg)) = 6 → wp_want (rm_pf (rm_pf S16 15 ((S16.2 20) (((S.1 17) - 1).toNatClampNeg))) 17 ((S16.1 17) - 1)) 59 (fun S58 => (vp_in ((S.1 17) - 1) 8 ∧ wp_bind S58 ((S58.2 23) (((S.1 17) - 1).toNatClampNeg)) (fun S61 => (vp_in ((S.1 17) - 1) 8 ∧ wp_head S61 ((S61.2 18) (((S.1 17) - 1).toNatClampNeg)) w17 (fun S64 => Q (rm_pf S64 33 0))))))) ∧ (¬ ((S16.2 18) (((S.1 17) - 1).toNatClampNeg)) = 6 → ((((S16.2 18) (((S.1 17) - 1).toNatClampNeg)) = 7 → wp_want (rm_pf (rm_pf S16 15 ((S16.2 20) (((S.1 17) - 1).toNatClampNeg))) 17 ((S16.1 17) - 1)) 59 (fun S67 => (vp_in ((S.1 17) - 1) 8 ∧ wp_bind S67 ((S67.2 23) (((S.1 17) - 1).toNatClampNeg)) (fun S70 => (vp_in ((S.1 17) - 1) 8 ∧ wp_head S70 ((S70.2 18) (((S.1 17) - 1).toNatClampNeg)) w17 (fun S73 => Q (rm_pf S73 33 0))))))) ∧ (¬ ((S16.2 18) (((S.1 17) - 1).toNatClampNeg)) = 7 → wp_want (rm_pf (rm_pf S16 15 ((S16.2 20) (((S.1 17) - 1).toNatClampNeg))) 17 ((S16.1 17) - 1)) 59 (fun S75 => (vp_in ((S.1 17) - 1) 8 ∧ wp_addChild S75 ((S75.2 22) (((S.1 17) - 1).toNatClampNeg)) w17 (fun S78 => wp_caseEnds (rm_pf S78 33 3) (fun S80 => Q S80))))))))))))))))))))))) n9 a1 S)
set_option maxHeartbeats 4000000 in
set_option maxRecDepth 100000 in
theorem wl_completed_9_ok {mo : Nat} {ad : Nat → Nat} (hA : rm_A mo ad) {G0 : cj_G} {d k0 n0 k n9 : Nat} (hd9 : 3 ≤ d) (v1 : Int32) (v3 : Int32) {Q : rm_S → Prop} {K : Int32 → rm_S → Prop} (hK : ∀ (v2 : Int32) (S : rm_S), K v2 S → cj_J mX7_completed d k0 n0 (rm_post mo ad G0 Q) cj_no k n9 88 [(1, .int v1), (2, .int v2), (3, .int v3), (0, .ref mo)] [] (rm_md mo ad S G0)) : ∀ (n : Nat) (v2 : Int32) (S : rm_S), wl_completed_9 v1 v3 Q K n v2 S → cj_J mX7_completed d k0 n0 (rm_post mo ad G0 Q) cj_no k n9 9 [(1, .int v1), (2, .int v2), (3, .int v3), (0, .ref mo)] [] (rm_md mo ad S G0) := by
  intro n
  induction n with
  | zero => intro v2 S h; exact absurd h id
  | succ n ih =>
    intro v2 S h
    unfold wl_completed_9 at h
    refine cj_aload_n dX7_completed_9 rfl ?_
    refine rm_get (.int (S.1 26)) flX7_151 dX7_completed_10 rfl ?_
    refine cj_pc (pc' := 13) rfl ?_
    refine cj_aload_n dX7_completed_13 rfl ?_
    refine rm_get (.ref (ad 19)) flX7_46 dX7_completed_14 rfl ?_
    refine cj_iload_n dX7_completed_17 rfl ?_
    have i1 := h.1
    replace h := h.2
    refine rm_iald (j := 19) (x := (S.2 19) v3.toNatClampNeg) hA rfl dX7_completed_18 i1 rfl ?_
    refine cj_icmp_le (tgt := 88) dX7_completed_19 (by decide) (fun c2 => ?_) (fun c2 => ?_)
    · replace h := h.1 c2
      refine cj_sub (lv' := [(1, .int v1), (2, .int v2), (3, .int v3), (0, .ref mo)]) (by simp) ?_
      exact hK _ _ h
    · replace h := h.2 c2
      refine cj_aload_n dX7_completed_22 rfl ?_
      refine cj_pc (pc' := 23) rfl ?_
      refine cj_dup dX7_completed_23 rfl ?_
      refine rm_get (.int (S.1 26)) flX7_151 dX7_completed_24 rfl ?_
      refine cj_iconst (v := 1) dX7_completed_27 (by decide) ?_
      refine cj_isub dX7_completed_28 ?_
      refine rm_put flX7_151 dX7_completed_29 rmp_26 rfl rfl (by decide) ?_
      refine cj_pc (pc' := 32) rfl ?_
      refine cj_aload_n dX7_completed_32 rfl ?_
      refine cj_aload_n dX7_completed_33 rfl ?_
      refine rm_get (.ref (ad 27)) flX7_67 dX7_completed_34 rfl ?_
      refine cj_aload_n dX7_completed_37 rfl ?_
      refine rm_get (.int ((S.1 26) - 1)) flX7_151 dX7_completed_38 rfl ?_
      refine cj_pc (pc' := 41) rfl ?_
      have i3 := h.1
      replace h := h.2
      refine rm_iald (j := 27) (x := (S.2 27) (((S.1 26) - 1).toNatClampNeg)) hA rfl dX7_completed_41 i3 rfl ?_
      refine cj_iconst (v := 0) dX7_completed_42 (by decide) ?_
      refine cj_callV (M' := mX7_node) (d' := 0) (k' := 0) (n' := 0) (index := 180) (np := 2) (As := [.int ((S.2 27) (((S.1 26) - 1).toNatClampNeg)), .int 0]) (rest := []) dX7_completed_43 lkX7_180 mwX7_node (tR_node hA h) (by omega) rfl rfl (Nat.le_of_ble_eq_true rfl) rm_mo rfl (fun v9 G9 q4 => ?_) (fun _ _ h => absurd h id)
      obtain ⟨x5, S6, e8, e9, h⟩ := q4
      subst e8
      subst e9
      refine cj_st (st' := [.int x5]) rfl ?_
      refine cj_istore (lv' := [(4, .int x5), (1, .int v1), (2, .int v2), (3, .int v3), (0, .ref mo)]) dX7_completed_46 (by decide) rfl ?_
      refine cj_aload_n dX7_completed_48 rfl ?_
      refine cj_pc (pc' := 49) rfl ?_
      refine rm_get (.ref (ad 28)) flX7_70 dX7_completed_49 rfl ?_
      refine cj_aload_n dX7_completed_52 rfl ?_
      refine rm_get (.int (S6.1 26)) flX7_151 dX7_completed_53 rfl ?_
      have i7 := h.1
      replace h := h.2
      refine rm_iald (j := 28) (x := (S6.2 28) ((S6.1 26).toNatClampNeg)) hA rfl dX7_completed_56 i7 rfl ?_
      refine cj_if_lt (tgt := 75) dX7_completed_57 (by decide) (fun c8 => ?_) (fun c8 => ?_)
      · replace h := h.1 c8
        refine cj_aload_n dX7_completed_75 rfl ?_
        refine cj_pc (pc' := 76) rfl ?_
        refine cj_iload dX7_completed_76 rfl ?_
        refine cj_iload_n dX7_completed_78 rfl ?_
        refine cj_callV (M' := mX7_addChild) (d' := 0) (k' := 0) (n' := 0) (index := 194) (np := 2) (As := [.int x5, .int v2]) (rest := []) dX7_completed_79 lkX7_194 mwX7_addChild (tR_addChild hA h) (by omega) rfl rfl (Nat.le_of_ble_eq_true rfl) rm_mo rfl (fun v9 G9 q9 => ?_) (fun _ _ h => absurd h id)
        obtain ⟨S10, e8, e9, h⟩ := q9
        subst e8
        subst e9
        refine cj_st (st' := []) rfl ?_
        refine cj_iload dX7_completed_82 rfl ?_
        refine cj_istore_n (lv' := [(2, .int x5), (4, .int x5), (1, .int v1), (3, .int v3), (0, .ref mo)]) dX7_completed_84 (by decide) rfl ?_
        refine cj_pc (pc' := 85) rfl ?_
        refine cj_goto (tgt := 9) dX7_completed_85 (by decide) ?_
        refine cj_sub (lv' := [(1, .int v1), (2, .int x5), (3, .int v3), (0, .ref mo)]) (by simp) ?_
        exact ih _ _ h
      · replace h := h.2 c8
        refine cj_aload_n dX7_completed_60 rfl ?_
        refine cj_iload dX7_completed_61 rfl ?_
        refine cj_aload_n dX7_completed_63 rfl ?_
        refine rm_get (.ref (ad 28)) flX7_70 dX7_completed_64 rfl ?_
        refine cj_pc (pc' := 67) rfl ?_
        refine cj_aload_n dX7_completed_67 rfl ?_
        refine rm_get (.int (S6.1 26)) flX7_151 dX7_completed_68 rfl ?_
        have i11 := h.1
        replace h := h.2
        refine rm_iald (j := 28) (x := (S6.2 28) ((S6.1 26).toNatClampNeg)) hA rfl dX7_completed_71 i11 rfl ?_
        refine cj_callV (M' := mX7_addChild) (d' := 0) (k' := 0) (n' := 0) (index := 194) (np := 2) (As := [.int x5, .int ((S6.2 28) ((S6.1 26).toNatClampNeg))]) (rest := []) dX7_completed_72 lkX7_194 mwX7_addChild (tR_addChild hA h) (by omega) rfl rfl (Nat.le_of_ble_eq_true rfl) rm_mo rfl (fun v9 G9 q12 => ?_) (fun _ _ h => absurd h id)
        obtain ⟨S13, e8, e9, h⟩ := q12
        subst e8
        subst e9
        refine cj_st (st' := []) rfl ?_
        refine cj_aload_n dX7_completed_75 rfl ?_
        refine cj_pc (pc' := 76) rfl ?_
        refine cj_iload dX7_completed_76 rfl ?_
        refine cj_iload_n dX7_completed_78 rfl ?_
        refine cj_callV (M' := mX7_addChild) (d' := 0) (k' := 0) (n' := 0) (index := 194) (np := 2) (As := [.int x5, .int v2]) (rest := []) dX7_completed_79 lkX7_194 mwX7_addChild (tR_addChild hA h) (by omega) rfl rfl (Nat.le_of_ble_eq_true rfl) rm_mo rfl (fun v9 G9 q14 => ?_) (fun _ _ h => absurd h id)
        obtain ⟨S15, e8, e9, h⟩ := q14
        subst e8
        subst e9
        refine cj_st (st' := []) rfl ?_
        refine cj_iload dX7_completed_82 rfl ?_
        refine cj_istore_n (lv' := [(2, .int x5), (4, .int x5), (1, .int v1), (3, .int v3), (0, .ref mo)]) dX7_completed_84 (by decide) rfl ?_
        refine cj_pc (pc' := 85) rfl ?_
        refine cj_goto (tgt := 9) dX7_completed_85 (by decide) ?_
        refine cj_sub (lv' := [(1, .int v1), (2, .int x5), (3, .int v3), (0, .ref mo)]) (by simp) ?_
        exact ih _ _ h
set_option maxHeartbeats 4000000 in
set_option maxRecDepth 100000 in
theorem tR_completed {mo : Nat} {ad : Nat → Nat} (hA : rm_A mo ad) {G0 : cj_G} {S : rm_S} {a1 : Int32} {Q : rm_S → Prop} (h : wp_completed S a1 Q) : cj_T mX7_completed 3 0 0 [.ref mo, .int a1] (rm_md mo ad S G0) (rm_post mo ad G0 Q) cj_no := by
  refine cj_T_of (by decide +kernel) (Nat.le_of_ble_eq_true rfl) ?_
  refine cj_lvs (lv' := [(0, .ref mo), (1, .int a1)]) rfl ?_
  unfold wp_completed at h
  refine cj_iload_n dX7_completed_0 rfl ?_
  refine cj_istore_n (lv' := [(2, .int a1), (0, .ref mo), (1, .int a1)]) dX7_completed_1 (by decide) rfl ?_
  refine cj_aload_n dX7_completed_2 rfl ?_
  refine rm_get (.int (S.1 17)) flX7_148 dX7_completed_3 rfl ?_
  refine cj_pc (pc' := 6) rfl ?_
  refine cj_iconst (v := 1) dX7_completed_6 (by decide) ?_
  refine cj_isub dX7_completed_7 ?_
  refine cj_istore_n (lv' := [(3, .int ((S.1 17) - 1)), (2, .int a1), (0, .ref mo), (1, .int a1)]) dX7_completed_8 (by decide) rfl ?_
  obtain ⟨n9, h⟩ := h
  refine cj_sub (lv' := [(1, .int a1), (2, .int a1), (3, .int ((S.1 17) - 1)), (0, .ref mo)]) (by simp) ?_
  refine wl_completed_9_ok hA (by omega) _ _ ?_ n9 _ _ h
  clear h
  intro w17 S16 h
  refine cj_aload_n dX7_completed_88 rfl ?_
  refine cj_aload_n dX7_completed_89 rfl ?_
  refine rm_get (.ref (ad 20)) flX7_49 dX7_completed_90 rfl ?_
  refine cj_iload_n dX7_completed_93 rfl ?_
  refine cj_pc (pc' := 94) rfl ?_
  have i18 := h.1
  replace h := h.2
  refine rm_iald (j := 20) (x := (S16.2 20) (((S.1 17) - 1).toNatClampNeg)) hA rfl dX7_completed_94 i18 rfl ?_
  refine rm_put flX7_145 dX7_completed_95 rmp_15 rfl rfl (by decide) ?_
  refine cj_aload_n dX7_completed_98 rfl ?_
  refine cj_dup dX7_completed_99 rfl ?_
  refine rm_get (.int (S16.1 17)) flX7_148 dX7_completed_100 rfl ?_
  refine cj_pc (pc' := 103) rfl ?_
  refine cj_iconst (v := 1) dX7_completed_103 (by decide) ?_
  refine cj_isub dX7_completed_104 ?_
  refine rm_put flX7_148 dX7_completed_105 rmp_17 rfl rfl (by decide) ?_
  refine cj_aload_n dX7_completed_108 rfl ?_
  refine rm_get (.ref (ad 18)) flX7_43 dX7_completed_109 rfl ?_
  refine cj_pc (pc' := 112) rfl ?_
  refine cj_iload_n dX7_completed_112 rfl ?_
  have i19 := h.1
  replace h := h.2
  refine rm_iald (j := 18) (x := (S16.2 18) (((S.1 17) - 1).toNatClampNeg)) hA rfl dX7_completed_113 i19 rfl ?_
  by_cases c20 : ((S16.2 18) (((S.1 17) - 1).toNatClampNeg)) = 0
  · replace h := h.1 c20
    refine cj_tableIn (off := 46) (tgt := 160) dX7_completed_114 (by rw [c20]; decide +kernel) (by rw [c20]; decide +kernel) (by rw [c20]; decide +kernel) (by decide +kernel) ?_
    refine cj_aload_n dX7_completed_160 rfl ?_
    refine cj_iload_n dX7_completed_161 rfl ?_
    refine cj_pc (pc' := 162) rfl ?_
    refine rm_put flX7_223 dX7_completed_162 rmp_34 rfl rfl (by decide) ?_
    refine cj_aload_n dX7_completed_165 rfl ?_
    refine rm_get (.int (S16.1 5)) flX7_118 dX7_completed_166 rfl ?_
    refine cj_aload_n dX7_completed_169 rfl ?_
    refine rm_get (.int (S16.1 3)) flX7_121 dX7_completed_170 rfl ?_
    refine cj_pc (pc' := 173) rfl ?_
    refine cj_icmp_ge (tgt := 181) dX7_completed_173 (by decide) (fun c21 => ?_) (fun c21 => ?_)
    · replace h := h.1 c21
      refine cj_aload_n dX7_completed_181 rfl ?_
      refine cj_iconst (v := 4) dX7_completed_182 (by decide) ?_
      refine rm_put flX7_157 dX7_completed_183 rmp_33 rfl rfl (by decide) ?_
      refine cj_vret rfl dX7_completed_186 ?_
      exact ⟨_, rfl, rfl, h⟩
    · replace h := h.2 c21
      refine cj_aload_n dX7_completed_176 rfl ?_
      refine cj_pc (pc' := 177) rfl ?_
      refine cj_iconst (v := 1) dX7_completed_177 (by decide) ?_
      refine rm_put flX7_138 dX7_completed_178 rmp_6 rfl rfl (by decide) ?_
      refine cj_aload_n dX7_completed_181 rfl ?_
      refine cj_iconst (v := 4) dX7_completed_182 (by decide) ?_
      refine rm_put flX7_157 dX7_completed_183 rmp_33 rfl rfl (by decide) ?_
      refine cj_pc (pc' := 186) rfl ?_
      refine cj_vret rfl dX7_completed_186 ?_
      exact ⟨_, rfl, rfl, h⟩
  · replace h := h.2 c20
    by_cases c22 : ((S16.2 18) (((S.1 17) - 1).toNatClampNeg)) = 1
    · replace h := h.1 c22
      refine cj_tableIn (off := 137) (tgt := 251) dX7_completed_114 (by rw [c22]; decide +kernel) (by rw [c22]; decide +kernel) (by rw [c22]; decide +kernel) (by decide +kernel) ?_
      refine cj_aload_n dX7_completed_251 rfl ?_
      refine cj_bipush (v := 59) dX7_completed_252 (by decide) ?_
      refine cj_callV (M' := mX7_want) (d' := 1) (k' := 0) (n' := 0) (index := 184) (np := 1) (As := [.int 59]) (rest := []) dX7_completed_254 lkX7_184 mwX7_want (tR_want hA h) (by omega) rfl rfl (Nat.le_of_ble_eq_true rfl) rm_mo rfl (fun v9 G9 q23 => ?_) (fun _ _ h => absurd h id)
      obtain ⟨S24, e8, e9, h⟩ := q23
      subst e8
      subst e9
      refine cj_st (st' := []) rfl ?_
      refine cj_aload_n dX7_completed_257 rfl ?_
      refine cj_pc (pc' := 258) rfl ?_
      refine cj_aload_n dX7_completed_258 rfl ?_
      refine rm_get (.ref (ad 22)) flX7_55 dX7_completed_259 rfl ?_
      refine cj_iload_n dX7_completed_262 rfl ?_
      have i25 := h.1
      replace h := h.2
      refine rm_iald (j := 22) (x := (S24.2 22) (((S.1 17) - 1).toNatClampNeg)) hA rfl dX7_completed_263 i25 rfl ?_
      refine cj_iload_n dX7_completed_264 rfl ?_
      refine cj_pc (pc' := 265) rfl ?_
      refine cj_callV (M' := mX7_addChild) (d' := 0) (k' := 0) (n' := 0) (index := 194) (np := 2) (As := [.int ((S24.2 22) (((S.1 17) - 1).toNatClampNeg)), .int w17]) (rest := []) dX7_completed_265 lkX7_194 mwX7_addChild (tR_addChild hA h) (by omega) rfl rfl (Nat.le_of_ble_eq_true rfl) rm_mo rfl (fun v9 G9 q26 => ?_) (fun _ _ h => absurd h id)
      obtain ⟨S27, e8, e9, h⟩ := q26
      subst e8
      subst e9
      refine cj_st (st' := []) rfl ?_
      refine cj_aload_n dX7_completed_268 rfl ?_
      refine cj_iconst (v := 3) dX7_completed_269 (by decide) ?_
      refine rm_put flX7_157 dX7_completed_270 rmp_33 rfl rfl (by decide) ?_
      refine cj_aload_n dX7_completed_273 rfl ?_
      refine cj_pc (pc' := 274) rfl ?_
      refine cj_callV (M' := mX7_caseEnds) (d' := 1) (k' := 0) (n' := 0) (index := 229) (np := 0) (As := []) (rest := []) dX7_completed_274 lkX7_229 mwX7_caseEnds (tR_caseEnds hA h) (by omega) rfl rfl (Nat.le_of_ble_eq_true rfl) rm_mo rfl (fun v9 G9 q28 => ?_) (fun _ _ h => absurd h id)
      obtain ⟨S29, e8, e9, h⟩ := q28
      subst e8
      subst e9
      refine cj_st (st' := []) rfl ?_
      refine cj_vret rfl dX7_completed_277 ?_
      exact ⟨_, rfl, rfl, h⟩
    · replace h := h.2 c22
      by_cases c30 : ((S16.2 18) (((S.1 17) - 1).toNatClampNeg)) = 2
      · replace h := h.1 c30
        refine cj_tableIn (off := 137) (tgt := 251) dX7_completed_114 (by rw [c30]; decide +kernel) (by rw [c30]; decide +kernel) (by rw [c30]; decide +kernel) (by decide +kernel) ?_
        refine cj_aload_n dX7_completed_251 rfl ?_
        refine cj_bipush (v := 59) dX7_completed_252 (by decide) ?_
        refine cj_callV (M' := mX7_want) (d' := 1) (k' := 0) (n' := 0) (index := 184) (np := 1) (As := [.int 59]) (rest := []) dX7_completed_254 lkX7_184 mwX7_want (tR_want hA h) (by omega) rfl rfl (Nat.le_of_ble_eq_true rfl) rm_mo rfl (fun v9 G9 q31 => ?_) (fun _ _ h => absurd h id)
        obtain ⟨S32, e8, e9, h⟩ := q31
        subst e8
        subst e9
        refine cj_st (st' := []) rfl ?_
        refine cj_pc (pc' := 257) rfl ?_
        refine cj_aload_n dX7_completed_257 rfl ?_
        refine cj_aload_n dX7_completed_258 rfl ?_
        refine rm_get (.ref (ad 22)) flX7_55 dX7_completed_259 rfl ?_
        refine cj_iload_n dX7_completed_262 rfl ?_
        have i33 := h.1
        replace h := h.2
        refine rm_iald (j := 22) (x := (S32.2 22) (((S.1 17) - 1).toNatClampNeg)) hA rfl dX7_completed_263 i33 rfl ?_
        refine cj_pc (pc' := 264) rfl ?_
        refine cj_iload_n dX7_completed_264 rfl ?_
        refine cj_callV (M' := mX7_addChild) (d' := 0) (k' := 0) (n' := 0) (index := 194) (np := 2) (As := [.int ((S32.2 22) (((S.1 17) - 1).toNatClampNeg)), .int w17]) (rest := []) dX7_completed_265 lkX7_194 mwX7_addChild (tR_addChild hA h) (by omega) rfl rfl (Nat.le_of_ble_eq_true rfl) rm_mo rfl (fun v9 G9 q34 => ?_) (fun _ _ h => absurd h id)
        obtain ⟨S35, e8, e9, h⟩ := q34
        subst e8
        subst e9
        refine cj_st (st' := []) rfl ?_
        refine cj_aload_n dX7_completed_268 rfl ?_
        refine cj_iconst (v := 3) dX7_completed_269 (by decide) ?_
        refine rm_put flX7_157 dX7_completed_270 rmp_33 rfl rfl (by decide) ?_
        refine cj_pc (pc' := 273) rfl ?_
        refine cj_aload_n dX7_completed_273 rfl ?_
        refine cj_callV (M' := mX7_caseEnds) (d' := 1) (k' := 0) (n' := 0) (index := 229) (np := 0) (As := []) (rest := []) dX7_completed_274 lkX7_229 mwX7_caseEnds (tR_caseEnds hA h) (by omega) rfl rfl (Nat.le_of_ble_eq_true rfl) rm_mo rfl (fun v9 G9 q36 => ?_) (fun _ _ h => absurd h id)
        obtain ⟨S37, e8, e9, h⟩ := q36
        subst e8
        subst e9
        refine cj_st (st' := []) rfl ?_
        refine cj_vret rfl dX7_completed_277 ?_
        exact ⟨_, rfl, rfl, h⟩
      · replace h := h.2 c30
        by_cases c38 : ((S16.2 18) (((S.1 17) - 1).toNatClampNeg)) = 3
        · replace h := h.1 c38
          refine cj_tableIn (off := 106) (tgt := 220) dX7_completed_114 (by rw [c38]; decide +kernel) (by rw [c38]; decide +kernel) (by rw [c38]; decide +kernel) (by decide +kernel) ?_
          refine cj_aload_n dX7_completed_220 rfl ?_
          refine cj_aload_n dX7_completed_221 rfl ?_
          refine cj_pc (pc' := 222) rfl ?_
          refine rm_get (.ref (ad 22)) flX7_55 dX7_completed_222 rfl ?_
          refine cj_iload_n dX7_completed_225 rfl ?_
          have i39 := h.1
          replace h := h.2
          refine rm_iald (j := 22) (x := (S16.2 22) (((S.1 17) - 1).toNatClampNeg)) hA rfl dX7_completed_226 i39 rfl ?_
          refine cj_iload_n dX7_completed_227 rfl ?_
          refine cj_callV (M' := mX7_fieldEnds) (d' := 2) (k' := 0) (n' := 0) (index := 226) (np := 2) (As := [.int ((S16.2 22) (((S.1 17) - 1).toNatClampNeg)), .int w17]) (rest := []) dX7_completed_228 lkX7_226 mwX7_fieldEnds (tR_fieldEnds hA h) (by omega) rfl rfl (Nat.le_of_ble_eq_true rfl) rm_mo rfl (fun v9 G9 q40 => ?_) (fun _ _ h => absurd h id)
          obtain ⟨S41, e8, e9, h⟩ := q40
          subst e8
          subst e9
          refine cj_st (st' := []) rfl ?_
          refine cj_pc (pc' := 231) rfl ?_
          refine cj_vret rfl dX7_completed_231 ?_
          exact ⟨_, rfl, rfl, h⟩
        · replace h := h.2 c38
          by_cases c42 : ((S16.2 18) (((S.1 17) - 1).toNatClampNeg)) = 4
          · replace h := h.1 c42
            refine cj_tableIn (off := 118) (tgt := 232) dX7_completed_114 (by rw [c42]; decide +kernel) (by rw [c42]; decide +kernel) (by rw [c42]; decide +kernel) (by decide +kernel) ?_
            refine cj_aload_n dX7_completed_232 rfl ?_
            refine cj_bipush (v := 41) dX7_completed_233 (by decide) ?_
            refine cj_callV (M' := mX7_want) (d' := 1) (k' := 0) (n' := 0) (index := 184) (np := 1) (As := [.int 41]) (rest := []) dX7_completed_235 lkX7_184 mwX7_want (tR_want hA h) (by omega) rfl rfl (Nat.le_of_ble_eq_true rfl) rm_mo rfl (fun v9 G9 q43 => ?_) (fun _ _ h => absurd h id)
            obtain ⟨S44, e8, e9, h⟩ := q43
            subst e8
            subst e9
            refine cj_st (st' := []) rfl ?_
            refine cj_aload_n dX7_completed_238 rfl ?_
            refine cj_pc (pc' := 239) rfl ?_
            refine rm_get (.ref (ad 14)) flX7_36 dX7_completed_239 rfl ?_
            refine cj_iload_n dX7_completed_242 rfl ?_
            refine cj_iconst (v := 1) dX7_completed_243 (by decide) ?_
            have i45 := h.1
            replace h := h.2
            refine rm_zast (j := 14) hA rfl dX7_completed_244 i45 ?_
            refine cj_eqG (G' := rm_md mo ad (rm_pa S44 14 w17.toNatClampNeg 1) G0) rfl ?_
            refine cj_aload_n dX7_completed_245 rfl ?_
            refine cj_pc (pc' := 246) rfl ?_
            refine cj_iload_n dX7_completed_246 rfl ?_
            refine cj_callV (M' := mX7_push) (d' := 0) (k' := 0) (n' := 0) (index := 197) (np := 1) (As := [.int w17]) (rest := []) dX7_completed_247 lkX7_197 mwX7_push (tR_push hA h) (by omega) rfl rfl (Nat.le_of_ble_eq_true rfl) rm_mo rfl (fun v9 G9 q46 => ?_) (fun _ _ h => absurd h id)
            obtain ⟨S47, e8, e9, h⟩ := q46
            subst e8
            subst e9
            refine cj_st (st' := []) rfl ?_
            refine cj_vret rfl dX7_completed_250 ?_
            exact ⟨_, rfl, rfl, h⟩
          · replace h := h.2 c42
            by_cases c48 : ((S16.2 18) (((S.1 17) - 1).toNatClampNeg)) = 5
            · replace h := h.1 c48
              refine cj_tableIn (off := 137) (tgt := 251) dX7_completed_114 (by rw [c48]; decide +kernel) (by rw [c48]; decide +kernel) (by rw [c48]; decide +kernel) (by decide +kernel) ?_
              refine cj_aload_n dX7_completed_251 rfl ?_
              refine cj_bipush (v := 59) dX7_completed_252 (by decide) ?_
              refine cj_pc (pc' := 254) rfl ?_
              refine cj_callV (M' := mX7_want) (d' := 1) (k' := 0) (n' := 0) (index := 184) (np := 1) (As := [.int 59]) (rest := []) dX7_completed_254 lkX7_184 mwX7_want (tR_want hA h) (by omega) rfl rfl (Nat.le_of_ble_eq_true rfl) rm_mo rfl (fun v9 G9 q49 => ?_) (fun _ _ h => absurd h id)
              obtain ⟨S50, e8, e9, h⟩ := q49
              subst e8
              subst e9
              refine cj_st (st' := []) rfl ?_
              refine cj_aload_n dX7_completed_257 rfl ?_
              refine cj_aload_n dX7_completed_258 rfl ?_
              refine rm_get (.ref (ad 22)) flX7_55 dX7_completed_259 rfl ?_
              refine cj_iload_n dX7_completed_262 rfl ?_
              refine cj_pc (pc' := 263) rfl ?_
              have i51 := h.1
              replace h := h.2
              refine rm_iald (j := 22) (x := (S50.2 22) (((S.1 17) - 1).toNatClampNeg)) hA rfl dX7_completed_263 i51 rfl ?_
              refine cj_iload_n dX7_completed_264 rfl ?_
              refine cj_callV (M' := mX7_addChild) (d' := 0) (k' := 0) (n' := 0) (index := 194) (np := 2) (As := [.int ((S50.2 22) (((S.1 17) - 1).toNatClampNeg)), .int w17]) (rest := []) dX7_completed_265 lkX7_194 mwX7_addChild (tR_addChild hA h) (by omega) rfl rfl (Nat.le_of_ble_eq_true rfl) rm_mo rfl (fun v9 G9 q52 => ?_) (fun _ _ h => absurd h id)
              obtain ⟨S53, e8, e9, h⟩ := q52
              subst e8
              subst e9
              refine cj_st (st' := []) rfl ?_
              refine cj_aload_n dX7_completed_268 rfl ?_
              refine cj_iconst (v := 3) dX7_completed_269 (by decide) ?_
              refine cj_pc (pc' := 270) rfl ?_
              refine rm_put flX7_157 dX7_completed_270 rmp_33 rfl rfl (by decide) ?_
              refine cj_aload_n dX7_completed_273 rfl ?_
              refine cj_callV (M' := mX7_caseEnds) (d' := 1) (k' := 0) (n' := 0) (index := 229) (np := 0) (As := []) (rest := []) dX7_completed_274 lkX7_229 mwX7_caseEnds (tR_caseEnds hA h) (by omega) rfl rfl (Nat.le_of_ble_eq_true rfl) rm_mo rfl (fun v9 G9 q54 => ?_) (fun _ _ h => absurd h id)
              obtain ⟨S55, e8, e9, h⟩ := q54
              subst e8
              subst e9
              refine cj_st (st' := []) rfl ?_
              refine cj_vret rfl dX7_completed_277 ?_
              exact ⟨_, rfl, rfl, h⟩
            · replace h := h.2 c48
              by_cases c56 : ((S16.2 18) (((S.1 17) - 1).toNatClampNeg)) = 6
              · replace h := h.1 c56
                refine cj_tableIn (off := 73) (tgt := 187) dX7_completed_114 (by rw [c56]; decide +kernel) (by rw [c56]; decide +kernel) (by rw [c56]; decide +kernel) (by decide +kernel) ?_
                refine cj_aload_n dX7_completed_187 rfl ?_
                refine cj_pc (pc' := 188) rfl ?_
                refine cj_bipush (v := 59) dX7_completed_188 (by decide) ?_
                refine cj_callV (M' := mX7_want) (d' := 1) (k' := 0) (n' := 0) (index := 184) (np := 1) (As := [.int 59]) (rest := []) dX7_completed_190 lkX7_184 mwX7_want (tR_want hA h) (by omega) rfl rfl (Nat.le_of_ble_eq_true rfl) rm_mo rfl (fun v9 G9 q57 => ?_) (fun _ _ h => absurd h id)
                obtain ⟨S58, e8, e9, h⟩ := q57
                subst e8
                subst e9
                refine cj_st (st' := []) rfl ?_
                refine cj_aload_n dX7_completed_193 rfl ?_
                refine cj_aload_n dX7_completed_194 rfl ?_
                refine rm_get (.ref (ad 23)) flX7_58 dX7_completed_195 rfl ?_
                refine cj_pc (pc' := 198) rfl ?_
                refine cj_iload_n dX7_completed_198 rfl ?_
                have i59 := h.1
                replace h := h.2
                refine rm_cald (j := 23) (x := (S58.2 23) (((S.1 17) - 1).toNatClampNeg)) hA rfl dX7_completed_199 i59 rfl ?_
                refine cj_callV (M' := mX7_bind) (d' := 0) (k' := 0) (n' := 0) (index := 163) (np := 1) (As := [.int ((S58.2 23) (((S.1 17) - 1).toNatClampNeg))]) (rest := []) dX7_completed_200 lkX7_163 mwX7_bind (tR_bind hA h) (by omega) rfl rfl (Nat.le_of_ble_eq_true rfl) rm_mo rfl (fun v9 G9 q60 => ?_) (fun _ _ h => absurd h id)
                obtain ⟨S61, e8, e9, h⟩ := q60
                subst e8
                subst e9
                refine cj_st (st' := []) rfl ?_
                refine cj_aload_n dX7_completed_203 rfl ?_
                refine cj_aload_n dX7_completed_204 rfl ?_
                refine cj_pc (pc' := 205) rfl ?_
                refine rm_get (.ref (ad 18)) flX7_43 dX7_completed_205 rfl ?_
                refine cj_iload_n dX7_completed_208 rfl ?_
                have i62 := h.1
                replace h := h.2
                refine rm_iald (j := 18) (x := (S61.2 18) (((S.1 17) - 1).toNatClampNeg)) hA rfl dX7_completed_209 i62 rfl ?_
                refine cj_iload_n dX7_completed_210 rfl ?_
                refine cj_callV (M' := mX7_head) (d' := 0) (k' := 0) (n' := 0) (index := 167) (np := 2) (As := [.int ((S61.2 18) (((S.1 17) - 1).toNatClampNeg)), .int w17]) (rest := []) dX7_completed_211 lkX7_167 mwX7_head (tR_head hA h) (by omega) rfl rfl (Nat.le_of_ble_eq_true rfl) rm_mo rfl (fun v9 G9 q63 => ?_) (fun _ _ h => absurd h id)
                obtain ⟨S64, e8, e9, h⟩ := q63
                subst e8
                subst e9
                refine cj_st (st' := []) rfl ?_
                refine cj_pc (pc' := 214) rfl ?_
                refine cj_aload_n dX7_completed_214 rfl ?_
                refine cj_iconst (v := 0) dX7_completed_215 (by decide) ?_
                refine rm_put flX7_157 dX7_completed_216 rmp_33 rfl rfl (by decide) ?_
                refine cj_vret rfl dX7_completed_219 ?_
                exact ⟨_, rfl, rfl, h⟩
              · replace h := h.2 c56
                by_cases c65 : ((S16.2 18) (((S.1 17) - 1).toNatClampNeg)) = 7
                · replace h := h.1 c65
                  refine cj_tableIn (off := 73) (tgt := 187) dX7_completed_114 (by rw [c65]; decide +kernel) (by rw [c65]; decide +kernel) (by rw [c65]; decide +kernel) (by decide +kernel) ?_
                  refine cj_aload_n dX7_completed_187 rfl ?_
                  refine cj_pc (pc' := 188) rfl ?_
                  refine cj_bipush (v := 59) dX7_completed_188 (by decide) ?_
                  refine cj_callV (M' := mX7_want) (d' := 1) (k' := 0) (n' := 0) (index := 184) (np := 1) (As := [.int 59]) (rest := []) dX7_completed_190 lkX7_184 mwX7_want (tR_want hA h) (by omega) rfl rfl (Nat.le_of_ble_eq_true rfl) rm_mo rfl (fun v9 G9 q66 => ?_) (fun _ _ h => absurd h id)
                  obtain ⟨S67, e8, e9, h⟩ := q66
                  subst e8
                  subst e9
                  refine cj_st (st' := []) rfl ?_
                  refine cj_aload_n dX7_completed_193 rfl ?_
                  refine cj_aload_n dX7_completed_194 rfl ?_
                  refine rm_get (.ref (ad 23)) flX7_58 dX7_completed_195 rfl ?_
                  refine cj_pc (pc' := 198) rfl ?_
                  refine cj_iload_n dX7_completed_198 rfl ?_
                  have i68 := h.1
                  replace h := h.2
                  refine rm_cald (j := 23) (x := (S67.2 23) (((S.1 17) - 1).toNatClampNeg)) hA rfl dX7_completed_199 i68 rfl ?_
                  refine cj_callV (M' := mX7_bind) (d' := 0) (k' := 0) (n' := 0) (index := 163) (np := 1) (As := [.int ((S67.2 23) (((S.1 17) - 1).toNatClampNeg))]) (rest := []) dX7_completed_200 lkX7_163 mwX7_bind (tR_bind hA h) (by omega) rfl rfl (Nat.le_of_ble_eq_true rfl) rm_mo rfl (fun v9 G9 q69 => ?_) (fun _ _ h => absurd h id)
                  obtain ⟨S70, e8, e9, h⟩ := q69
                  subst e8
                  subst e9
                  refine cj_st (st' := []) rfl ?_
                  refine cj_aload_n dX7_completed_203 rfl ?_
                  refine cj_aload_n dX7_completed_204 rfl ?_
                  refine cj_pc (pc' := 205) rfl ?_
                  refine rm_get (.ref (ad 18)) flX7_43 dX7_completed_205 rfl ?_
                  refine cj_iload_n dX7_completed_208 rfl ?_
                  have i71 := h.1
                  replace h := h.2
                  refine rm_iald (j := 18) (x := (S70.2 18) (((S.1 17) - 1).toNatClampNeg)) hA rfl dX7_completed_209 i71 rfl ?_
                  refine cj_iload_n dX7_completed_210 rfl ?_
                  refine cj_callV (M' := mX7_head) (d' := 0) (k' := 0) (n' := 0) (index := 167) (np := 2) (As := [.int ((S70.2 18) (((S.1 17) - 1).toNatClampNeg)), .int w17]) (rest := []) dX7_completed_211 lkX7_167 mwX7_head (tR_head hA h) (by omega) rfl rfl (Nat.le_of_ble_eq_true rfl) rm_mo rfl (fun v9 G9 q72 => ?_) (fun _ _ h => absurd h id)
                  obtain ⟨S73, e8, e9, h⟩ := q72
                  subst e8
                  subst e9
                  refine cj_st (st' := []) rfl ?_
                  refine cj_pc (pc' := 214) rfl ?_
                  refine cj_aload_n dX7_completed_214 rfl ?_
                  refine cj_iconst (v := 0) dX7_completed_215 (by decide) ?_
                  refine rm_put flX7_157 dX7_completed_216 rmp_33 rfl rfl (by decide) ?_
                  refine cj_vret rfl dX7_completed_219 ?_
                  exact ⟨_, rfl, rfl, h⟩
                · replace h := h.2 c65
                  refine cj_tableOut (tgt := 251) dX7_completed_114 (by have h9_0 := rm_sw (k := 0) (by decide) c20; have h9_1 := rm_sw (k := 1) (by decide) c22; have h9_2 := rm_sw (k := 2) (by decide) c30; have h9_3 := rm_sw (k := 3) (by decide) c38; have h9_4 := rm_sw (k := 4) (by decide) c42; have h9_5 := rm_sw (k := 5) (by decide) c48; have h9_6 := rm_sw (k := 6) (by decide) c56; have h9_7 := rm_sw (k := 7) (by decide) c65; omega) (by decide +kernel) ?_
                  refine cj_aload_n dX7_completed_251 rfl ?_
                  refine cj_pc (pc' := 252) rfl ?_
                  refine cj_bipush (v := 59) dX7_completed_252 (by decide) ?_
                  refine cj_callV (M' := mX7_want) (d' := 1) (k' := 0) (n' := 0) (index := 184) (np := 1) (As := [.int 59]) (rest := []) dX7_completed_254 lkX7_184 mwX7_want (tR_want hA h) (by omega) rfl rfl (Nat.le_of_ble_eq_true rfl) rm_mo rfl (fun v9 G9 q74 => ?_) (fun _ _ h => absurd h id)
                  obtain ⟨S75, e8, e9, h⟩ := q74
                  subst e8
                  subst e9
                  refine cj_st (st' := []) rfl ?_
                  refine cj_aload_n dX7_completed_257 rfl ?_
                  refine cj_aload_n dX7_completed_258 rfl ?_
                  refine rm_get (.ref (ad 22)) flX7_55 dX7_completed_259 rfl ?_
                  refine cj_pc (pc' := 262) rfl ?_
                  refine cj_iload_n dX7_completed_262 rfl ?_
                  have i76 := h.1
                  replace h := h.2
                  refine rm_iald (j := 22) (x := (S75.2 22) (((S.1 17) - 1).toNatClampNeg)) hA rfl dX7_completed_263 i76 rfl ?_
                  refine cj_iload_n dX7_completed_264 rfl ?_
                  refine cj_callV (M' := mX7_addChild) (d' := 0) (k' := 0) (n' := 0) (index := 194) (np := 2) (As := [.int ((S75.2 22) (((S.1 17) - 1).toNatClampNeg)), .int w17]) (rest := []) dX7_completed_265 lkX7_194 mwX7_addChild (tR_addChild hA h) (by omega) rfl rfl (Nat.le_of_ble_eq_true rfl) rm_mo rfl (fun v9 G9 q77 => ?_) (fun _ _ h => absurd h id)
                  obtain ⟨S78, e8, e9, h⟩ := q77
                  subst e8
                  subst e9
                  refine cj_st (st' := []) rfl ?_
                  refine cj_aload_n dX7_completed_268 rfl ?_
                  refine cj_pc (pc' := 269) rfl ?_
                  refine cj_iconst (v := 3) dX7_completed_269 (by decide) ?_
                  refine rm_put flX7_157 dX7_completed_270 rmp_33 rfl rfl (by decide) ?_
                  refine cj_aload_n dX7_completed_273 rfl ?_
                  refine cj_callV (M' := mX7_caseEnds) (d' := 1) (k' := 0) (n' := 0) (index := 229) (np := 0) (As := []) (rest := []) dX7_completed_274 lkX7_229 mwX7_caseEnds (tR_caseEnds hA h) (by omega) rfl rfl (Nat.le_of_ble_eq_true rfl) rm_mo rfl (fun v9 G9 q79 => ?_) (fun _ _ h => absurd h id)
                  obtain ⟨S80, e8, e9, h⟩ := q79
                  subst e8
                  subst e9
                  refine cj_st (st' := []) rfl ?_
                  refine cj_vret rfl dX7_completed_277 ?_
                  exact ⟨_, rfl, rfl, h⟩
def wp_readBehind (S : rm_S) (Q : rm_S → Prop) : Prop := wp_look S (fun x2 S3 => wp_beginsAtom x2 (fun x5 => ((x5 = 0 → ((¬ x2 = 42 → ((x2 = 43 → wp_join S3 x2 2 (fun S10 => Q S10)) ∧ (¬ x2 = 43 → ((¬ x2 = 45 → ((x2 = 60 → (vp_in ((S3.1 17) - 1) 8 ∧ ((((S3.2 24) (((S3.1 17) - 1).toNatClampNeg)) = 0 → (vp_in ((S3.1 17) - 1) 8 ∧ ((¬ (S3.1 6) = 0 → Q (rm_pa S3 24 (((S3.1 17) - 1).toNatClampNeg) 1)) ∧ ((S3.1 6) = 0 → wp_join (rm_pa S3 24 (((S3.1 17) - 1).toNatClampNeg) 1) x2 1 (fun S18 => Q S18))))) ∧ (¬ ((S3.2 24) (((S3.1 17) - 1).toNatClampNeg)) = 0 → (vp_in ((S3.1 17) - 1) 8 ∧ Q (rm_pa (rm_pf S3 6 1) 24 (((S3.1 17) - 1).toNatClampNeg) 1)))))) ∧ (¬ x2 = 60 → ((¬ x2 = 126 → wp_settle S3 1 (fun S22 => (vp_in ((S22.1 29) - 1) 100 ∧ (vp_in ((S22.1 17) - 1) 8 ∧ ((0 ≤ ((S22.2 25) (((S22.1 17) - 1).toNatClampNeg)) → wp_addChild (rm_pf S22 29 ((S22.1 29) - 1)) ((S22.2 25) (((S22.1 17) - 1).toNatClampNeg)) ((S22.2 30) (((S22.1 29) - 1).toNatClampNeg)) (fun S27 => wp_want S27 123 (fun S29 => Q (rm_pf S29 33 3)))) ∧ (¬ 0 ≤ ((S22.2 25) (((S22.1 17) - 1).toNatClampNeg)) → wp_completed (rm_pf S22 29 ((S22.1 29) - 1)) ((S22.2 30) (((S22.1 29) - 1).toNatClampNeg)) (fun S31 => Q S31))))))) ∧ (x2 = 126 → (vp_in ((S3.1 17) - 1) 8 ∧ ((((S3.2 24) (((S3.1 17) - 1).toNatClampNeg)) = 0 → (vp_in ((S3.1 17) - 1) 8 ∧ ((¬ (S3.1 6) = 0 → Q (rm_pa S3 24 (((S3.1 17) - 1).toNatClampNeg) 1)) ∧ ((S3.1 6) = 0 → wp_join (rm_pa S3 24 (((S3.1 17) - 1).toNatClampNeg) 1) x2 1 (fun S37 => Q S37))))) ∧ (¬ ((S3.2 24) (((S3.1 17) - 1).toNatClampNeg)) = 0 → (vp_in ((S3.1 17) - 1) 8 ∧ Q (rm_pa (rm_pf S3 6 1) 24 (((S3.1 17) - 1).toNatClampNeg) 1)))))))))) ∧ (x2 = 45 → wp_join S3 x2 2 (fun S40 => Q S40)))))) ∧ (x2 = 42 → wp_join S3 x2 3 (fun S42 => Q S42)))) ∧ (¬ x5 = 0 → wp_join S3 32 4 (fun S44 => Q S44)))))
set_option maxHeartbeats 4000000 in
set_option maxRecDepth 100000 in
theorem tR_readBehind {mo : Nat} {ad : Nat → Nat} (hA : rm_A mo ad) {G0 : cj_G} {S : rm_S} {Q : rm_S → Prop} (h : wp_readBehind S Q) : cj_T mX7_readBehind 4 0 0 [.ref mo] (rm_md mo ad S G0) (rm_post mo ad G0 Q) cj_no := by
  refine cj_T_of (by decide +kernel) (Nat.le_of_ble_eq_true rfl) ?_
  refine cj_lvs (lv' := [(0, .ref mo)]) rfl ?_
  unfold wp_readBehind at h
  refine cj_aload_n dX7_readBehind_0 rfl ?_
  refine cj_callV (M' := mX7_look) (d' := 0) (k' := 0) (n' := 0) (index := 134) (np := 0) (As := []) (rest := []) dX7_readBehind_1 lkX7_134 mwX7_look (tR_look hA h) (by omega) rfl rfl (Nat.le_of_ble_eq_true rfl) rm_mo rfl (fun v9 G9 q1 => ?_) (fun _ _ h => absurd h id)
  obtain ⟨x2, S3, e8, e9, h⟩ := q1
  subst e8
  subst e9
  refine cj_st (st' := [.int x2]) rfl ?_
  refine cj_istore_n (lv' := [(1, .int x2), (0, .ref mo)]) dX7_readBehind_4 (by decide) rfl ?_
  refine cj_iload_n dX7_readBehind_5 rfl ?_
  refine cj_pc (pc' := 6) rfl ?_
  refine cj_callS (M' := mX7_beginsAtom) (d' := 1) (k' := 0) (n' := 0) (index := 207) (np := 1) (As := [.int x2]) (rest := []) dX7_readBehind_6 lkX7_207 mwX7_beginsAtom (tR_beginsAtom h) (by omega) rfl rfl (Nat.le_of_ble_eq_true rfl) (fun v9 G9 q4 => ?_) (fun _ _ h => absurd h id)
  obtain ⟨x5, e8, e9, h⟩ := q4
  subst e8
  subst e9
  refine cj_st (st' := [.int x5]) rfl ?_
  refine cj_if_eq (tgt := 22) dX7_readBehind_9 (by decide) (fun c6 => ?_) (fun c6 => ?_)
  · replace h := h.1 c6
    refine cj_iload_n dX7_readBehind_22 rfl ?_
    refine cj_bipush (v := 42) dX7_readBehind_23 (by decide) ?_
    refine cj_icmp_ne (tgt := 37) dX7_readBehind_25 (by decide) (fun c7 => ?_) (fun c7 => ?_)
    · replace h := h.1 c7
      refine cj_iload_n dX7_readBehind_37 rfl ?_
      refine cj_pc (pc' := 38) rfl ?_
      refine cj_bipush (v := 43) dX7_readBehind_38 (by decide) ?_
      refine cj_icmp_eq (tgt := 49) dX7_readBehind_40 (by decide) (fun c8 => ?_) (fun c8 => ?_)
      · replace h := h.1 c8
        refine cj_aload_n dX7_readBehind_49 rfl ?_
        refine cj_iload_n dX7_readBehind_50 rfl ?_
        refine cj_iconst (v := 2) dX7_readBehind_51 (by decide) ?_
        refine cj_pc (pc' := 52) rfl ?_
        refine cj_callV (M' := mX7_join) (d' := 2) (k' := 0) (n' := 0) (index := 210) (np := 2) (As := [.int x2, .int 2]) (rest := []) dX7_readBehind_52 lkX7_210 mwX7_join (tR_join hA h) (by omega) rfl rfl (Nat.le_of_ble_eq_true rfl) rm_mo rfl (fun v9 G9 q9 => ?_) (fun _ _ h => absurd h id)
        obtain ⟨S10, e8, e9, h⟩ := q9
        subst e8
        subst e9
        refine cj_st (st' := []) rfl ?_
        refine cj_goto (tgt := 181) dX7_readBehind_55 (by decide) ?_
        refine cj_vret rfl dX7_readBehind_181 ?_
        exact ⟨_, rfl, rfl, h⟩
      · replace h := h.2 c8
        refine cj_iload_n dX7_readBehind_43 rfl ?_
        refine cj_bipush (v := 45) dX7_readBehind_44 (by decide) ?_
        refine cj_pc (pc' := 46) rfl ?_
        refine cj_icmp_ne (tgt := 58) dX7_readBehind_46 (by decide) (fun c11 => ?_) (fun c11 => ?_)
        · replace h := h.1 c11
          refine cj_iload_n dX7_readBehind_58 rfl ?_
          refine cj_bipush (v := 60) dX7_readBehind_59 (by decide) ?_
          refine cj_icmp_eq (tgt := 70) dX7_readBehind_61 (by decide) (fun c12 => ?_) (fun c12 => ?_)
          · replace h := h.1 c12
            refine cj_aload_n dX7_readBehind_70 rfl ?_
            refine cj_pc (pc' := 71) rfl ?_
            refine rm_get (.ref (ad 24)) flX7_61 dX7_readBehind_71 rfl ?_
            refine cj_aload_n dX7_readBehind_74 rfl ?_
            refine rm_get (.int (S3.1 17)) flX7_148 dX7_readBehind_75 rfl ?_
            refine cj_iconst (v := 1) dX7_readBehind_78 (by decide) ?_
            refine cj_isub dX7_readBehind_79 ?_
            refine cj_pc (pc' := 80) rfl ?_
            have i13 := h.1
            replace h := h.2
            refine rm_zald (j := 24) (x := (S3.2 24) (((S3.1 17) - 1).toNatClampNeg)) hA rfl dX7_readBehind_80 i13 rfl ?_
            refine cj_if_eq (tgt := 89) dX7_readBehind_81 (by decide) (fun c14 => ?_) (fun c14 => ?_)
            · replace h := h.1 c14
              refine cj_aload_n dX7_readBehind_89 rfl ?_
              refine rm_get (.ref (ad 24)) flX7_61 dX7_readBehind_90 rfl ?_
              refine cj_aload_n dX7_readBehind_93 rfl ?_
              refine cj_pc (pc' := 94) rfl ?_
              refine rm_get (.int (S3.1 17)) flX7_148 dX7_readBehind_94 rfl ?_
              refine cj_iconst (v := 1) dX7_readBehind_97 (by decide) ?_
              refine cj_isub dX7_readBehind_98 ?_
              refine cj_iconst (v := 1) dX7_readBehind_99 (by decide) ?_
              have i15 := h.1
              replace h := h.2
              refine rm_zast (j := 24) hA rfl dX7_readBehind_100 i15 ?_
              refine cj_eqG (G' := rm_md mo ad (rm_pa S3 24 (((S3.1 17) - 1).toNatClampNeg) 1) G0) rfl ?_
              refine cj_pc (pc' := 101) rfl ?_
              refine cj_aload_n dX7_readBehind_101 rfl ?_
              refine rm_get (.int (S3.1 6)) flX7_138 dX7_readBehind_102 rfl ?_
              refine cj_if_ne (tgt := 181) dX7_readBehind_105 (by decide) (fun c16 => ?_) (fun c16 => ?_)
              · replace h := h.1 c16
                refine cj_vret rfl dX7_readBehind_181 ?_
                exact ⟨_, rfl, rfl, h⟩
              · replace h := h.2 c16
                refine cj_aload_n dX7_readBehind_108 rfl ?_
                refine cj_pc (pc' := 109) rfl ?_
                refine cj_iload_n dX7_readBehind_109 rfl ?_
                refine cj_iconst (v := 1) dX7_readBehind_110 (by decide) ?_
                refine cj_callV (M' := mX7_join) (d' := 2) (k' := 0) (n' := 0) (index := 210) (np := 2) (As := [.int x2, .int 1]) (rest := []) dX7_readBehind_111 lkX7_210 mwX7_join (tR_join hA h) (by omega) rfl rfl (Nat.le_of_ble_eq_true rfl) rm_mo rfl (fun v9 G9 q17 => ?_) (fun _ _ h => absurd h id)
                obtain ⟨S18, e8, e9, h⟩ := q17
                subst e8
                subst e9
                refine cj_st (st' := []) rfl ?_
                refine cj_goto (tgt := 181) dX7_readBehind_114 (by decide) ?_
                refine cj_vret rfl dX7_readBehind_181 ?_
                exact ⟨_, rfl, rfl, h⟩
            · replace h := h.2 c14
              refine cj_aload_n dX7_readBehind_84 rfl ?_
              refine cj_pc (pc' := 85) rfl ?_
              refine cj_iconst (v := 1) dX7_readBehind_85 (by decide) ?_
              refine rm_put flX7_138 dX7_readBehind_86 rmp_6 rfl rfl (by decide) ?_
              refine cj_aload_n dX7_readBehind_89 rfl ?_
              refine rm_get (.ref (ad 24)) flX7_61 dX7_readBehind_90 rfl ?_
              refine cj_aload_n dX7_readBehind_93 rfl ?_
              refine cj_pc (pc' := 94) rfl ?_
              refine rm_get (.int (S3.1 17)) flX7_148 dX7_readBehind_94 rfl ?_
              refine cj_iconst (v := 1) dX7_readBehind_97 (by decide) ?_
              refine cj_isub dX7_readBehind_98 ?_
              refine cj_iconst (v := 1) dX7_readBehind_99 (by decide) ?_
              have i19 := h.1
              replace h := h.2
              refine rm_zast (j := 24) hA rfl dX7_readBehind_100 i19 ?_
              refine cj_eqG (G' := rm_md mo ad (rm_pa (rm_pf S3 6 1) 24 (((S3.1 17) - 1).toNatClampNeg) 1) G0) rfl ?_
              refine cj_pc (pc' := 101) rfl ?_
              refine cj_aload_n dX7_readBehind_101 rfl ?_
              refine rm_get (.int 1) flX7_138 dX7_readBehind_102 rfl ?_
              refine cj_if_ne (tgt := 181) dX7_readBehind_105 (by decide) (fun _ => ?_) (fun c => absurd c (by decide))
              refine cj_vret rfl dX7_readBehind_181 ?_
              exact ⟨_, rfl, rfl, h⟩
          · replace h := h.2 c12
            refine cj_iload_n dX7_readBehind_64 rfl ?_
            refine cj_pc (pc' := 65) rfl ?_
            refine cj_bipush (v := 126) dX7_readBehind_65 (by decide) ?_
            refine cj_icmp_ne (tgt := 117) dX7_readBehind_67 (by decide) (fun c20 => ?_) (fun c20 => ?_)
            · replace h := h.1 c20
              refine cj_aload_n dX7_readBehind_117 rfl ?_
              refine cj_iconst (v := 1) dX7_readBehind_118 (by decide) ?_
              refine cj_callV (M' := mX7_settle) (d' := 1) (k' := 0) (n' := 0) (index := 214) (np := 1) (As := [.int 1]) (rest := []) dX7_readBehind_119 lkX7_214 mwX7_settle (tR_settle hA h) (by omega) rfl rfl (Nat.le_of_ble_eq_true rfl) rm_mo rfl (fun v9 G9 q21 => ?_) (fun _ _ h => absurd h id)
              obtain ⟨S22, e8, e9, h⟩ := q21
              subst e8
              subst e9
              refine cj_st (st' := []) rfl ?_
              refine cj_pc (pc' := 122) rfl ?_
              refine cj_aload_n dX7_readBehind_122 rfl ?_
              refine cj_dup dX7_readBehind_123 rfl ?_
              refine rm_get (.int (S22.1 29)) flX7_191 dX7_readBehind_124 rfl ?_
              refine cj_iconst (v := 1) dX7_readBehind_127 (by decide) ?_
              refine cj_isub dX7_readBehind_128 ?_
              refine cj_pc (pc' := 129) rfl ?_
              refine rm_put flX7_191 dX7_readBehind_129 rmp_29 rfl rfl (by decide) ?_
              refine cj_aload_n dX7_readBehind_132 rfl ?_
              refine rm_get (.ref (ad 30)) flX7_73 dX7_readBehind_133 rfl ?_
              refine cj_aload_n dX7_readBehind_136 rfl ?_
              refine rm_get (.int ((S22.1 29) - 1)) flX7_191 dX7_readBehind_137 rfl ?_
              refine cj_pc (pc' := 140) rfl ?_
              have i23 := h.1
              replace h := h.2
              refine rm_iald (j := 30) (x := (S22.2 30) (((S22.1 29) - 1).toNatClampNeg)) hA rfl dX7_readBehind_140 i23 rfl ?_
              refine cj_istore_n (lv' := [(2, .int ((S22.2 30) (((S22.1 29) - 1).toNatClampNeg))), (1, .int x2), (0, .ref mo)]) dX7_readBehind_141 (by decide) rfl ?_
              refine cj_aload_n dX7_readBehind_142 rfl ?_
              refine rm_get (.ref (ad 25)) flX7_64 dX7_readBehind_143 rfl ?_
              refine cj_aload_n dX7_readBehind_146 rfl ?_
              refine cj_pc (pc' := 147) rfl ?_
              refine rm_get (.int (S22.1 17)) flX7_148 dX7_readBehind_147 rfl ?_
              refine cj_iconst (v := 1) dX7_readBehind_150 (by decide) ?_
              refine cj_isub dX7_readBehind_151 ?_
              have i24 := h.1
              replace h := h.2
              refine rm_iald (j := 25) (x := (S22.2 25) (((S22.1 17) - 1).toNatClampNeg)) hA rfl dX7_readBehind_152 i24 rfl ?_
              refine cj_istore_n (lv' := [(3, .int ((S22.2 25) (((S22.1 17) - 1).toNatClampNeg))), (2, .int ((S22.2 30) (((S22.1 29) - 1).toNatClampNeg))), (1, .int x2), (0, .ref mo)]) dX7_readBehind_153 (by decide) rfl ?_
              refine cj_pc (pc' := 154) rfl ?_
              refine cj_iload_n dX7_readBehind_154 rfl ?_
              refine cj_if_ge (tgt := 164) dX7_readBehind_155 (by decide) (fun c25 => ?_) (fun c25 => ?_)
              · replace h := h.1 c25
                refine cj_aload_n dX7_readBehind_164 rfl ?_
                refine cj_iload_n dX7_readBehind_165 rfl ?_
                refine cj_iload_n dX7_readBehind_166 rfl ?_
                refine cj_pc (pc' := 167) rfl ?_
                refine cj_callV (M' := mX7_addChild) (d' := 0) (k' := 0) (n' := 0) (index := 194) (np := 2) (As := [.int ((S22.2 25) (((S22.1 17) - 1).toNatClampNeg)), .int ((S22.2 30) (((S22.1 29) - 1).toNatClampNeg))]) (rest := []) dX7_readBehind_167 lkX7_194 mwX7_addChild (tR_addChild hA h) (by omega) rfl rfl (Nat.le_of_ble_eq_true rfl) rm_mo rfl (fun v9 G9 q26 => ?_) (fun _ _ h => absurd h id)
                obtain ⟨S27, e8, e9, h⟩ := q26
                subst e8
                subst e9
                refine cj_st (st' := []) rfl ?_
                refine cj_aload_n dX7_readBehind_170 rfl ?_
                refine cj_bipush (v := 123) dX7_readBehind_171 (by decide) ?_
                refine cj_callV (M' := mX7_want) (d' := 1) (k' := 0) (n' := 0) (index := 184) (np := 1) (As := [.int 123]) (rest := []) dX7_readBehind_173 lkX7_184 mwX7_want (tR_want hA h) (by omega) rfl rfl (Nat.le_of_ble_eq_true rfl) rm_mo rfl (fun v9 G9 q28 => ?_) (fun _ _ h => absurd h id)
                obtain ⟨S29, e8, e9, h⟩ := q28
                subst e8
                subst e9
                refine cj_st (st' := []) rfl ?_
                refine cj_aload_n dX7_readBehind_176 rfl ?_
                refine cj_pc (pc' := 177) rfl ?_
                refine cj_iconst (v := 3) dX7_readBehind_177 (by decide) ?_
                refine rm_put flX7_157 dX7_readBehind_178 rmp_33 rfl rfl (by decide) ?_
                refine cj_vret rfl dX7_readBehind_181 ?_
                exact ⟨_, rfl, rfl, h⟩
              · replace h := h.2 c25
                refine cj_aload_n dX7_readBehind_158 rfl ?_
                refine cj_iload_n dX7_readBehind_159 rfl ?_
                refine cj_pc (pc' := 160) rfl ?_
                refine cj_callV (M' := mX7_completed) (d' := 3) (k' := 0) (n' := 0) (index := 217) (np := 1) (As := [.int ((S22.2 30) (((S22.1 29) - 1).toNatClampNeg))]) (rest := []) dX7_readBehind_160 lkX7_217 mwX7_completed (tR_completed hA h) (by omega) rfl rfl (Nat.le_of_ble_eq_true rfl) rm_mo rfl (fun v9 G9 q30 => ?_) (fun _ _ h => absurd h id)
                obtain ⟨S31, e8, e9, h⟩ := q30
                subst e8
                subst e9
                refine cj_st (st' := []) rfl ?_
                refine cj_vret rfl dX7_readBehind_163 ?_
                exact ⟨_, rfl, rfl, h⟩
            · replace h := h.2 c20
              refine cj_aload_n dX7_readBehind_70 rfl ?_
              refine rm_get (.ref (ad 24)) flX7_61 dX7_readBehind_71 rfl ?_
              refine cj_aload_n dX7_readBehind_74 rfl ?_
              refine cj_pc (pc' := 75) rfl ?_
              refine rm_get (.int (S3.1 17)) flX7_148 dX7_readBehind_75 rfl ?_
              refine cj_iconst (v := 1) dX7_readBehind_78 (by decide) ?_
              refine cj_isub dX7_readBehind_79 ?_
              have i32 := h.1
              replace h := h.2
              refine rm_zald (j := 24) (x := (S3.2 24) (((S3.1 17) - 1).toNatClampNeg)) hA rfl dX7_readBehind_80 i32 rfl ?_
              refine cj_if_eq (tgt := 89) dX7_readBehind_81 (by decide) (fun c33 => ?_) (fun c33 => ?_)
              · replace h := h.1 c33
                refine cj_aload_n dX7_readBehind_89 rfl ?_
                refine cj_pc (pc' := 90) rfl ?_
                refine rm_get (.ref (ad 24)) flX7_61 dX7_readBehind_90 rfl ?_
                refine cj_aload_n dX7_readBehind_93 rfl ?_
                refine rm_get (.int (S3.1 17)) flX7_148 dX7_readBehind_94 rfl ?_
                refine cj_iconst (v := 1) dX7_readBehind_97 (by decide) ?_
                refine cj_isub dX7_readBehind_98 ?_
                refine cj_pc (pc' := 99) rfl ?_
                refine cj_iconst (v := 1) dX7_readBehind_99 (by decide) ?_
                have i34 := h.1
                replace h := h.2
                refine rm_zast (j := 24) hA rfl dX7_readBehind_100 i34 ?_
                refine cj_eqG (G' := rm_md mo ad (rm_pa S3 24 (((S3.1 17) - 1).toNatClampNeg) 1) G0) rfl ?_
                refine cj_aload_n dX7_readBehind_101 rfl ?_
                refine rm_get (.int (S3.1 6)) flX7_138 dX7_readBehind_102 rfl ?_
                refine cj_if_ne (tgt := 181) dX7_readBehind_105 (by decide) (fun c35 => ?_) (fun c35 => ?_)
                · replace h := h.1 c35
                  refine cj_vret rfl dX7_readBehind_181 ?_
                  exact ⟨_, rfl, rfl, h⟩
                · replace h := h.2 c35
                  refine cj_aload_n dX7_readBehind_108 rfl ?_
                  refine cj_pc (pc' := 109) rfl ?_
                  refine cj_iload_n dX7_readBehind_109 rfl ?_
                  refine cj_iconst (v := 1) dX7_readBehind_110 (by decide) ?_
                  refine cj_callV (M' := mX7_join) (d' := 2) (k' := 0) (n' := 0) (index := 210) (np := 2) (As := [.int x2, .int 1]) (rest := []) dX7_readBehind_111 lkX7_210 mwX7_join (tR_join hA h) (by omega) rfl rfl (Nat.le_of_ble_eq_true rfl) rm_mo rfl (fun v9 G9 q36 => ?_) (fun _ _ h => absurd h id)
                  obtain ⟨S37, e8, e9, h⟩ := q36
                  subst e8
                  subst e9
                  refine cj_st (st' := []) rfl ?_
                  refine cj_goto (tgt := 181) dX7_readBehind_114 (by decide) ?_
                  refine cj_vret rfl dX7_readBehind_181 ?_
                  exact ⟨_, rfl, rfl, h⟩
              · replace h := h.2 c33
                refine cj_aload_n dX7_readBehind_84 rfl ?_
                refine cj_pc (pc' := 85) rfl ?_
                refine cj_iconst (v := 1) dX7_readBehind_85 (by decide) ?_
                refine rm_put flX7_138 dX7_readBehind_86 rmp_6 rfl rfl (by decide) ?_
                refine cj_aload_n dX7_readBehind_89 rfl ?_
                refine rm_get (.ref (ad 24)) flX7_61 dX7_readBehind_90 rfl ?_
                refine cj_aload_n dX7_readBehind_93 rfl ?_
                refine cj_pc (pc' := 94) rfl ?_
                refine rm_get (.int (S3.1 17)) flX7_148 dX7_readBehind_94 rfl ?_
                refine cj_iconst (v := 1) dX7_readBehind_97 (by decide) ?_
                refine cj_isub dX7_readBehind_98 ?_
                refine cj_iconst (v := 1) dX7_readBehind_99 (by decide) ?_
                have i38 := h.1
                replace h := h.2
                refine rm_zast (j := 24) hA rfl dX7_readBehind_100 i38 ?_
                refine cj_eqG (G' := rm_md mo ad (rm_pa (rm_pf S3 6 1) 24 (((S3.1 17) - 1).toNatClampNeg) 1) G0) rfl ?_
                refine cj_pc (pc' := 101) rfl ?_
                refine cj_aload_n dX7_readBehind_101 rfl ?_
                refine rm_get (.int 1) flX7_138 dX7_readBehind_102 rfl ?_
                refine cj_if_ne (tgt := 181) dX7_readBehind_105 (by decide) (fun _ => ?_) (fun c => absurd c (by decide))
                refine cj_vret rfl dX7_readBehind_181 ?_
                exact ⟨_, rfl, rfl, h⟩
        · replace h := h.2 c11
          refine cj_aload_n dX7_readBehind_49 rfl ?_
          refine cj_pc (pc' := 50) rfl ?_
          refine cj_iload_n dX7_readBehind_50 rfl ?_
          refine cj_iconst (v := 2) dX7_readBehind_51 (by decide) ?_
          refine cj_callV (M' := mX7_join) (d' := 2) (k' := 0) (n' := 0) (index := 210) (np := 2) (As := [.int x2, .int 2]) (rest := []) dX7_readBehind_52 lkX7_210 mwX7_join (tR_join hA h) (by omega) rfl rfl (Nat.le_of_ble_eq_true rfl) rm_mo rfl (fun v9 G9 q39 => ?_) (fun _ _ h => absurd h id)
          obtain ⟨S40, e8, e9, h⟩ := q39
          subst e8
          subst e9
          refine cj_st (st' := []) rfl ?_
          refine cj_goto (tgt := 181) dX7_readBehind_55 (by decide) ?_
          refine cj_vret rfl dX7_readBehind_181 ?_
          exact ⟨_, rfl, rfl, h⟩
    · replace h := h.2 c7
      refine cj_aload_n dX7_readBehind_28 rfl ?_
      refine cj_pc (pc' := 29) rfl ?_
      refine cj_iload_n dX7_readBehind_29 rfl ?_
      refine cj_iconst (v := 3) dX7_readBehind_30 (by decide) ?_
      refine cj_callV (M' := mX7_join) (d' := 2) (k' := 0) (n' := 0) (index := 210) (np := 2) (As := [.int x2, .int 3]) (rest := []) dX7_readBehind_31 lkX7_210 mwX7_join (tR_join hA h) (by omega) rfl rfl (Nat.le_of_ble_eq_true rfl) rm_mo rfl (fun v9 G9 q41 => ?_) (fun _ _ h => absurd h id)
      obtain ⟨S42, e8, e9, h⟩ := q41
      subst e8
      subst e9
      refine cj_st (st' := []) rfl ?_
      refine cj_goto (tgt := 181) dX7_readBehind_34 (by decide) ?_
      refine cj_vret rfl dX7_readBehind_181 ?_
      exact ⟨_, rfl, rfl, h⟩
  · replace h := h.2 c6
    refine cj_aload_n dX7_readBehind_12 rfl ?_
    refine cj_pc (pc' := 13) rfl ?_
    refine cj_bipush (v := 32) dX7_readBehind_13 (by decide) ?_
    refine cj_iconst (v := 4) dX7_readBehind_15 (by decide) ?_
    refine cj_callV (M' := mX7_join) (d' := 2) (k' := 0) (n' := 0) (index := 210) (np := 2) (As := [.int 32, .int 4]) (rest := []) dX7_readBehind_16 lkX7_210 mwX7_join (tR_join hA h) (by omega) rfl rfl (Nat.le_of_ble_eq_true rfl) rm_mo rfl (fun v9 G9 q43 => ?_) (fun _ _ h => absurd h id)
    obtain ⟨S44, e8, e9, h⟩ := q43
    subst e8
    subst e9
    refine cj_st (st' := []) rfl ?_
    refine cj_goto (tgt := 181) dX7_readBehind_19 (by decide) ?_
    refine cj_vret rfl dX7_readBehind_181 ?_
    exact ⟨_, rfl, rfl, h⟩
def wl_readCase_31 (v1 : Int32) (v2 : Int32) (Q : rm_S → Prop) (K : Int32 → rm_S → Prop) : Nat → Int32 → rm_S → Prop
  | 0, _, _ => False
  | n + 1, v3, S => (vp_in v1 300 ∧ ((((S.2 13) v1.toNatClampNeg) ≤ v3 → K v3 S) ∧ (¬ ((S.2 13) v1.toNatClampNeg) ≤ v3 → wp_childAt S v1 v3 (fun x11 S12 => (vp_in x11 300 ∧ ((¬ ((S12.2 10) x11.toNatClampNeg) = (v2 - 65) → wl_readCase_31 v1 v2 Q K n (v3 + 1) S12) ∧ (((S12.2 10) x11.toNatClampNeg) = (v2 - 65) → wl_readCase_31 v1 v2 Q K n (v3 + 1) (rm_pf S12 6 1))))))))
def wl_readCase_138 (v1 : Int32) (v2 : Int32) (v3 : Int32) (v4 : Int32) (v5 : Int32) (Q : rm_S → Prop) (K : Int32 → rm_S → Prop) : Nat → Int32 → rm_S → Prop
  | 0, _, _ => False
  | n + 1, v6, S => (((S.1 15) ≤ v6 → K v6 S) ∧ (¬ (S.1 15) ≤ v6 → (vp_in v6 100 ∧ wp_look S (fun x29 S30 => ((¬ ((S.2 16) v6.toNatClampNeg) = x29 → wl_readCase_138 v1 v2 v3 v4 v5 Q K n (v6 + 1) S30) ∧ (((S.2 16) v6.toNatClampNeg) = x29 → wl_readCase_138 v1 v2 v3 v4 v5 Q K n (v6 + 1) (rm_pf S30 6 1)))))))
def wl_readCase_114 (v1 : Int32) (v2 : Int32) (v3 : Int32) (v4 : Int32) (Q : rm_S → Prop) (K : Int32 → rm_S → Prop) : Nat → Int32 → rm_S → Prop
  | 0, _, _ => False
  | n + 1, v5, S => (vp_in v3 300 ∧ (((((S.2 10) v3.toNatClampNeg) - ((S.2 10) v3.toNatClampNeg) / 4 * 4) ≤ v5 → K v5 S) ∧ (¬ (((S.2 10) v3.toNatClampNeg) - ((S.2 10) v3.toNatClampNeg) / 4 * 4) ≤ v5 → ((¬ (S.1 6) = 0 → K v5 S) ∧ ((S.1 6) = 0 → (∃ n9 : Nat, wl_readCase_138 v1 v2 v3 v4 v5 Q (fun w33 S32 => wp_wantName S32 (fun x35 S36 => ((¬ (S36.1 6) = 0 → wl_readCase_114 v1 v2 v3 v4 Q K n (v5 + 1) S36) ∧ ((S36.1 6) = 0 → wp_bind S36 x35 (fun S39 => wl_readCase_114 v1 v2 v3 v4 Q K n (v5 + 1) S39))))) n9 v4 S))))))
def wp_readCase (S : rm_S) (Q : rm_S → Prop) : Prop := (vp_in ((S.1 17) - 1) 8 ∧ wp_look S (fun x3 S4 => wp_isConstructor x3 (fun x6 => ((¬ x6 = 0 → (∃ n9 : Nat, wl_readCase_31 ((S.2 25) (((S.1 17) - 1).toNatClampNeg)) x3 Q (fun w16 S15 => (((S15.1 6) = 0 → wp_node (rm_pf S15 5 ((S15.1 5) + 1)) 9 (x3 - 65) (fun x19 S20 => wp_addChild S20 ((S.2 25) (((S.1 17) - 1).toNatClampNeg)) x19 (fun S22 => (∃ n9 : Nat, wl_readCase_114 ((S.2 25) (((S.1 17) - 1).toNatClampNeg)) x3 x19 (S22.1 15) Q (fun w41 S40 => ((¬ (S40.1 6) = 0 → wp_begin S40 5 x19 (fun S44 => ((¬ (S44.1 6) = 0 → Q S44) ∧ ((S44.1 6) = 0 → (vp_in ((S44.1 17) - 1) 8 ∧ Q (rm_pa S44 20 (((S44.1 17) - 1).toNatClampNeg) (S22.1 15))))))) ∧ ((S40.1 6) = 0 → wp_want S40 58 (fun S48 => wp_begin S48 5 x19 (fun S50 => ((¬ (S50.1 6) = 0 → Q S50) ∧ ((S50.1 6) = 0 → (vp_in ((S50.1 17) - 1) 8 ∧ Q (rm_pa S50 20 (((S50.1 17) - 1).toNatClampNeg) (S22.1 15)))))))))) n9 0 S22)))) ∧ (¬ (S15.1 6) = 0 → Q S15))) n9 1 S4)) ∧ (x6 = 0 → (∃ n9 : Nat, wl_readCase_31 ((S.2 25) (((S.1 17) - 1).toNatClampNeg)) x3 Q (fun w54 S53 => (((S53.1 6) = 0 → wp_node (rm_pf S53 5 ((S53.1 5) + 1)) 9 (x3 - 65) (fun x57 S58 => wp_addChild S58 ((S.2 25) (((S.1 17) - 1).toNatClampNeg)) x57 (fun S60 => (∃ n9 : Nat, wl_readCase_114 ((S.2 25) (((S.1 17) - 1).toNatClampNeg)) x3 x57 (S60.1 15) Q (fun w62 S61 => ((¬ (S61.1 6) = 0 → wp_begin S61 5 x57 (fun S65 => ((¬ (S65.1 6) = 0 → Q S65) ∧ ((S65.1 6) = 0 → (vp_in ((S65.1 17) - 1) 8 ∧ Q (rm_pa S65 20 (((S65.1 17) - 1).toNatClampNeg) (S60.1 15))))))) ∧ ((S61.1 6) = 0 → wp_want S61 58 (fun S69 => wp_begin S69 5 x57 (fun S71 => ((¬ (S71.1 6) = 0 → Q S71) ∧ ((S71.1 6) = 0 → (vp_in ((S71.1 17) - 1) 8 ∧ Q (rm_pa S71 20 (((S71.1 17) - 1).toNatClampNeg) (S60.1 15)))))))))) n9 0 S60)))) ∧ (¬ (S53.1 6) = 0 → Q S53))) n9 1 (rm_pf S4 6 1)))))))
set_option maxHeartbeats 4000000 in
set_option maxRecDepth 100000 in
theorem wl_readCase_31_ok {mo : Nat} {ad : Nat → Nat} (hA : rm_A mo ad) {G0 : cj_G} {d k0 n0 k n9 : Nat} (hd9 : 2 ≤ d) (v1 : Int32) (v2 : Int32) {Q : rm_S → Prop} {K : Int32 → rm_S → Prop} (hK : ∀ (v3 : Int32) (S : rm_S), K v3 S → cj_J mX7_readCase d k0 n0 (rm_post mo ad G0 Q) cj_no k n9 70 [(1, .int v1), (2, .int v2), (3, .int v3), (0, .ref mo)] [] (rm_md mo ad S G0)) : ∀ (n : Nat) (v3 : Int32) (S : rm_S), wl_readCase_31 v1 v2 Q K n v3 S → cj_J mX7_readCase d k0 n0 (rm_post mo ad G0 Q) cj_no k n9 31 [(1, .int v1), (2, .int v2), (3, .int v3), (0, .ref mo)] [] (rm_md mo ad S G0) := by
  intro n
  induction n with
  | zero => intro v3 S h; exact absurd h id
  | succ n ih =>
    intro v3 S h
    unfold wl_readCase_31 at h
    refine cj_iload_n dX7_readCase_31 rfl ?_
    refine cj_aload_n dX7_readCase_32 rfl ?_
    refine rm_get (.ref (ad 13)) flX7_33 dX7_readCase_33 rfl ?_
    refine cj_iload_n dX7_readCase_36 rfl ?_
    refine cj_pc (pc' := 37) rfl ?_
    have i8 := h.1
    replace h := h.2
    refine rm_iald (j := 13) (x := (S.2 13) v1.toNatClampNeg) hA rfl dX7_readCase_37 i8 rfl ?_
    refine cj_icmp_ge (tgt := 70) dX7_readCase_38 (by decide) (fun c9 => ?_) (fun c9 => ?_)
    · replace h := h.1 c9
      refine cj_sub (lv' := [(1, .int v1), (2, .int v2), (3, .int v3), (0, .ref mo)]) (by simp) ?_
      exact hK _ _ h
    · replace h := h.2 c9
      refine cj_aload_n dX7_readCase_41 rfl ?_
      refine rm_get (.ref (ad 10)) flX7_24 dX7_readCase_42 rfl ?_
      refine cj_aload_n dX7_readCase_45 rfl ?_
      refine cj_pc (pc' := 46) rfl ?_
      refine cj_iload_n dX7_readCase_46 rfl ?_
      refine cj_iload_n dX7_readCase_47 rfl ?_
      refine cj_callV (M' := mX7_childAt) (d' := 0) (k' := 0) (n' := 0) (index := 220) (np := 2) (As := [.int v1, .int v3]) (rest := [.ref (ad 10)]) dX7_readCase_48 lkX7_220 mwX7_childAt (tR_childAt hA h) (by omega) rfl rfl (Nat.le_of_ble_eq_true rfl) rm_mo rfl (fun v9 G9 q10 => ?_) (fun _ _ h => absurd h id)
      obtain ⟨x11, S12, e8, e9, h⟩ := q10
      subst e8
      subst e9
      refine cj_st (st' := [.int x11, .ref (ad 10)]) rfl ?_
      have i13 := h.1
      replace h := h.2
      refine rm_iald (j := 10) (x := (S12.2 10) x11.toNatClampNeg) hA rfl dX7_readCase_51 i13 rfl ?_
      refine cj_iload_n dX7_readCase_52 rfl ?_
      refine cj_pc (pc' := 53) rfl ?_
      refine cj_bipush (v := 65) dX7_readCase_53 (by decide) ?_
      refine cj_isub dX7_readCase_55 ?_
      refine cj_icmp_ne (tgt := 64) dX7_readCase_56 (by decide) (fun c14 => ?_) (fun c14 => ?_)
      · replace h := h.1 c14
        refine cj_iinc (v := v3 + 1) (lv' := [(3, .int (v3 + 1)), (1, .int v1), (2, .int v2), (0, .ref mo)]) dX7_readCase_64 rfl rfl (by decide) rfl ?_
        refine cj_goto (tgt := 31) dX7_readCase_67 (by decide) ?_
        refine cj_sub (lv' := [(1, .int v1), (2, .int v2), (3, .int (v3 + 1)), (0, .ref mo)]) (by simp) ?_
        exact ih _ _ h
      · replace h := h.2 c14
        refine cj_aload_n dX7_readCase_59 rfl ?_
        refine cj_pc (pc' := 60) rfl ?_
        refine cj_iconst (v := 1) dX7_readCase_60 (by decide) ?_
        refine rm_put flX7_138 dX7_readCase_61 rmp_6 rfl rfl (by decide) ?_
        refine cj_iinc (v := v3 + 1) (lv' := [(3, .int (v3 + 1)), (1, .int v1), (2, .int v2), (0, .ref mo)]) dX7_readCase_64 rfl rfl (by decide) rfl ?_
        refine cj_goto (tgt := 31) dX7_readCase_67 (by decide) ?_
        refine cj_sub (lv' := [(1, .int v1), (2, .int v2), (3, .int (v3 + 1)), (0, .ref mo)]) (by simp) ?_
        exact ih _ _ h
set_option maxHeartbeats 4000000 in
set_option maxRecDepth 100000 in
theorem wl_readCase_138_ok {mo : Nat} {ad : Nat → Nat} (hA : rm_A mo ad) {G0 : cj_G} {d k0 n0 k n9 : Nat} (hd9 : 2 ≤ d) (v1 : Int32) (v2 : Int32) (v3 : Int32) (v4 : Int32) (v5 : Int32) {Q : rm_S → Prop} {K : Int32 → rm_S → Prop} (hK : ∀ (v6 : Int32) (S : rm_S), K v6 S → cj_J mX7_readCase d k0 n0 (rm_post mo ad G0 Q) cj_no k n9 172 [(1, .int v1), (2, .int v2), (3, .int v3), (4, .int v4), (5, .int v5), (6, .int v6), (0, .ref mo)] [] (rm_md mo ad S G0)) : ∀ (n : Nat) (v6 : Int32) (S : rm_S), wl_readCase_138 v1 v2 v3 v4 v5 Q K n v6 S → cj_J mX7_readCase d k0 n0 (rm_post mo ad G0 Q) cj_no k n9 138 [(1, .int v1), (2, .int v2), (3, .int v3), (4, .int v4), (5, .int v5), (6, .int v6), (0, .ref mo)] [] (rm_md mo ad S G0) := by
  intro n
  induction n with
  | zero => intro v6 S h; exact absurd h id
  | succ n ih =>
    intro v6 S h
    unfold wl_readCase_138 at h
    refine cj_iload dX7_readCase_138 rfl ?_
    refine cj_aload_n dX7_readCase_140 rfl ?_
    refine rm_get (.int (S.1 15)) flX7_145 dX7_readCase_141 rfl ?_
    refine cj_icmp_ge (tgt := 172) dX7_readCase_144 (by decide) (fun c26 => ?_) (fun c26 => ?_)
    · replace h := h.1 c26
      refine cj_sub (lv' := [(1, .int v1), (2, .int v2), (3, .int v3), (4, .int v4), (5, .int v5), (6, .int v6), (0, .ref mo)]) (by simp) ?_
      exact hK _ _ h
    · replace h := h.2 c26
      refine cj_aload_n dX7_readCase_147 rfl ?_
      refine cj_pc (pc' := 148) rfl ?_
      refine rm_get (.ref (ad 16)) flX7_40 dX7_readCase_148 rfl ?_
      refine cj_iload dX7_readCase_151 rfl ?_
      have i27 := h.1
      replace h := h.2
      refine rm_cald (j := 16) (x := (S.2 16) v6.toNatClampNeg) hA rfl dX7_readCase_153 i27 rfl ?_
      refine cj_aload_n dX7_readCase_154 rfl ?_
      refine cj_callV (M' := mX7_look) (d' := 0) (k' := 0) (n' := 0) (index := 134) (np := 0) (As := []) (rest := [.int ((S.2 16) v6.toNatClampNeg)]) dX7_readCase_155 lkX7_134 mwX7_look (tR_look hA h) (by omega) rfl rfl (Nat.le_of_ble_eq_true rfl) rm_mo rfl (fun v9 G9 q28 => ?_) (fun _ _ h => absurd h id)
      obtain ⟨x29, S30, e8, e9, h⟩ := q28
      subst e8
      subst e9
      refine cj_st (st' := [.int x29, .int ((S.2 16) v6.toNatClampNeg)]) rfl ?_
      refine cj_pc (pc' := 158) rfl ?_
      refine cj_icmp_ne (tgt := 166) dX7_readCase_158 (by decide) (fun c31 => ?_) (fun c31 => ?_)
      · replace h := h.1 c31
        refine cj_iinc (v := v6 + 1) (lv' := [(6, .int (v6 + 1)), (1, .int v1), (2, .int v2), (3, .int v3), (4, .int v4), (5, .int v5), (0, .ref mo)]) dX7_readCase_166 rfl rfl (by decide) rfl ?_
        refine cj_goto (tgt := 138) dX7_readCase_169 (by decide) ?_
        refine cj_sub (lv' := [(1, .int v1), (2, .int v2), (3, .int v3), (4, .int v4), (5, .int v5), (6, .int (v6 + 1)), (0, .ref mo)]) (by simp) ?_
        exact ih _ _ h
      · replace h := h.2 c31
        refine cj_aload_n dX7_readCase_161 rfl ?_
        refine cj_iconst (v := 1) dX7_readCase_162 (by decide) ?_
        refine cj_pc (pc' := 163) rfl ?_
        refine rm_put flX7_138 dX7_readCase_163 rmp_6 rfl rfl (by decide) ?_
        refine cj_iinc (v := v6 + 1) (lv' := [(6, .int (v6 + 1)), (1, .int v1), (2, .int v2), (3, .int v3), (4, .int v4), (5, .int v5), (0, .ref mo)]) dX7_readCase_166 rfl rfl (by decide) rfl ?_
        refine cj_goto (tgt := 138) dX7_readCase_169 (by decide) ?_
        refine cj_sub (lv' := [(1, .int v1), (2, .int v2), (3, .int v3), (4, .int v4), (5, .int v5), (6, .int (v6 + 1)), (0, .ref mo)]) (by simp) ?_
        exact ih _ _ h
set_option maxHeartbeats 4000000 in
set_option maxRecDepth 100000 in
theorem wl_readCase_114_ok {mo : Nat} {ad : Nat → Nat} (hA : rm_A mo ad) {G0 : cj_G} {d k0 n0 k n9 : Nat} (hd9 : 2 ≤ d) (v1 : Int32) (v2 : Int32) (v3 : Int32) (v4 : Int32) {Q : rm_S → Prop} {K : Int32 → rm_S → Prop} (hK : ∀ (v5 : Int32) (S : rm_S), K v5 S → cj_J mX7_readCase d k0 n0 (rm_post mo ad G0 Q) cj_no k n9 197 [(1, .int v1), (2, .int v2), (3, .int v3), (4, .int v4), (5, .int v5), (0, .ref mo)] [] (rm_md mo ad S G0)) : ∀ (n : Nat) (v5 : Int32) (S : rm_S), wl_readCase_114 v1 v2 v3 v4 Q K n v5 S → cj_J mX7_readCase d k0 n0 (rm_post mo ad G0 Q) cj_no k n9 114 [(1, .int v1), (2, .int v2), (3, .int v3), (4, .int v4), (5, .int v5), (0, .ref mo)] [] (rm_md mo ad S G0) := by
  intro n
  induction n with
  | zero => intro v5 S h; exact absurd h id
  | succ n ih =>
    intro v5 S h
    unfold wl_readCase_114 at h
    refine cj_iload dX7_readCase_114 rfl ?_
    refine cj_pc (pc' := 116) rfl ?_
    refine cj_aload_n dX7_readCase_116 rfl ?_
    refine rm_get (.ref (ad 10)) flX7_24 dX7_readCase_117 rfl ?_
    refine cj_iload_n dX7_readCase_120 rfl ?_
    have i23 := h.1
    replace h := h.2
    refine rm_iald (j := 10) (x := (S.2 10) v3.toNatClampNeg) hA rfl dX7_readCase_121 i23 rfl ?_
    refine cj_iconst (v := 4) dX7_readCase_122 (by decide) ?_
    refine cj_pc (pc' := 123) rfl ?_
    refine cj_irem dX7_readCase_123 (by decide) ?_
    refine cj_icmp_ge (tgt := 197) dX7_readCase_124 (by decide) (fun c24 => ?_) (fun c24 => ?_)
    · replace h := h.1 c24
      refine cj_sub (lv' := [(1, .int v1), (2, .int v2), (3, .int v3), (4, .int v4), (5, .int v5), (0, .ref mo)]) (by simp) ?_
      exact hK _ _ h
    · replace h := h.2 c24
      refine cj_aload_n dX7_readCase_127 rfl ?_
      refine rm_get (.int (S.1 6)) flX7_138 dX7_readCase_128 rfl ?_
      refine cj_if_ne (tgt := 197) dX7_readCase_131 (by decide) (fun c25 => ?_) (fun c25 => ?_)
      · replace h := h.1 c25
        refine cj_sub (lv' := [(1, .int v1), (2, .int v2), (3, .int v3), (4, .int v4), (5, .int v5), (0, .ref mo)]) (by simp) ?_
        exact hK _ _ h
      · replace h := h.2 c25
        refine cj_iload dX7_readCase_134 rfl ?_
        refine cj_pc (pc' := 136) rfl ?_
        refine cj_istore (lv' := [(6, .int v4), (1, .int v1), (2, .int v2), (3, .int v3), (4, .int v4), (5, .int v5), (0, .ref mo)]) dX7_readCase_136 (by decide) rfl ?_
        obtain ⟨n9, h⟩ := h
        refine cj_sub (lv' := [(1, .int v1), (2, .int v2), (3, .int v3), (4, .int v4), (5, .int v5), (6, .int v4), (0, .ref mo)]) (by simp) ?_
        refine wl_readCase_138_ok hA (by omega) _ _ _ _ _ ?_ n9 _ _ h
        clear h
        intro w33 S32 h
        refine cj_aload_n dX7_readCase_172 rfl ?_
        refine cj_callV (M' := mX7_wantName) (d' := 1) (k' := 0) (n' := 0) (index := 160) (np := 0) (As := []) (rest := []) dX7_readCase_173 lkX7_160 mwX7_wantName (tR_wantName hA h) (by omega) rfl rfl (Nat.le_of_ble_eq_true rfl) rm_mo rfl (fun v9 G9 q34 => ?_) (fun _ _ h => absurd h id)
        obtain ⟨x35, S36, e8, e9, h⟩ := q34
        subst e8
        subst e9
        refine cj_st (st' := [.int x35]) rfl ?_
        refine cj_pc (pc' := 176) rfl ?_
        refine cj_istore (lv' := [(6, .int x35), (1, .int v1), (2, .int v2), (3, .int v3), (4, .int v4), (5, .int v5), (0, .ref mo)]) dX7_readCase_176 (by decide) rfl ?_
        refine cj_aload_n dX7_readCase_178 rfl ?_
        refine rm_get (.int (S36.1 6)) flX7_138 dX7_readCase_179 rfl ?_
        refine cj_if_ne (tgt := 191) dX7_readCase_182 (by decide) (fun c37 => ?_) (fun c37 => ?_)
        · replace h := h.1 c37
          refine cj_iinc (v := v5 + 1) (lv' := [(5, .int (v5 + 1)), (6, .int x35), (1, .int v1), (2, .int v2), (3, .int v3), (4, .int v4), (0, .ref mo)]) dX7_readCase_191 rfl rfl (by decide) rfl ?_
          refine cj_pc (pc' := 194) rfl ?_
          refine cj_goto (tgt := 114) dX7_readCase_194 (by decide) ?_
          refine cj_sub (lv' := [(1, .int v1), (2, .int v2), (3, .int v3), (4, .int v4), (5, .int (v5 + 1)), (0, .ref mo)]) (by simp) ?_
          exact ih _ _ h
        · replace h := h.2 c37
          refine cj_aload_n dX7_readCase_185 rfl ?_
          refine cj_iload dX7_readCase_186 rfl ?_
          refine cj_callV (M' := mX7_bind) (d' := 0) (k' := 0) (n' := 0) (index := 163) (np := 1) (As := [.int x35]) (rest := []) dX7_readCase_188 lkX7_163 mwX7_bind (tR_bind hA h) (by omega) rfl rfl (Nat.le_of_ble_eq_true rfl) rm_mo rfl (fun v9 G9 q38 => ?_) (fun _ _ h => absurd h id)
          obtain ⟨S39, e8, e9, h⟩ := q38
          subst e8
          subst e9
          refine cj_st (st' := []) rfl ?_
          refine cj_iinc (v := v5 + 1) (lv' := [(5, .int (v5 + 1)), (6, .int x35), (1, .int v1), (2, .int v2), (3, .int v3), (4, .int v4), (0, .ref mo)]) dX7_readCase_191 rfl rfl (by decide) rfl ?_
          refine cj_pc (pc' := 194) rfl ?_
          refine cj_goto (tgt := 114) dX7_readCase_194 (by decide) ?_
          refine cj_sub (lv' := [(1, .int v1), (2, .int v2), (3, .int v3), (4, .int v4), (5, .int (v5 + 1)), (0, .ref mo)]) (by simp) ?_
          exact ih _ _ h
set_option maxHeartbeats 4000000 in
set_option maxRecDepth 100000 in
theorem tR_readCase {mo : Nat} {ad : Nat → Nat} (hA : rm_A mo ad) {G0 : cj_G} {S : rm_S} {Q : rm_S → Prop} (h : wp_readCase S Q) : cj_T mX7_readCase 2 0 0 [.ref mo] (rm_md mo ad S G0) (rm_post mo ad G0 Q) cj_no := by
  refine cj_T_of (by decide +kernel) (Nat.le_of_ble_eq_true rfl) ?_
  refine cj_lvs (lv' := [(0, .ref mo)]) rfl ?_
  unfold wp_readCase at h
  refine cj_aload_n dX7_readCase_0 rfl ?_
  refine rm_get (.ref (ad 25)) flX7_64 dX7_readCase_1 rfl ?_
  refine cj_aload_n dX7_readCase_4 rfl ?_
  refine rm_get (.int (S.1 17)) flX7_148 dX7_readCase_5 rfl ?_
  refine cj_pc (pc' := 8) rfl ?_
  refine cj_iconst (v := 1) dX7_readCase_8 (by decide) ?_
  refine cj_isub dX7_readCase_9 ?_
  have i1 := h.1
  replace h := h.2
  refine rm_iald (j := 25) (x := (S.2 25) (((S.1 17) - 1).toNatClampNeg)) hA rfl dX7_readCase_10 i1 rfl ?_
  refine cj_istore_n (lv' := [(1, .int ((S.2 25) (((S.1 17) - 1).toNatClampNeg))), (0, .ref mo)]) dX7_readCase_11 (by decide) rfl ?_
  refine cj_aload_n dX7_readCase_12 rfl ?_
  refine cj_pc (pc' := 13) rfl ?_
  refine cj_callV (M' := mX7_look) (d' := 0) (k' := 0) (n' := 0) (index := 134) (np := 0) (As := []) (rest := []) dX7_readCase_13 lkX7_134 mwX7_look (tR_look hA h) (by omega) rfl rfl (Nat.le_of_ble_eq_true rfl) rm_mo rfl (fun v9 G9 q2 => ?_) (fun _ _ h => absurd h id)
  obtain ⟨x3, S4, e8, e9, h⟩ := q2
  subst e8
  subst e9
  refine cj_st (st' := [.int x3]) rfl ?_
  refine cj_istore_n (lv' := [(2, .int x3), (1, .int ((S.2 25) (((S.1 17) - 1).toNatClampNeg))), (0, .ref mo)]) dX7_readCase_16 (by decide) rfl ?_
  refine cj_iload_n dX7_readCase_17 rfl ?_
  refine cj_callS (M' := mX7_isConstructor) (d' := 0) (k' := 0) (n' := 0) (index := 131) (np := 1) (As := [.int x3]) (rest := []) dX7_readCase_18 lkX7_131 mwX7_isConstructor (tR_isConstructor h) (by omega) rfl rfl (Nat.le_of_ble_eq_true rfl) (fun v9 G9 q5 => ?_) (fun _ _ h => absurd h id)
  obtain ⟨x6, e8, e9, h⟩ := q5
  subst e8
  subst e9
  refine cj_st (st' := [.int x6]) rfl ?_
  refine cj_if_ne (tgt := 29) dX7_readCase_21 (by decide) (fun c7 => ?_) (fun c7 => ?_)
  · replace h := h.1 c7
    refine cj_iconst (v := 1) dX7_readCase_29 (by decide) ?_
    refine cj_pc (pc' := 30) rfl ?_
    refine cj_istore_n (lv' := [(3, .int 1), (2, .int x3), (1, .int ((S.2 25) (((S.1 17) - 1).toNatClampNeg))), (0, .ref mo)]) dX7_readCase_30 (by decide) rfl ?_
    obtain ⟨n9, h⟩ := h
    refine cj_sub (lv' := [(1, .int ((S.2 25) (((S.1 17) - 1).toNatClampNeg))), (2, .int x3), (3, .int 1), (0, .ref mo)]) (by simp) ?_
    refine wl_readCase_31_ok hA (by omega) _ _ ?_ n9 _ _ h
    clear h
    intro w16 S15 h
    refine cj_aload_n dX7_readCase_70 rfl ?_
    refine cj_pc (pc' := 71) rfl ?_
    refine rm_get (.int (S15.1 6)) flX7_138 dX7_readCase_71 rfl ?_
    refine cj_if_eq (tgt := 78) dX7_readCase_74 (by decide) (fun c17 => ?_) (fun c17 => ?_)
    · replace h := h.1 c17
      refine cj_aload_n dX7_readCase_78 rfl ?_
      refine cj_dup dX7_readCase_79 rfl ?_
      refine rm_get (.int (S15.1 5)) flX7_118 dX7_readCase_80 rfl ?_
      refine cj_pc (pc' := 83) rfl ?_
      refine cj_iconst (v := 1) dX7_readCase_83 (by decide) ?_
      refine cj_iadd dX7_readCase_84 ?_
      refine rm_put flX7_118 dX7_readCase_85 rmp_5 rfl rfl (by decide) ?_
      refine cj_aload_n dX7_readCase_88 rfl ?_
      refine cj_bipush (v := 9) dX7_readCase_89 (by decide) ?_
      refine cj_pc (pc' := 91) rfl ?_
      refine cj_iload_n dX7_readCase_91 rfl ?_
      refine cj_bipush (v := 65) dX7_readCase_92 (by decide) ?_
      refine cj_isub dX7_readCase_94 ?_
      refine cj_callV (M' := mX7_node) (d' := 0) (k' := 0) (n' := 0) (index := 180) (np := 2) (As := [.int 9, .int (x3 - 65)]) (rest := []) dX7_readCase_95 lkX7_180 mwX7_node (tR_node hA h) (by omega) rfl rfl (Nat.le_of_ble_eq_true rfl) rm_mo rfl (fun v9 G9 q18 => ?_) (fun _ _ h => absurd h id)
      obtain ⟨x19, S20, e8, e9, h⟩ := q18
      subst e8
      subst e9
      refine cj_st (st' := [.int x19]) rfl ?_
      refine cj_istore_n (lv' := [(3, .int x19), (1, .int ((S.2 25) (((S.1 17) - 1).toNatClampNeg))), (2, .int x3), (0, .ref mo)]) dX7_readCase_98 (by decide) rfl ?_
      refine cj_pc (pc' := 99) rfl ?_
      refine cj_aload_n dX7_readCase_99 rfl ?_
      refine cj_iload_n dX7_readCase_100 rfl ?_
      refine cj_iload_n dX7_readCase_101 rfl ?_
      refine cj_callV (M' := mX7_addChild) (d' := 0) (k' := 0) (n' := 0) (index := 194) (np := 2) (As := [.int ((S.2 25) (((S.1 17) - 1).toNatClampNeg)), .int x19]) (rest := []) dX7_readCase_102 lkX7_194 mwX7_addChild (tR_addChild hA h) (by omega) rfl rfl (Nat.le_of_ble_eq_true rfl) rm_mo rfl (fun v9 G9 q21 => ?_) (fun _ _ h => absurd h id)
      obtain ⟨S22, e8, e9, h⟩ := q21
      subst e8
      subst e9
      refine cj_st (st' := []) rfl ?_
      refine cj_aload_n dX7_readCase_105 rfl ?_
      refine cj_pc (pc' := 106) rfl ?_
      refine rm_get (.int (S22.1 15)) flX7_145 dX7_readCase_106 rfl ?_
      refine cj_istore (lv' := [(4, .int (S22.1 15)), (3, .int x19), (1, .int ((S.2 25) (((S.1 17) - 1).toNatClampNeg))), (2, .int x3), (0, .ref mo)]) dX7_readCase_109 (by decide) rfl ?_
      refine cj_iconst (v := 0) dX7_readCase_111 (by decide) ?_
      refine cj_istore (lv' := [(5, .int 0), (4, .int (S22.1 15)), (3, .int x19), (1, .int ((S.2 25) (((S.1 17) - 1).toNatClampNeg))), (2, .int x3), (0, .ref mo)]) dX7_readCase_112 (by decide) rfl ?_
      obtain ⟨n9, h⟩ := h
      refine cj_sub (lv' := [(1, .int ((S.2 25) (((S.1 17) - 1).toNatClampNeg))), (2, .int x3), (3, .int x19), (4, .int (S22.1 15)), (5, .int 0), (0, .ref mo)]) (by simp) ?_
      refine wl_readCase_114_ok hA (by omega) _ _ _ _ ?_ n9 _ _ h
      clear h
      intro w41 S40 h
      refine cj_aload_n dX7_readCase_197 rfl ?_
      refine rm_get (.int (S40.1 6)) flX7_138 dX7_readCase_198 rfl ?_
      refine cj_if_ne (tgt := 210) dX7_readCase_201 (by decide) (fun c42 => ?_) (fun c42 => ?_)
      · replace h := h.1 c42
        refine cj_aload_n dX7_readCase_210 rfl ?_
        refine cj_pc (pc' := 211) rfl ?_
        refine cj_iconst (v := 5) dX7_readCase_211 (by decide) ?_
        refine cj_iload_n dX7_readCase_212 rfl ?_
        refine cj_callV (M' := mX7_begin) (d' := 0) (k' := 0) (n' := 0) (index := 174) (np := 2) (As := [.int 5, .int x19]) (rest := []) dX7_readCase_213 lkX7_174 mwX7_begin (tR_begin hA h) (by omega) rfl rfl (Nat.le_of_ble_eq_true rfl) rm_mo rfl (fun v9 G9 q43 => ?_) (fun _ _ h => absurd h id)
        obtain ⟨S44, e8, e9, h⟩ := q43
        subst e8
        subst e9
        refine cj_st (st' := []) rfl ?_
        refine cj_aload_n dX7_readCase_216 rfl ?_
        refine rm_get (.int (S44.1 6)) flX7_138 dX7_readCase_217 rfl ?_
        refine cj_pc (pc' := 220) rfl ?_
        refine cj_if_ne (tgt := 236) dX7_readCase_220 (by decide) (fun c45 => ?_) (fun c45 => ?_)
        · replace h := h.1 c45
          refine cj_vret rfl dX7_readCase_236 ?_
          exact ⟨_, rfl, rfl, h⟩
        · replace h := h.2 c45
          refine cj_aload_n dX7_readCase_223 rfl ?_
          refine rm_get (.ref (ad 20)) flX7_49 dX7_readCase_224 rfl ?_
          refine cj_aload_n dX7_readCase_227 rfl ?_
          refine cj_pc (pc' := 228) rfl ?_
          refine rm_get (.int (S44.1 17)) flX7_148 dX7_readCase_228 rfl ?_
          refine cj_iconst (v := 1) dX7_readCase_231 (by decide) ?_
          refine cj_isub dX7_readCase_232 ?_
          refine cj_iload dX7_readCase_233 rfl ?_
          have i46 := h.1
          replace h := h.2
          refine rm_iast (j := 20) hA rfl dX7_readCase_235 i46 ?_
          refine cj_pc (pc' := 236) rfl ?_
          refine cj_vret rfl dX7_readCase_236 ?_
          exact ⟨_, rfl, rfl, h⟩
      · replace h := h.2 c42
        refine cj_aload_n dX7_readCase_204 rfl ?_
        refine cj_bipush (v := 58) dX7_readCase_205 (by decide) ?_
        refine cj_callV (M' := mX7_want) (d' := 1) (k' := 0) (n' := 0) (index := 184) (np := 1) (As := [.int 58]) (rest := []) dX7_readCase_207 lkX7_184 mwX7_want (tR_want hA h) (by omega) rfl rfl (Nat.le_of_ble_eq_true rfl) rm_mo rfl (fun v9 G9 q47 => ?_) (fun _ _ h => absurd h id)
        obtain ⟨S48, e8, e9, h⟩ := q47
        subst e8
        subst e9
        refine cj_st (st' := []) rfl ?_
        refine cj_aload_n dX7_readCase_210 rfl ?_
        refine cj_pc (pc' := 211) rfl ?_
        refine cj_iconst (v := 5) dX7_readCase_211 (by decide) ?_
        refine cj_iload_n dX7_readCase_212 rfl ?_
        refine cj_callV (M' := mX7_begin) (d' := 0) (k' := 0) (n' := 0) (index := 174) (np := 2) (As := [.int 5, .int x19]) (rest := []) dX7_readCase_213 lkX7_174 mwX7_begin (tR_begin hA h) (by omega) rfl rfl (Nat.le_of_ble_eq_true rfl) rm_mo rfl (fun v9 G9 q49 => ?_) (fun _ _ h => absurd h id)
        obtain ⟨S50, e8, e9, h⟩ := q49
        subst e8
        subst e9
        refine cj_st (st' := []) rfl ?_
        refine cj_aload_n dX7_readCase_216 rfl ?_
        refine rm_get (.int (S50.1 6)) flX7_138 dX7_readCase_217 rfl ?_
        refine cj_pc (pc' := 220) rfl ?_
        refine cj_if_ne (tgt := 236) dX7_readCase_220 (by decide) (fun c51 => ?_) (fun c51 => ?_)
        · replace h := h.1 c51
          refine cj_vret rfl dX7_readCase_236 ?_
          exact ⟨_, rfl, rfl, h⟩
        · replace h := h.2 c51
          refine cj_aload_n dX7_readCase_223 rfl ?_
          refine rm_get (.ref (ad 20)) flX7_49 dX7_readCase_224 rfl ?_
          refine cj_aload_n dX7_readCase_227 rfl ?_
          refine cj_pc (pc' := 228) rfl ?_
          refine rm_get (.int (S50.1 17)) flX7_148 dX7_readCase_228 rfl ?_
          refine cj_iconst (v := 1) dX7_readCase_231 (by decide) ?_
          refine cj_isub dX7_readCase_232 ?_
          refine cj_iload dX7_readCase_233 rfl ?_
          have i52 := h.1
          replace h := h.2
          refine rm_iast (j := 20) hA rfl dX7_readCase_235 i52 ?_
          refine cj_pc (pc' := 236) rfl ?_
          refine cj_vret rfl dX7_readCase_236 ?_
          exact ⟨_, rfl, rfl, h⟩
    · replace h := h.2 c17
      refine cj_vret rfl dX7_readCase_77 ?_
      exact ⟨_, rfl, rfl, h⟩
  · replace h := h.2 c7
    refine cj_aload_n dX7_readCase_24 rfl ?_
    refine cj_iconst (v := 1) dX7_readCase_25 (by decide) ?_
    refine rm_put flX7_138 dX7_readCase_26 rmp_6 rfl rfl (by decide) ?_
    refine cj_pc (pc' := 29) rfl ?_
    refine cj_iconst (v := 1) dX7_readCase_29 (by decide) ?_
    refine cj_istore_n (lv' := [(3, .int 1), (2, .int x3), (1, .int ((S.2 25) (((S.1 17) - 1).toNatClampNeg))), (0, .ref mo)]) dX7_readCase_30 (by decide) rfl ?_
    obtain ⟨n9, h⟩ := h
    refine cj_sub (lv' := [(1, .int ((S.2 25) (((S.1 17) - 1).toNatClampNeg))), (2, .int x3), (3, .int 1), (0, .ref mo)]) (by simp) ?_
    refine wl_readCase_31_ok hA (by omega) _ _ ?_ n9 _ _ h
    clear h
    intro w54 S53 h
    refine cj_aload_n dX7_readCase_70 rfl ?_
    refine rm_get (.int (S53.1 6)) flX7_138 dX7_readCase_71 rfl ?_
    refine cj_if_eq (tgt := 78) dX7_readCase_74 (by decide) (fun c55 => ?_) (fun c55 => ?_)
    · replace h := h.1 c55
      refine cj_aload_n dX7_readCase_78 rfl ?_
      refine cj_pc (pc' := 79) rfl ?_
      refine cj_dup dX7_readCase_79 rfl ?_
      refine rm_get (.int (S53.1 5)) flX7_118 dX7_readCase_80 rfl ?_
      refine cj_iconst (v := 1) dX7_readCase_83 (by decide) ?_
      refine cj_iadd dX7_readCase_84 ?_
      refine rm_put flX7_118 dX7_readCase_85 rmp_5 rfl rfl (by decide) ?_
      refine cj_pc (pc' := 88) rfl ?_
      refine cj_aload_n dX7_readCase_88 rfl ?_
      refine cj_bipush (v := 9) dX7_readCase_89 (by decide) ?_
      refine cj_iload_n dX7_readCase_91 rfl ?_
      refine cj_bipush (v := 65) dX7_readCase_92 (by decide) ?_
      refine cj_isub dX7_readCase_94 ?_
      refine cj_pc (pc' := 95) rfl ?_
      refine cj_callV (M' := mX7_node) (d' := 0) (k' := 0) (n' := 0) (index := 180) (np := 2) (As := [.int 9, .int (x3 - 65)]) (rest := []) dX7_readCase_95 lkX7_180 mwX7_node (tR_node hA h) (by omega) rfl rfl (Nat.le_of_ble_eq_true rfl) rm_mo rfl (fun v9 G9 q56 => ?_) (fun _ _ h => absurd h id)
      obtain ⟨x57, S58, e8, e9, h⟩ := q56
      subst e8
      subst e9
      refine cj_st (st' := [.int x57]) rfl ?_
      refine cj_istore_n (lv' := [(3, .int x57), (1, .int ((S.2 25) (((S.1 17) - 1).toNatClampNeg))), (2, .int x3), (0, .ref mo)]) dX7_readCase_98 (by decide) rfl ?_
      refine cj_aload_n dX7_readCase_99 rfl ?_
      refine cj_iload_n dX7_readCase_100 rfl ?_
      refine cj_iload_n dX7_readCase_101 rfl ?_
      refine cj_pc (pc' := 102) rfl ?_
      refine cj_callV (M' := mX7_addChild) (d' := 0) (k' := 0) (n' := 0) (index := 194) (np := 2) (As := [.int ((S.2 25) (((S.1 17) - 1).toNatClampNeg)), .int x57]) (rest := []) dX7_readCase_102 lkX7_194 mwX7_addChild (tR_addChild hA h) (by omega) rfl rfl (Nat.le_of_ble_eq_true rfl) rm_mo rfl (fun v9 G9 q59 => ?_) (fun _ _ h => absurd h id)
      obtain ⟨S60, e8, e9, h⟩ := q59
      subst e8
      subst e9
      refine cj_st (st' := []) rfl ?_
      refine cj_aload_n dX7_readCase_105 rfl ?_
      refine rm_get (.int (S60.1 15)) flX7_145 dX7_readCase_106 rfl ?_
      refine cj_istore (lv' := [(4, .int (S60.1 15)), (3, .int x57), (1, .int ((S.2 25) (((S.1 17) - 1).toNatClampNeg))), (2, .int x3), (0, .ref mo)]) dX7_readCase_109 (by decide) rfl ?_
      refine cj_iconst (v := 0) dX7_readCase_111 (by decide) ?_
      refine cj_pc (pc' := 112) rfl ?_
      refine cj_istore (lv' := [(5, .int 0), (4, .int (S60.1 15)), (3, .int x57), (1, .int ((S.2 25) (((S.1 17) - 1).toNatClampNeg))), (2, .int x3), (0, .ref mo)]) dX7_readCase_112 (by decide) rfl ?_
      obtain ⟨n9, h⟩ := h
      refine cj_sub (lv' := [(1, .int ((S.2 25) (((S.1 17) - 1).toNatClampNeg))), (2, .int x3), (3, .int x57), (4, .int (S60.1 15)), (5, .int 0), (0, .ref mo)]) (by simp) ?_
      refine wl_readCase_114_ok hA (by omega) _ _ _ _ ?_ n9 _ _ h
      clear h
      intro w62 S61 h
      refine cj_aload_n dX7_readCase_197 rfl ?_
      refine rm_get (.int (S61.1 6)) flX7_138 dX7_readCase_198 rfl ?_
      refine cj_if_ne (tgt := 210) dX7_readCase_201 (by decide) (fun c63 => ?_) (fun c63 => ?_)
      · replace h := h.1 c63
        refine cj_aload_n dX7_readCase_210 rfl ?_
        refine cj_pc (pc' := 211) rfl ?_
        refine cj_iconst (v := 5) dX7_readCase_211 (by decide) ?_
        refine cj_iload_n dX7_readCase_212 rfl ?_
        refine cj_callV (M' := mX7_begin) (d' := 0) (k' := 0) (n' := 0) (index := 174) (np := 2) (As := [.int 5, .int x57]) (rest := []) dX7_readCase_213 lkX7_174 mwX7_begin (tR_begin hA h) (by omega) rfl rfl (Nat.le_of_ble_eq_true rfl) rm_mo rfl (fun v9 G9 q64 => ?_) (fun _ _ h => absurd h id)
        obtain ⟨S65, e8, e9, h⟩ := q64
        subst e8
        subst e9
        refine cj_st (st' := []) rfl ?_
        refine cj_aload_n dX7_readCase_216 rfl ?_
        refine rm_get (.int (S65.1 6)) flX7_138 dX7_readCase_217 rfl ?_
        refine cj_pc (pc' := 220) rfl ?_
        refine cj_if_ne (tgt := 236) dX7_readCase_220 (by decide) (fun c66 => ?_) (fun c66 => ?_)
        · replace h := h.1 c66
          refine cj_vret rfl dX7_readCase_236 ?_
          exact ⟨_, rfl, rfl, h⟩
        · replace h := h.2 c66
          refine cj_aload_n dX7_readCase_223 rfl ?_
          refine rm_get (.ref (ad 20)) flX7_49 dX7_readCase_224 rfl ?_
          refine cj_aload_n dX7_readCase_227 rfl ?_
          refine cj_pc (pc' := 228) rfl ?_
          refine rm_get (.int (S65.1 17)) flX7_148 dX7_readCase_228 rfl ?_
          refine cj_iconst (v := 1) dX7_readCase_231 (by decide) ?_
          refine cj_isub dX7_readCase_232 ?_
          refine cj_iload dX7_readCase_233 rfl ?_
          have i67 := h.1
          replace h := h.2
          refine rm_iast (j := 20) hA rfl dX7_readCase_235 i67 ?_
          refine cj_pc (pc' := 236) rfl ?_
          refine cj_vret rfl dX7_readCase_236 ?_
          exact ⟨_, rfl, rfl, h⟩
      · replace h := h.2 c63
        refine cj_aload_n dX7_readCase_204 rfl ?_
        refine cj_bipush (v := 58) dX7_readCase_205 (by decide) ?_
        refine cj_callV (M' := mX7_want) (d' := 1) (k' := 0) (n' := 0) (index := 184) (np := 1) (As := [.int 58]) (rest := []) dX7_readCase_207 lkX7_184 mwX7_want (tR_want hA h) (by omega) rfl rfl (Nat.le_of_ble_eq_true rfl) rm_mo rfl (fun v9 G9 q68 => ?_) (fun _ _ h => absurd h id)
        obtain ⟨S69, e8, e9, h⟩ := q68
        subst e8
        subst e9
        refine cj_st (st' := []) rfl ?_
        refine cj_aload_n dX7_readCase_210 rfl ?_
        refine cj_pc (pc' := 211) rfl ?_
        refine cj_iconst (v := 5) dX7_readCase_211 (by decide) ?_
        refine cj_iload_n dX7_readCase_212 rfl ?_
        refine cj_callV (M' := mX7_begin) (d' := 0) (k' := 0) (n' := 0) (index := 174) (np := 2) (As := [.int 5, .int x57]) (rest := []) dX7_readCase_213 lkX7_174 mwX7_begin (tR_begin hA h) (by omega) rfl rfl (Nat.le_of_ble_eq_true rfl) rm_mo rfl (fun v9 G9 q70 => ?_) (fun _ _ h => absurd h id)
        obtain ⟨S71, e8, e9, h⟩ := q70
        subst e8
        subst e9
        refine cj_st (st' := []) rfl ?_
        refine cj_aload_n dX7_readCase_216 rfl ?_
        refine rm_get (.int (S71.1 6)) flX7_138 dX7_readCase_217 rfl ?_
        refine cj_pc (pc' := 220) rfl ?_
        refine cj_if_ne (tgt := 236) dX7_readCase_220 (by decide) (fun c72 => ?_) (fun c72 => ?_)
        · replace h := h.1 c72
          refine cj_vret rfl dX7_readCase_236 ?_
          exact ⟨_, rfl, rfl, h⟩
        · replace h := h.2 c72
          refine cj_aload_n dX7_readCase_223 rfl ?_
          refine rm_get (.ref (ad 20)) flX7_49 dX7_readCase_224 rfl ?_
          refine cj_aload_n dX7_readCase_227 rfl ?_
          refine cj_pc (pc' := 228) rfl ?_
          refine rm_get (.int (S71.1 17)) flX7_148 dX7_readCase_228 rfl ?_
          refine cj_iconst (v := 1) dX7_readCase_231 (by decide) ?_
          refine cj_isub dX7_readCase_232 ?_
          refine cj_iload dX7_readCase_233 rfl ?_
          have i73 := h.1
          replace h := h.2
          refine rm_iast (j := 20) hA rfl dX7_readCase_235 i73 ?_
          refine cj_pc (pc' := 236) rfl ?_
          refine cj_vret rfl dX7_readCase_236 ?_
          exact ⟨_, rfl, rfl, h⟩
    · replace h := h.2 c55
      refine cj_vret rfl dX7_readCase_77 ?_
      exact ⟨_, rfl, rfl, h⟩
def wl_readText_41 (Q : rm_S → Prop) (K : rm_S → Prop) : Nat → rm_S → Prop
  | 0, _ => False
  | n + 1, S => ((¬ (S.1 6) = 0 → K S) ∧ ((S.1 6) = 0 → (((S.1 33) = 4 → K S) ∧ (¬ (S.1 33) = 4 → (((S.1 56) = 0 → ((¬ (S.1 33) = 0 → ((¬ (S.1 33) = 1 → ((¬ (S.1 33) = 2 → wp_readCase S (fun S10 => wl_readText_41 Q K n S10)) ∧ ((S.1 33) = 2 → wp_readBehind S (fun S12 => wl_readText_41 Q K n S12)))) ∧ ((S.1 33) = 1 → wp_readAtom S (fun S14 => wl_readText_41 Q K n S14)))) ∧ ((S.1 33) = 0 → wp_readHead S (fun S16 => wl_readText_41 Q K n S16)))) ∧ (¬ (S.1 56) = 0 → (vp_in ((S.1 17) - 1) 8 ∧ wp_completed (rm_pf (rm_pf S 56 0) 5 ((S.1 5) + 1)) ((S.2 25) (((S.1 17) - 1).toNatClampNeg)) (fun S19 => wl_readText_41 Q K n S19))))))))
def wp_readText (S : rm_S) (Q : rm_S → Prop) : Prop := wp_begin (rm_pf (rm_pf (rm_pf (rm_pf (rm_pf (rm_pf (rm_pf S 8 0) 15 0) 17 0) 26 0) 29 0) 31 0) 56 0) 0 (-1) (fun S2 => (∃ n9 : Nat, wl_readText_41 Q (fun S20 => Q S20) n9 S2))
set_option maxHeartbeats 4000000 in
set_option maxRecDepth 100000 in
theorem wl_readText_41_ok {mo : Nat} {ad : Nat → Nat} (hA : rm_A mo ad) {G0 : cj_G} {d k0 n0 k n9 : Nat} (hd9 : 5 ≤ d) {Q : rm_S → Prop} {K : rm_S → Prop} (hK : ∀ (S : rm_S), K S → cj_J mX7_readText d k0 n0 (rm_post mo ad G0 Q) cj_no k n9 147 [(0, .ref mo)] [] (rm_md mo ad S G0)) : ∀ (n : Nat) (S : rm_S), wl_readText_41 Q K n S → cj_J mX7_readText d k0 n0 (rm_post mo ad G0 Q) cj_no k n9 41 [(0, .ref mo)] [] (rm_md mo ad S G0) := by
  intro n
  induction n with
  | zero => intro S h; exact absurd h id
  | succ n ih =>
    intro S h
    unfold wl_readText_41 at h
    refine cj_aload_n dX7_readText_41 rfl ?_
    refine rm_get (.int (S.1 6)) flX7_138 dX7_readText_42 rfl ?_
    refine cj_if_ne (tgt := 147) dX7_readText_45 (by decide) (fun c3 => ?_) (fun c3 => ?_)
    · replace h := h.1 c3
      refine cj_sub (lv' := [(0, .ref mo)]) (by simp) ?_
      exact hK _ h
    · replace h := h.2 c3
      refine cj_aload_n dX7_readText_48 rfl ?_
      refine cj_pc (pc' := 49) rfl ?_
      refine rm_get (.int (S.1 33)) flX7_157 dX7_readText_49 rfl ?_
      refine cj_iconst (v := 4) dX7_readText_52 (by decide) ?_
      refine cj_icmp_eq (tgt := 147) dX7_readText_53 (by decide) (fun c4 => ?_) (fun c4 => ?_)
      · replace h := h.1 c4
        refine cj_sub (lv' := [(0, .ref mo)]) (by simp) ?_
        exact hK _ h
      · replace h := h.2 c4
        refine cj_aload_n dX7_readText_56 rfl ?_
        refine rm_get (.int (S.1 56)) flX7_232 dX7_readText_57 rfl ?_
        refine cj_pc (pc' := 60) rfl ?_
        refine cj_if_eq (tgt := 96) dX7_readText_60 (by decide) (fun c5 => ?_) (fun c5 => ?_)
        · replace h := h.1 c5
          refine cj_aload_n dX7_readText_96 rfl ?_
          refine rm_get (.int (S.1 33)) flX7_157 dX7_readText_97 rfl ?_
          refine cj_if_ne (tgt := 110) dX7_readText_100 (by decide) (fun c6 => ?_) (fun c6 => ?_)
          · replace h := h.1 c6
            refine cj_aload_n dX7_readText_110 rfl ?_
            refine cj_pc (pc' := 111) rfl ?_
            refine rm_get (.int (S.1 33)) flX7_157 dX7_readText_111 rfl ?_
            refine cj_iconst (v := 1) dX7_readText_114 (by decide) ?_
            refine cj_icmp_ne (tgt := 125) dX7_readText_115 (by decide) (fun c7 => ?_) (fun c7 => ?_)
            · replace h := h.1 c7
              refine cj_aload_n dX7_readText_125 rfl ?_
              refine rm_get (.int (S.1 33)) flX7_157 dX7_readText_126 rfl ?_
              refine cj_pc (pc' := 129) rfl ?_
              refine cj_iconst (v := 2) dX7_readText_129 (by decide) ?_
              refine cj_icmp_ne (tgt := 140) dX7_readText_130 (by decide) (fun c8 => ?_) (fun c8 => ?_)
              · replace h := h.1 c8
                refine cj_aload_n dX7_readText_140 rfl ?_
                refine cj_callV (M' := mX7_readCase) (d' := 2) (k' := 0) (n' := 0) (index := 244) (np := 0) (As := []) (rest := []) dX7_readText_141 lkX7_244 mwX7_readCase (tR_readCase hA h) (by omega) rfl rfl (Nat.le_of_ble_eq_true rfl) rm_mo rfl (fun v9 G9 q9 => ?_) (fun _ _ h => absurd h id)
                obtain ⟨S10, e8, e9, h⟩ := q9
                subst e8
                subst e9
                refine cj_st (st' := []) rfl ?_
                refine cj_goto (tgt := 41) dX7_readText_144 (by decide) ?_
                refine cj_sub (lv' := [(0, .ref mo)]) (by simp) ?_
                exact ih _ h
              · replace h := h.2 c8
                refine cj_aload_n dX7_readText_133 rfl ?_
                refine cj_pc (pc' := 134) rfl ?_
                refine cj_callV (M' := mX7_readBehind) (d' := 4) (k' := 0) (n' := 0) (index := 241) (np := 0) (As := []) (rest := []) dX7_readText_134 lkX7_241 mwX7_readBehind (tR_readBehind hA h) (by omega) rfl rfl (Nat.le_of_ble_eq_true rfl) rm_mo rfl (fun v9 G9 q11 => ?_) (fun _ _ h => absurd h id)
                obtain ⟨S12, e8, e9, h⟩ := q11
                subst e8
                subst e9
                refine cj_st (st' := []) rfl ?_
                refine cj_goto (tgt := 41) dX7_readText_137 (by decide) ?_
                refine cj_sub (lv' := [(0, .ref mo)]) (by simp) ?_
                exact ih _ h
            · replace h := h.2 c7
              refine cj_aload_n dX7_readText_118 rfl ?_
              refine cj_callV (M' := mX7_readAtom) (d' := 2) (k' := 0) (n' := 0) (index := 238) (np := 0) (As := []) (rest := []) dX7_readText_119 lkX7_238 mwX7_readAtom (tR_readAtom hA h) (by omega) rfl rfl (Nat.le_of_ble_eq_true rfl) rm_mo rfl (fun v9 G9 q13 => ?_) (fun _ _ h => absurd h id)
              obtain ⟨S14, e8, e9, h⟩ := q13
              subst e8
              subst e9
              refine cj_st (st' := []) rfl ?_
              refine cj_goto (tgt := 41) dX7_readText_122 (by decide) ?_
              refine cj_sub (lv' := [(0, .ref mo)]) (by simp) ?_
              exact ih _ h
          · replace h := h.2 c6
            refine cj_aload_n dX7_readText_103 rfl ?_
            refine cj_pc (pc' := 104) rfl ?_
            refine cj_callV (M' := mX7_readHead) (d' := 3) (k' := 0) (n' := 0) (index := 235) (np := 0) (As := []) (rest := []) dX7_readText_104 lkX7_235 mwX7_readHead (tR_readHead hA h) (by omega) rfl rfl (Nat.le_of_ble_eq_true rfl) rm_mo rfl (fun v9 G9 q15 => ?_) (fun _ _ h => absurd h id)
            obtain ⟨S16, e8, e9, h⟩ := q15
            subst e8
            subst e9
            refine cj_st (st' := []) rfl ?_
            refine cj_goto (tgt := 41) dX7_readText_107 (by decide) ?_
            refine cj_sub (lv' := [(0, .ref mo)]) (by simp) ?_
            exact ih _ h
        · replace h := h.2 c5
          refine cj_aload_n dX7_readText_63 rfl ?_
          refine cj_iconst (v := 0) dX7_readText_64 (by decide) ?_
          refine rm_put flX7_232 dX7_readText_65 rmp_56 rfl rfl (by decide) ?_
          refine cj_pc (pc' := 68) rfl ?_
          refine cj_aload_n dX7_readText_68 rfl ?_
          refine cj_dup dX7_readText_69 rfl ?_
          refine rm_get (.int (S.1 5)) flX7_118 dX7_readText_70 rfl ?_
          refine cj_iconst (v := 1) dX7_readText_73 (by decide) ?_
          refine cj_iadd dX7_readText_74 ?_
          refine cj_pc (pc' := 75) rfl ?_
          refine rm_put flX7_118 dX7_readText_75 rmp_5 rfl rfl (by decide) ?_
          refine cj_aload_n dX7_readText_78 rfl ?_
          refine cj_aload_n dX7_readText_79 rfl ?_
          refine rm_get (.ref (ad 25)) flX7_64 dX7_readText_80 rfl ?_
          refine cj_aload_n dX7_readText_83 rfl ?_
          refine cj_pc (pc' := 84) rfl ?_
          refine rm_get (.int (S.1 17)) flX7_148 dX7_readText_84 rfl ?_
          refine cj_iconst (v := 1) dX7_readText_87 (by decide) ?_
          refine cj_isub dX7_readText_88 ?_
          have i17 := h.1
          replace h := h.2
          refine rm_iald (j := 25) (x := (S.2 25) (((S.1 17) - 1).toNatClampNeg)) hA rfl dX7_readText_89 i17 rfl ?_
          refine cj_callV (M' := mX7_completed) (d' := 3) (k' := 0) (n' := 0) (index := 217) (np := 1) (As := [.int ((S.2 25) (((S.1 17) - 1).toNatClampNeg))]) (rest := []) dX7_readText_90 lkX7_217 mwX7_completed (tR_completed hA h) (by omega) rfl rfl (Nat.le_of_ble_eq_true rfl) rm_mo rfl (fun v9 G9 q18 => ?_) (fun _ _ h => absurd h id)
          obtain ⟨S19, e8, e9, h⟩ := q18
          subst e8
          subst e9
          refine cj_st (st' := []) rfl ?_
          refine cj_pc (pc' := 93) rfl ?_
          refine cj_goto (tgt := 41) dX7_readText_93 (by decide) ?_
          refine cj_sub (lv' := [(0, .ref mo)]) (by simp) ?_
          exact ih _ h
set_option maxHeartbeats 4000000 in
set_option maxRecDepth 100000 in
theorem tR_readText {mo : Nat} {ad : Nat → Nat} (hA : rm_A mo ad) {G0 : cj_G} {S : rm_S} {Q : rm_S → Prop} (h : wp_readText S Q) : cj_T mX7_readText 5 0 0 [.ref mo] (rm_md mo ad S G0) (rm_post mo ad G0 Q) cj_no := by
  refine cj_T_of (by decide +kernel) (Nat.le_of_ble_eq_true rfl) ?_
  refine cj_lvs (lv' := [(0, .ref mo)]) rfl ?_
  unfold wp_readText at h
  refine cj_aload_n dX7_readText_0 rfl ?_
  refine cj_iconst (v := 0) dX7_readText_1 (by decide) ?_
  refine rm_put flX7_142 dX7_readText_2 rmp_8 rfl rfl (by decide) ?_
  refine cj_aload_n dX7_readText_5 rfl ?_
  refine cj_pc (pc' := 6) rfl ?_
  refine cj_iconst (v := 0) dX7_readText_6 (by decide) ?_
  refine rm_put flX7_145 dX7_readText_7 rmp_15 rfl rfl (by decide) ?_
  refine cj_aload_n dX7_readText_10 rfl ?_
  refine cj_iconst (v := 0) dX7_readText_11 (by decide) ?_
  refine rm_put flX7_148 dX7_readText_12 rmp_17 rfl rfl (by decide) ?_
  refine cj_pc (pc' := 15) rfl ?_
  refine cj_aload_n dX7_readText_15 rfl ?_
  refine cj_iconst (v := 0) dX7_readText_16 (by decide) ?_
  refine rm_put flX7_151 dX7_readText_17 rmp_26 rfl rfl (by decide) ?_
  refine cj_aload_n dX7_readText_20 rfl ?_
  refine cj_iconst (v := 0) dX7_readText_21 (by decide) ?_
  refine cj_pc (pc' := 22) rfl ?_
  refine rm_put flX7_191 dX7_readText_22 rmp_29 rfl rfl (by decide) ?_
  refine cj_aload_n dX7_readText_25 rfl ?_
  refine cj_iconst (v := 0) dX7_readText_26 (by decide) ?_
  refine rm_put flX7_154 dX7_readText_27 rmp_31 rfl rfl (by decide) ?_
  refine cj_aload_n dX7_readText_30 rfl ?_
  refine cj_pc (pc' := 31) rfl ?_
  refine cj_iconst (v := 0) dX7_readText_31 (by decide) ?_
  refine rm_put flX7_232 dX7_readText_32 rmp_56 rfl rfl (by decide) ?_
  refine cj_aload_n dX7_readText_35 rfl ?_
  refine cj_iconst (v := 0) dX7_readText_36 (by decide) ?_
  refine cj_iconst (v := (-1)) dX7_readText_37 (by decide) ?_
  refine cj_pc (pc' := 38) rfl ?_
  refine cj_callV (M' := mX7_begin) (d' := 0) (k' := 0) (n' := 0) (index := 174) (np := 2) (As := [.int 0, .int (-1)]) (rest := []) dX7_readText_38 lkX7_174 mwX7_begin (tR_begin hA h) (by omega) rfl rfl (Nat.le_of_ble_eq_true rfl) rm_mo rfl (fun v9 G9 q1 => ?_) (fun _ _ h => absurd h id)
  obtain ⟨S2, e8, e9, h⟩ := q1
  subst e8
  subst e9
  refine cj_st (st' := []) rfl ?_
  obtain ⟨n9, h⟩ := h
  refine cj_sub (lv' := [(0, .ref mo)]) (by simp) ?_
  refine wl_readText_41_ok hA (by omega) ?_ n9 _ h
  clear h
  intro S20 h
  refine cj_vret rfl dX7_readText_147 ?_
  exact ⟨_, rfl, rfl, h⟩
