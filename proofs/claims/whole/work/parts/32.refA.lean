/-! THE REFERENCE, by program: wp_<method>: what must hold so that it comes to its end with Q; tR_<method>: its contract -/
def wp_thrown (S : rm_S) (Q : Int32 → rm_S → Prop) : Prop := Q (S.1 0) S
set_option maxHeartbeats 4000000 in
set_option maxRecDepth 100000 in
theorem tR_thrown {mo : Nat} {ad : Nat → Nat} (hA : rm_A mo ad) {G0 : cj_G} {S : rm_S} {Q : Int32 → rm_S → Prop} (h : wp_thrown S Q) : cj_T mX7_thrown 0 0 0 [.ref mo] (rm_md mo ad S G0) (rm_posti mo ad G0 Q) cj_no := by
  refine cj_T_of (by decide +kernel) (Nat.le_of_ble_eq_true rfl) ?_
  refine cj_lvs (lv' := [(0, .ref mo)]) rfl ?_
  unfold wp_thrown at h
  refine cj_aload_n dX7_thrown_0 rfl ?_
  refine rm_get (.int (S.1 0)) flX7_112 dX7_thrown_1 rfl ?_
  refine cj_iret rfl dX7_thrown_4 ?_
  exact ⟨_, _, rfl, rfl, h⟩
def wp_fail (S : rm_S) (a1 : Int32) (Q : Int32 → rm_S → Prop) : Prop := Q 0 (rm_pf S 0 a1)
set_option maxHeartbeats 4000000 in
set_option maxRecDepth 100000 in
theorem tR_fail {mo : Nat} {ad : Nat → Nat} (hA : rm_A mo ad) {G0 : cj_G} {S : rm_S} {a1 : Int32} {Q : Int32 → rm_S → Prop} (h : wp_fail S a1 Q) : cj_T mX7_fail 0 0 0 [.ref mo, .int a1] (rm_md mo ad S G0) (rm_posti mo ad G0 Q) cj_no := by
  refine cj_T_of (by decide +kernel) (Nat.le_of_ble_eq_true rfl) ?_
  refine cj_lvs (lv' := [(0, .ref mo), (1, .int a1)]) rfl ?_
  unfold wp_fail at h
  refine cj_aload_n dX7_fail_0 rfl ?_
  refine cj_iload_n dX7_fail_1 rfl ?_
  refine rm_put flX7_112 dX7_fail_2 rmp_0 rfl rfl (by decide) ?_
  refine cj_iconst (v := 0) dX7_fail_5 (by decide) ?_
  refine cj_pc (pc' := 6) rfl ?_
  refine cj_iret rfl dX7_fail_6 ?_
  exact ⟨_, _, rfl, rfl, h⟩
def wp_write (S : rm_S) (a1 : Int32) (Q : Int32 → rm_S → Prop) : Prop := ((a1 < 32 → Q 0 (rm_pf S 0 0)) ∧ (¬ a1 < 32 → ((126 < a1 → Q 0 (rm_pf S 0 0)) ∧ (¬ 126 < a1 → ((¬ (S.1 1) = 90 → (vp_in (S.1 1) 90 ∧ Q 1 (rm_pf (rm_pa (rm_pf S 0 0) 2 ((S.1 1).toNatClampNeg) (vp_nar .char a1)) 1 ((S.1 1) + 1)))) ∧ ((S.1 1) = 90 → Q 0 (rm_pf S 0 0)))))))
set_option maxHeartbeats 4000000 in
set_option maxRecDepth 100000 in
theorem tR_write {mo : Nat} {ad : Nat → Nat} (hA : rm_A mo ad) {G0 : cj_G} {S : rm_S} {a1 : Int32} {Q : Int32 → rm_S → Prop} (h : wp_write S a1 Q) : cj_T mX7_write 0 0 0 [.ref mo, .int a1] (rm_md mo ad S G0) (rm_posti mo ad G0 Q) cj_no := by
  refine cj_T_of (by decide +kernel) (Nat.le_of_ble_eq_true rfl) ?_
  refine cj_lvs (lv' := [(0, .ref mo), (1, .int a1)]) rfl ?_
  unfold wp_write at h
  refine cj_aload_n dX7_write_0 rfl ?_
  refine cj_iconst (v := 0) dX7_write_1 (by decide) ?_
  refine rm_put flX7_112 dX7_write_2 rmp_0 rfl rfl (by decide) ?_
  refine cj_iload_n dX7_write_5 rfl ?_
  refine cj_pc (pc' := 6) rfl ?_
  refine cj_bipush (v := 32) dX7_write_6 (by decide) ?_
  refine cj_icmp_lt (tgt := 26) dX7_write_8 (by decide) (fun c1 => ?_) (fun c1 => ?_)
  · replace h := h.1 c1
    refine cj_iconst (v := 0) dX7_write_26 (by decide) ?_
    refine cj_zret rfl rfl dX7_write_27 ?_
    exact ⟨_, _, rfl, rfl, h⟩
  · replace h := h.2 c1
    refine cj_iload_n dX7_write_11 rfl ?_
    refine cj_pc (pc' := 12) rfl ?_
    refine cj_bipush (v := 126) dX7_write_12 (by decide) ?_
    refine cj_icmp_gt (tgt := 26) dX7_write_14 (by decide) (fun c2 => ?_) (fun c2 => ?_)
    · replace h := h.1 c2
      refine cj_iconst (v := 0) dX7_write_26 (by decide) ?_
      refine cj_zret rfl rfl dX7_write_27 ?_
      exact ⟨_, _, rfl, rfl, h⟩
    · replace h := h.2 c2
      refine cj_aload_n dX7_write_17 rfl ?_
      refine cj_pc (pc' := 18) rfl ?_
      refine rm_get (.int (S.1 1)) flX7_115 dX7_write_18 rfl ?_
      refine cj_bipush (v := 90) dX7_write_21 (by decide) ?_
      refine cj_icmp_ne (tgt := 28) dX7_write_23 (by decide) (fun c3 => ?_) (fun c3 => ?_)
      · replace h := h.1 c3
        refine cj_aload_n dX7_write_28 rfl ?_
        refine rm_get (.ref (ad 2)) flX7_7 dX7_write_29 rfl ?_
        refine cj_pc (pc' := 32) rfl ?_
        refine cj_aload_n dX7_write_32 rfl ?_
        refine rm_get (.int (S.1 1)) flX7_115 dX7_write_33 rfl ?_
        refine cj_iload_n dX7_write_36 rfl ?_
        have i4 := h.1
        replace h := h.2
        refine rm_cast (j := 2) hA rfl dX7_write_37 i4 ?_
        refine cj_aload_n dX7_write_38 rfl ?_
        refine cj_pc (pc' := 39) rfl ?_
        refine cj_dup dX7_write_39 rfl ?_
        refine rm_get (.int (S.1 1)) flX7_115 dX7_write_40 rfl ?_
        refine cj_iconst (v := 1) dX7_write_43 (by decide) ?_
        refine cj_iadd dX7_write_44 ?_
        refine rm_put flX7_115 dX7_write_45 rmp_1 rfl rfl (by decide) ?_
        refine cj_pc (pc' := 48) rfl ?_
        refine cj_iconst (v := 1) dX7_write_48 (by decide) ?_
        refine cj_zret rfl rfl dX7_write_49 ?_
        exact ⟨_, _, rfl, rfl, h⟩
      · replace h := h.2 c3
        refine cj_iconst (v := 0) dX7_write_26 (by decide) ?_
        refine cj_zret rfl rfl dX7_write_27 ?_
        exact ⟨_, _, rfl, rfl, h⟩
def wp_look (S : rm_S) (Q : Int32 → rm_S → Prop) : Prop := (((S.1 3) ≤ (S.1 5) → Q 0 S) ∧ (¬ (S.1 3) ≤ (S.1 5) → (vp_in (S.1 5) 90 ∧ (rm_c ((S.2 4) ((S.1 5).toNatClampNeg)) ∧ Q ((S.2 4) ((S.1 5).toNatClampNeg)) S))))
set_option maxHeartbeats 4000000 in
set_option maxRecDepth 100000 in
theorem tR_look {mo : Nat} {ad : Nat → Nat} (hA : rm_A mo ad) {G0 : cj_G} {S : rm_S} {Q : Int32 → rm_S → Prop} (h : wp_look S Q) : cj_T mX7_look 0 0 0 [.ref mo] (rm_md mo ad S G0) (rm_posti mo ad G0 Q) cj_no := by
  refine cj_T_of (by decide +kernel) (Nat.le_of_ble_eq_true rfl) ?_
  refine cj_lvs (lv' := [(0, .ref mo)]) rfl ?_
  unfold wp_look at h
  refine cj_aload_n dX7_look_0 rfl ?_
  refine rm_get (.int (S.1 5)) flX7_118 dX7_look_1 rfl ?_
  refine cj_aload_n dX7_look_4 rfl ?_
  refine rm_get (.int (S.1 3)) flX7_121 dX7_look_5 rfl ?_
  refine cj_pc (pc' := 8) rfl ?_
  refine cj_icmp_ge (tgt := 23) dX7_look_8 (by decide) (fun c1 => ?_) (fun c1 => ?_)
  · replace h := h.1 c1
    refine cj_iconst (v := 0) dX7_look_23 (by decide) ?_
    refine cj_zret rfl rfl dX7_look_24 ?_
    exact ⟨_, _, rfl, rfl, h⟩
  · replace h := h.2 c1
    refine cj_aload_n dX7_look_11 rfl ?_
    refine rm_get (.ref (ad 4)) flX7_13 dX7_look_12 rfl ?_
    refine cj_pc (pc' := 15) rfl ?_
    refine cj_aload_n dX7_look_15 rfl ?_
    refine rm_get (.int (S.1 5)) flX7_118 dX7_look_16 rfl ?_
    have i2 := h.1
    replace h := h.2
    refine rm_cald (j := 4) (x := (S.2 4) ((S.1 5).toNatClampNeg)) hA rfl dX7_look_19 i2 rfl ?_
    refine cj_goto (tgt := 24) dX7_look_20 (by decide) ?_
    have n3 := h.1
    replace h := h.2
    refine cj_zret rfl n3 dX7_look_24 ?_
    exact ⟨_, _, rfl, rfl, h⟩
def wp_behind (S : rm_S) (Q : Int32 → rm_S → Prop) : Prop := (((S.1 3) ≤ ((S.1 5) + 1) → Q 0 S) ∧ (¬ (S.1 3) ≤ ((S.1 5) + 1) → (vp_in ((S.1 5) + 1) 90 ∧ (rm_c ((S.2 4) (((S.1 5) + 1).toNatClampNeg)) ∧ Q ((S.2 4) (((S.1 5) + 1).toNatClampNeg)) S))))
set_option maxHeartbeats 4000000 in
set_option maxRecDepth 100000 in
theorem tR_behind {mo : Nat} {ad : Nat → Nat} (hA : rm_A mo ad) {G0 : cj_G} {S : rm_S} {Q : Int32 → rm_S → Prop} (h : wp_behind S Q) : cj_T mX7_behind 0 0 0 [.ref mo] (rm_md mo ad S G0) (rm_posti mo ad G0 Q) cj_no := by
  refine cj_T_of (by decide +kernel) (Nat.le_of_ble_eq_true rfl) ?_
  refine cj_lvs (lv' := [(0, .ref mo)]) rfl ?_
  unfold wp_behind at h
  refine cj_aload_n dX7_behind_0 rfl ?_
  refine rm_get (.int (S.1 5)) flX7_118 dX7_behind_1 rfl ?_
  refine cj_iconst (v := 1) dX7_behind_4 (by decide) ?_
  refine cj_iadd dX7_behind_5 ?_
  refine cj_pc (pc' := 6) rfl ?_
  refine cj_aload_n dX7_behind_6 rfl ?_
  refine rm_get (.int (S.1 3)) flX7_121 dX7_behind_7 rfl ?_
  refine cj_icmp_ge (tgt := 27) dX7_behind_10 (by decide) (fun c1 => ?_) (fun c1 => ?_)
  · replace h := h.1 c1
    refine cj_iconst (v := 0) dX7_behind_27 (by decide) ?_
    refine cj_zret rfl rfl dX7_behind_28 ?_
    exact ⟨_, _, rfl, rfl, h⟩
  · replace h := h.2 c1
    refine cj_aload_n dX7_behind_13 rfl ?_
    refine cj_pc (pc' := 14) rfl ?_
    refine rm_get (.ref (ad 4)) flX7_13 dX7_behind_14 rfl ?_
    refine cj_aload_n dX7_behind_17 rfl ?_
    refine rm_get (.int (S.1 5)) flX7_118 dX7_behind_18 rfl ?_
    refine cj_iconst (v := 1) dX7_behind_21 (by decide) ?_
    refine cj_iadd dX7_behind_22 ?_
    refine cj_pc (pc' := 23) rfl ?_
    have i2 := h.1
    replace h := h.2
    refine rm_cald (j := 4) (x := (S.2 4) (((S.1 5) + 1).toNatClampNeg)) hA rfl dX7_behind_23 i2 rfl ?_
    refine cj_goto (tgt := 28) dX7_behind_24 (by decide) ?_
    have n3 := h.1
    replace h := h.2
    refine cj_zret rfl n3 dX7_behind_28 ?_
    exact ⟨_, _, rfl, rfl, h⟩
def wp_isName (a1 : Int32) (Q : Int32 → Prop) : Prop := ((a1 < 97 → Q 0) ∧ (¬ a1 < 97 → ((122 < a1 → Q 0) ∧ (¬ 122 < a1 → Q 1))))
set_option maxHeartbeats 4000000 in
set_option maxRecDepth 100000 in
theorem tR_isName {G0 : cj_G} {a1 : Int32} {Q : Int32 → Prop} (h : wp_isName a1 Q) : cj_T mX7_isName 0 0 0 [.int a1] G0 (rm_posts G0 Q) cj_no := by
  refine cj_T_of (by decide +kernel) (Nat.le_of_ble_eq_true rfl) ?_
  refine cj_lvs (lv' := [(0, .int a1)]) rfl ?_
  unfold wp_isName at h
  refine cj_iload_n dX7_isName_0 rfl ?_
  refine cj_bipush (v := 97) dX7_isName_1 (by decide) ?_
  refine cj_icmp_lt (tgt := 16) dX7_isName_3 (by decide) (fun c1 => ?_) (fun c1 => ?_)
  · replace h := h.1 c1
    refine cj_iconst (v := 0) dX7_isName_16 (by decide) ?_
    refine cj_pc (pc' := 17) rfl ?_
    refine cj_zret rfl rfl dX7_isName_17 ?_
    exact ⟨_, rfl, rfl, h⟩
  · replace h := h.2 c1
    refine cj_iload_n dX7_isName_6 rfl ?_
    refine cj_bipush (v := 122) dX7_isName_7 (by decide) ?_
    refine cj_icmp_gt (tgt := 16) dX7_isName_9 (by decide) (fun c2 => ?_) (fun c2 => ?_)
    · replace h := h.1 c2
      refine cj_iconst (v := 0) dX7_isName_16 (by decide) ?_
      refine cj_pc (pc' := 17) rfl ?_
      refine cj_zret rfl rfl dX7_isName_17 ?_
      exact ⟨_, rfl, rfl, h⟩
    · replace h := h.2 c2
      refine cj_iconst (v := 1) dX7_isName_12 (by decide) ?_
      refine cj_goto (tgt := 17) dX7_isName_13 (by decide) ?_
      refine cj_zret rfl rfl dX7_isName_17 ?_
      exact ⟨_, rfl, rfl, h⟩
def wp_isDigit (a1 : Int32) (Q : Int32 → Prop) : Prop := ((a1 < 48 → Q 0) ∧ (¬ a1 < 48 → ((57 < a1 → Q 0) ∧ (¬ 57 < a1 → Q 1))))
set_option maxHeartbeats 4000000 in
set_option maxRecDepth 100000 in
theorem tR_isDigit {G0 : cj_G} {a1 : Int32} {Q : Int32 → Prop} (h : wp_isDigit a1 Q) : cj_T mX7_isDigit 0 0 0 [.int a1] G0 (rm_posts G0 Q) cj_no := by
  refine cj_T_of (by decide +kernel) (Nat.le_of_ble_eq_true rfl) ?_
  refine cj_lvs (lv' := [(0, .int a1)]) rfl ?_
  unfold wp_isDigit at h
  refine cj_iload_n dX7_isDigit_0 rfl ?_
  refine cj_bipush (v := 48) dX7_isDigit_1 (by decide) ?_
  refine cj_icmp_lt (tgt := 16) dX7_isDigit_3 (by decide) (fun c1 => ?_) (fun c1 => ?_)
  · replace h := h.1 c1
    refine cj_iconst (v := 0) dX7_isDigit_16 (by decide) ?_
    refine cj_pc (pc' := 17) rfl ?_
    refine cj_zret rfl rfl dX7_isDigit_17 ?_
    exact ⟨_, rfl, rfl, h⟩
  · replace h := h.2 c1
    refine cj_iload_n dX7_isDigit_6 rfl ?_
    refine cj_bipush (v := 57) dX7_isDigit_7 (by decide) ?_
    refine cj_icmp_gt (tgt := 16) dX7_isDigit_9 (by decide) (fun c2 => ?_) (fun c2 => ?_)
    · replace h := h.1 c2
      refine cj_iconst (v := 0) dX7_isDigit_16 (by decide) ?_
      refine cj_pc (pc' := 17) rfl ?_
      refine cj_zret rfl rfl dX7_isDigit_17 ?_
      exact ⟨_, rfl, rfl, h⟩
    · replace h := h.2 c2
      refine cj_iconst (v := 1) dX7_isDigit_12 (by decide) ?_
      refine cj_goto (tgt := 17) dX7_isDigit_13 (by decide) ?_
      refine cj_zret rfl rfl dX7_isDigit_17 ?_
      exact ⟨_, rfl, rfl, h⟩
def wp_isConstructor (a1 : Int32) (Q : Int32 → Prop) : Prop := ((a1 < 65 → Q 0) ∧ (¬ a1 < 65 → ((72 < a1 → Q 0) ∧ (¬ 72 < a1 → Q 1))))
set_option maxHeartbeats 4000000 in
set_option maxRecDepth 100000 in
theorem tR_isConstructor {G0 : cj_G} {a1 : Int32} {Q : Int32 → Prop} (h : wp_isConstructor a1 Q) : cj_T mX7_isConstructor 0 0 0 [.int a1] G0 (rm_posts G0 Q) cj_no := by
  refine cj_T_of (by decide +kernel) (Nat.le_of_ble_eq_true rfl) ?_
  refine cj_lvs (lv' := [(0, .int a1)]) rfl ?_
  unfold wp_isConstructor at h
  refine cj_iload_n dX7_isConstructor_0 rfl ?_
  refine cj_bipush (v := 65) dX7_isConstructor_1 (by decide) ?_
  refine cj_icmp_lt (tgt := 16) dX7_isConstructor_3 (by decide) (fun c1 => ?_) (fun c1 => ?_)
  · replace h := h.1 c1
    refine cj_iconst (v := 0) dX7_isConstructor_16 (by decide) ?_
    refine cj_pc (pc' := 17) rfl ?_
    refine cj_zret rfl rfl dX7_isConstructor_17 ?_
    exact ⟨_, rfl, rfl, h⟩
  · replace h := h.2 c1
    refine cj_iload_n dX7_isConstructor_6 rfl ?_
    refine cj_bipush (v := 72) dX7_isConstructor_7 (by decide) ?_
    refine cj_icmp_gt (tgt := 16) dX7_isConstructor_9 (by decide) (fun c2 => ?_) (fun c2 => ?_)
    · replace h := h.1 c2
      refine cj_iconst (v := 0) dX7_isConstructor_16 (by decide) ?_
      refine cj_pc (pc' := 17) rfl ?_
      refine cj_zret rfl rfl dX7_isConstructor_17 ?_
      exact ⟨_, rfl, rfl, h⟩
    · replace h := h.2 c2
      refine cj_iconst (v := 1) dX7_isConstructor_12 (by decide) ?_
      refine cj_goto (tgt := 17) dX7_isConstructor_13 (by decide) ?_
      refine cj_zret rfl rfl dX7_isConstructor_17 ?_
      exact ⟨_, rfl, rfl, h⟩
def wp_beginsAtom (a1 : Int32) (Q : Int32 → Prop) : Prop := wp_isName a1 (fun x2 => ((¬ x2 = 0 → Q 1) ∧ (x2 = 0 → wp_isDigit a1 (fun x5 => ((¬ x5 = 0 → Q 1) ∧ (x5 = 0 → wp_isConstructor a1 (fun x8 => ((¬ x8 = 0 → Q 1) ∧ (x8 = 0 → ((¬ a1 = 40 → Q 0) ∧ (a1 = 40 → Q 1)))))))))))
set_option maxHeartbeats 4000000 in
set_option maxRecDepth 100000 in
theorem tR_beginsAtom {G0 : cj_G} {a1 : Int32} {Q : Int32 → Prop} (h : wp_beginsAtom a1 Q) : cj_T mX7_beginsAtom 1 0 0 [.int a1] G0 (rm_posts G0 Q) cj_no := by
  refine cj_T_of (by decide +kernel) (Nat.le_of_ble_eq_true rfl) ?_
  refine cj_lvs (lv' := [(0, .int a1)]) rfl ?_
  unfold wp_beginsAtom at h
  refine cj_iload_n dX7_beginsAtom_0 rfl ?_
  refine cj_callS (M' := mX7_isName) (d' := 0) (k' := 0) (n' := 0) (index := 124) (np := 1) (As := [.int a1]) (rest := []) dX7_beginsAtom_1 lkX7_124 mwX7_isName (tR_isName h) (by omega) rfl rfl (Nat.le_of_ble_eq_true rfl) (fun v9 G9 q1 => ?_) (fun _ _ h => absurd h id)
  obtain ⟨x2, e8, e9, h⟩ := q1
  subst e8
  subst e9
  refine cj_st (st' := [.int x2]) rfl ?_
  refine cj_if_ne (tgt := 27) dX7_beginsAtom_4 (by decide) (fun c3 => ?_) (fun c3 => ?_)
  · replace h := h.1 c3
    refine cj_iconst (v := 1) dX7_beginsAtom_27 (by decide) ?_
    refine cj_pc (pc' := 28) rfl ?_
    refine cj_goto (tgt := 32) dX7_beginsAtom_28 (by decide) ?_
    refine cj_zret rfl rfl dX7_beginsAtom_32 ?_
    exact ⟨_, rfl, rfl, h⟩
  · replace h := h.2 c3
    refine cj_iload_n dX7_beginsAtom_7 rfl ?_
    refine cj_callS (M' := mX7_isDigit) (d' := 0) (k' := 0) (n' := 0) (index := 128) (np := 1) (As := [.int a1]) (rest := []) dX7_beginsAtom_8 lkX7_128 mwX7_isDigit (tR_isDigit h) (by omega) rfl rfl (Nat.le_of_ble_eq_true rfl) (fun v9 G9 q4 => ?_) (fun _ _ h => absurd h id)
    obtain ⟨x5, e8, e9, h⟩ := q4
    subst e8
    subst e9
    refine cj_st (st' := [.int x5]) rfl ?_
    refine cj_if_ne (tgt := 27) dX7_beginsAtom_11 (by decide) (fun c6 => ?_) (fun c6 => ?_)
    · replace h := h.1 c6
      refine cj_iconst (v := 1) dX7_beginsAtom_27 (by decide) ?_
      refine cj_pc (pc' := 28) rfl ?_
      refine cj_goto (tgt := 32) dX7_beginsAtom_28 (by decide) ?_
      refine cj_zret rfl rfl dX7_beginsAtom_32 ?_
      exact ⟨_, rfl, rfl, h⟩
    · replace h := h.2 c6
      refine cj_iload_n dX7_beginsAtom_14 rfl ?_
      refine cj_callS (M' := mX7_isConstructor) (d' := 0) (k' := 0) (n' := 0) (index := 131) (np := 1) (As := [.int a1]) (rest := []) dX7_beginsAtom_15 lkX7_131 mwX7_isConstructor (tR_isConstructor h) (by omega) rfl rfl (Nat.le_of_ble_eq_true rfl) (fun v9 G9 q7 => ?_) (fun _ _ h => absurd h id)
      obtain ⟨x8, e8, e9, h⟩ := q7
      subst e8
      subst e9
      refine cj_st (st' := [.int x8]) rfl ?_
      refine cj_if_ne (tgt := 27) dX7_beginsAtom_18 (by decide) (fun c9 => ?_) (fun c9 => ?_)
      · replace h := h.1 c9
        refine cj_iconst (v := 1) dX7_beginsAtom_27 (by decide) ?_
        refine cj_pc (pc' := 28) rfl ?_
        refine cj_goto (tgt := 32) dX7_beginsAtom_28 (by decide) ?_
        refine cj_zret rfl rfl dX7_beginsAtom_32 ?_
        exact ⟨_, rfl, rfl, h⟩
      · replace h := h.2 c9
        refine cj_iload_n dX7_beginsAtom_21 rfl ?_
        refine cj_bipush (v := 40) dX7_beginsAtom_22 (by decide) ?_
        refine cj_icmp_ne (tgt := 31) dX7_beginsAtom_24 (by decide) (fun c10 => ?_) (fun c10 => ?_)
        · replace h := h.1 c10
          refine cj_iconst (v := 0) dX7_beginsAtom_31 (by decide) ?_
          refine cj_pc (pc' := 32) rfl ?_
          refine cj_zret rfl rfl dX7_beginsAtom_32 ?_
          exact ⟨_, rfl, rfl, h⟩
        · replace h := h.2 c10
          refine cj_iconst (v := 1) dX7_beginsAtom_27 (by decide) ?_
          refine cj_goto (tgt := 32) dX7_beginsAtom_28 (by decide) ?_
          refine cj_zret rfl rfl dX7_beginsAtom_32 ?_
          exact ⟨_, rfl, rfl, h⟩
def wp_want (S : rm_S) (a1 : Int32) (Q : rm_S → Prop) : Prop := wp_look S (fun x2 S3 => ((x2 = a1 → ((¬ (S3.1 6) = 0 → Q S3) ∧ ((S3.1 6) = 0 → Q (rm_pf S3 5 ((S3.1 5) + 1))))) ∧ (¬ x2 = a1 → Q (rm_pf S3 6 1))))
set_option maxHeartbeats 4000000 in
set_option maxRecDepth 100000 in
theorem tR_want {mo : Nat} {ad : Nat → Nat} (hA : rm_A mo ad) {G0 : cj_G} {S : rm_S} {a1 : Int32} {Q : rm_S → Prop} (h : wp_want S a1 Q) : cj_T mX7_want 1 0 0 [.ref mo, .int a1] (rm_md mo ad S G0) (rm_post mo ad G0 Q) cj_no := by
  refine cj_T_of (by decide +kernel) (Nat.le_of_ble_eq_true rfl) ?_
  refine cj_lvs (lv' := [(0, .ref mo), (1, .int a1)]) rfl ?_
  unfold wp_want at h
  refine cj_aload_n dX7_want_0 rfl ?_
  refine cj_callV (M' := mX7_look) (d' := 0) (k' := 0) (n' := 0) (index := 134) (np := 0) (As := []) (rest := []) dX7_want_1 lkX7_134 mwX7_look (tR_look hA h) (by omega) rfl rfl (Nat.le_of_ble_eq_true rfl) rm_mo rfl (fun v9 G9 q1 => ?_) (fun _ _ h => absurd h id)
  obtain ⟨x2, S3, e8, e9, h⟩ := q1
  subst e8
  subst e9
  refine cj_st (st' := [.int x2]) rfl ?_
  refine cj_iload_n dX7_want_4 rfl ?_
  refine cj_icmp_eq (tgt := 13) dX7_want_5 (by decide) (fun c4 => ?_) (fun c4 => ?_)
  · replace h := h.1 c4
    refine cj_aload_n dX7_want_13 rfl ?_
    refine cj_pc (pc' := 14) rfl ?_
    refine rm_get (.int (S3.1 6)) flX7_138 dX7_want_14 rfl ?_
    refine cj_if_ne (tgt := 30) dX7_want_17 (by decide) (fun c5 => ?_) (fun c5 => ?_)
    · replace h := h.1 c5
      refine cj_vret rfl dX7_want_30 ?_
      exact ⟨_, rfl, rfl, h⟩
    · replace h := h.2 c5
      refine cj_aload_n dX7_want_20 rfl ?_
      refine cj_dup dX7_want_21 rfl ?_
      refine cj_pc (pc' := 22) rfl ?_
      refine rm_get (.int (S3.1 5)) flX7_118 dX7_want_22 rfl ?_
      refine cj_iconst (v := 1) dX7_want_25 (by decide) ?_
      refine cj_iadd dX7_want_26 ?_
      refine rm_put flX7_118 dX7_want_27 rmp_5 rfl rfl (by decide) ?_
      refine cj_vret rfl dX7_want_30 ?_
      exact ⟨_, rfl, rfl, h⟩
  · replace h := h.2 c4
    refine cj_aload_n dX7_want_8 rfl ?_
    refine cj_pc (pc' := 9) rfl ?_
    refine cj_iconst (v := 1) dX7_want_9 (by decide) ?_
    refine rm_put flX7_138 dX7_want_10 rmp_6 rfl rfl (by decide) ?_
    refine cj_aload_n dX7_want_13 rfl ?_
    refine rm_get (.int 1) flX7_138 dX7_want_14 rfl ?_
    refine cj_if_ne (tgt := 30) dX7_want_17 (by decide) (fun _ => ?_) (fun c => absurd c (by decide))
    refine cj_pc (pc' := 30) rfl ?_
    refine cj_vret rfl dX7_want_30 ?_
    exact ⟨_, rfl, rfl, h⟩
def wp_wantName (S : rm_S) (Q : Int32 → rm_S → Prop) : Prop := wp_look S (fun x2 S3 => wp_isName x2 (fun x5 => ((¬ x5 = 0 → (((S3.1 6) = 0 → (rm_c x2 ∧ Q x2 (rm_pf S3 5 ((S3.1 5) + 1)))) ∧ (¬ (S3.1 6) = 0 → Q 0 S3))) ∧ (x5 = 0 → Q 0 (rm_pf S3 6 1)))))
set_option maxHeartbeats 4000000 in
set_option maxRecDepth 100000 in
theorem tR_wantName {mo : Nat} {ad : Nat → Nat} (hA : rm_A mo ad) {G0 : cj_G} {S : rm_S} {Q : Int32 → rm_S → Prop} (h : wp_wantName S Q) : cj_T mX7_wantName 1 0 0 [.ref mo] (rm_md mo ad S G0) (rm_posti mo ad G0 Q) cj_no := by
  refine cj_T_of (by decide +kernel) (Nat.le_of_ble_eq_true rfl) ?_
  refine cj_lvs (lv' := [(0, .ref mo)]) rfl ?_
  unfold wp_wantName at h
  refine cj_aload_n dX7_wantName_0 rfl ?_
  refine cj_callV (M' := mX7_look) (d' := 0) (k' := 0) (n' := 0) (index := 134) (np := 0) (As := []) (rest := []) dX7_wantName_1 lkX7_134 mwX7_look (tR_look hA h) (by omega) rfl rfl (Nat.le_of_ble_eq_true rfl) rm_mo rfl (fun v9 G9 q1 => ?_) (fun _ _ h => absurd h id)
  obtain ⟨x2, S3, e8, e9, h⟩ := q1
  subst e8
  subst e9
  refine cj_st (st' := [.int x2]) rfl ?_
  refine cj_istore_n (lv' := [(1, .int x2), (0, .ref mo)]) dX7_wantName_4 (by decide) rfl ?_
  refine cj_iload_n dX7_wantName_5 rfl ?_
  refine cj_pc (pc' := 6) rfl ?_
  refine cj_callS (M' := mX7_isName) (d' := 0) (k' := 0) (n' := 0) (index := 124) (np := 1) (As := [.int x2]) (rest := []) dX7_wantName_6 lkX7_124 mwX7_isName (tR_isName h) (by omega) rfl rfl (Nat.le_of_ble_eq_true rfl) (fun v9 G9 q4 => ?_) (fun _ _ h => absurd h id)
  obtain ⟨x5, e8, e9, h⟩ := q4
  subst e8
  subst e9
  refine cj_st (st' := [.int x5]) rfl ?_
  refine cj_if_ne (tgt := 17) dX7_wantName_9 (by decide) (fun c6 => ?_) (fun c6 => ?_)
  · replace h := h.1 c6
    refine cj_aload_n dX7_wantName_17 rfl ?_
    refine rm_get (.int (S3.1 6)) flX7_138 dX7_wantName_18 rfl ?_
    refine cj_if_eq (tgt := 26) dX7_wantName_21 (by decide) (fun c7 => ?_) (fun c7 => ?_)
    · replace h := h.1 c7
      refine cj_aload_n dX7_wantName_26 rfl ?_
      refine cj_pc (pc' := 27) rfl ?_
      refine cj_dup dX7_wantName_27 rfl ?_
      refine rm_get (.int (S3.1 5)) flX7_118 dX7_wantName_28 rfl ?_
      refine cj_iconst (v := 1) dX7_wantName_31 (by decide) ?_
      refine cj_iadd dX7_wantName_32 ?_
      refine rm_put flX7_118 dX7_wantName_33 rmp_5 rfl rfl (by decide) ?_
      refine cj_pc (pc' := 36) rfl ?_
      refine cj_iload_n dX7_wantName_36 rfl ?_
      have n8 := h.1
      replace h := h.2
      refine cj_zret rfl n8 dX7_wantName_37 ?_
      exact ⟨_, _, rfl, rfl, h⟩
    · replace h := h.2 c7
      refine cj_iconst (v := 0) dX7_wantName_24 (by decide) ?_
      refine cj_zret rfl rfl dX7_wantName_25 ?_
      exact ⟨_, _, rfl, rfl, h⟩
  · replace h := h.2 c6
    refine cj_aload_n dX7_wantName_12 rfl ?_
    refine cj_pc (pc' := 13) rfl ?_
    refine cj_iconst (v := 1) dX7_wantName_13 (by decide) ?_
    refine rm_put flX7_138 dX7_wantName_14 rmp_6 rfl rfl (by decide) ?_
    refine cj_aload_n dX7_wantName_17 rfl ?_
    refine rm_get (.int 1) flX7_138 dX7_wantName_18 rfl ?_
    refine cj_if_eq (tgt := 26) dX7_wantName_21 (by decide) (fun c => absurd c (by decide)) (fun _ => ?_)
    refine cj_pc (pc' := 24) rfl ?_
    refine cj_iconst (v := 0) dX7_wantName_24 (by decide) ?_
    refine cj_zret rfl rfl dX7_wantName_25 ?_
    exact ⟨_, _, rfl, rfl, h⟩
def wp_node (S : rm_S) (a1 : Int32) (a2 : Int32) (Q : Int32 → rm_S → Prop) : Prop := (vp_in (S.1 8) 300 ∧ (vp_in (S.1 8) 300 ∧ (vp_in (S.1 8) 300 ∧ (vp_in (S.1 8) 300 ∧ (vp_in (S.1 8) 300 ∧ (vp_in (S.1 8) 300 ∧ Q (S.1 8) (rm_pa (rm_pa (rm_pa (rm_pa (rm_pa (rm_pa (rm_pf S 8 ((S.1 8) + 1)) 9 ((S.1 8).toNatClampNeg) a1) 10 ((S.1 8).toNatClampNeg) a2) 11 ((S.1 8).toNatClampNeg) (-1)) 12 ((S.1 8).toNatClampNeg) (-1)) 13 ((S.1 8).toNatClampNeg) 0) 14 ((S.1 8).toNatClampNeg) 0)))))))
set_option maxHeartbeats 4000000 in
set_option maxRecDepth 100000 in
theorem tR_node {mo : Nat} {ad : Nat → Nat} (hA : rm_A mo ad) {G0 : cj_G} {S : rm_S} {a1 : Int32} {a2 : Int32} {Q : Int32 → rm_S → Prop} (h : wp_node S a1 a2 Q) : cj_T mX7_node 0 0 0 [.ref mo, .int a1, .int a2] (rm_md mo ad S G0) (rm_posti mo ad G0 Q) cj_no := by
  refine cj_T_of (by decide +kernel) (Nat.le_of_ble_eq_true rfl) ?_
  refine cj_lvs (lv' := [(0, .ref mo), (1, .int a1), (2, .int a2)]) rfl ?_
  unfold wp_node at h
  refine cj_aload_n dX7_node_0 rfl ?_
  refine rm_get (.int (S.1 8)) flX7_142 dX7_node_1 rfl ?_
  refine cj_istore_n (lv' := [(3, .int (S.1 8)), (0, .ref mo), (1, .int a1), (2, .int a2)]) dX7_node_4 (by decide) rfl ?_
  refine cj_aload_n dX7_node_5 rfl ?_
  refine cj_pc (pc' := 6) rfl ?_
  refine cj_dup dX7_node_6 rfl ?_
  refine rm_get (.int (S.1 8)) flX7_142 dX7_node_7 rfl ?_
  refine cj_iconst (v := 1) dX7_node_10 (by decide) ?_
  refine cj_iadd dX7_node_11 ?_
  refine rm_put flX7_142 dX7_node_12 rmp_8 rfl rfl (by decide) ?_
  refine cj_pc (pc' := 15) rfl ?_
  refine cj_aload_n dX7_node_15 rfl ?_
  refine rm_get (.ref (ad 9)) flX7_20 dX7_node_16 rfl ?_
  refine cj_iload_n dX7_node_19 rfl ?_
  refine cj_iload_n dX7_node_20 rfl ?_
  have i1 := h.1
  replace h := h.2
  refine rm_iast (j := 9) hA rfl dX7_node_21 i1 ?_
  refine cj_pc (pc' := 22) rfl ?_
  refine cj_aload_n dX7_node_22 rfl ?_
  refine rm_get (.ref (ad 10)) flX7_24 dX7_node_23 rfl ?_
  refine cj_iload_n dX7_node_26 rfl ?_
  refine cj_iload_n dX7_node_27 rfl ?_
  have i2 := h.1
  replace h := h.2
  refine rm_iast (j := 10) hA rfl dX7_node_28 i2 ?_
  refine cj_pc (pc' := 29) rfl ?_
  refine cj_aload_n dX7_node_29 rfl ?_
  refine rm_get (.ref (ad 11)) flX7_27 dX7_node_30 rfl ?_
  refine cj_iload_n dX7_node_33 rfl ?_
  refine cj_iconst (v := (-1)) dX7_node_34 (by decide) ?_
  have i3 := h.1
  replace h := h.2
  refine rm_iast (j := 11) hA rfl dX7_node_35 i3 ?_
  refine cj_pc (pc' := 36) rfl ?_
  refine cj_aload_n dX7_node_36 rfl ?_
  refine rm_get (.ref (ad 12)) flX7_30 dX7_node_37 rfl ?_
  refine cj_iload_n dX7_node_40 rfl ?_
  refine cj_iconst (v := (-1)) dX7_node_41 (by decide) ?_
  have i4 := h.1
  replace h := h.2
  refine rm_iast (j := 12) hA rfl dX7_node_42 i4 ?_
  refine cj_pc (pc' := 43) rfl ?_
  refine cj_aload_n dX7_node_43 rfl ?_
  refine rm_get (.ref (ad 13)) flX7_33 dX7_node_44 rfl ?_
  refine cj_iload_n dX7_node_47 rfl ?_
  refine cj_iconst (v := 0) dX7_node_48 (by decide) ?_
  have i5 := h.1
  replace h := h.2
  refine rm_iast (j := 13) hA rfl dX7_node_49 i5 ?_
  refine cj_pc (pc' := 50) rfl ?_
  refine cj_aload_n dX7_node_50 rfl ?_
  refine rm_get (.ref (ad 14)) flX7_36 dX7_node_51 rfl ?_
  refine cj_iload_n dX7_node_54 rfl ?_
  refine cj_iconst (v := 0) dX7_node_55 (by decide) ?_
  have i6 := h.1
  replace h := h.2
  refine rm_zast (j := 14) hA rfl dX7_node_56 i6 ?_
  refine cj_eqG (G' := rm_md mo ad (rm_pa (rm_pa (rm_pa (rm_pa (rm_pa (rm_pa (rm_pf S 8 ((S.1 8) + 1)) 9 ((S.1 8).toNatClampNeg) a1) 10 ((S.1 8).toNatClampNeg) a2) 11 ((S.1 8).toNatClampNeg) (-1)) 12 ((S.1 8).toNatClampNeg) (-1)) 13 ((S.1 8).toNatClampNeg) 0) 14 ((S.1 8).toNatClampNeg) 0) G0) rfl ?_
  refine cj_pc (pc' := 57) rfl ?_
  refine cj_iload_n dX7_node_57 rfl ?_
  refine cj_iret rfl dX7_node_58 ?_
  exact ⟨_, _, rfl, rfl, h⟩
def wl_addChild_26 (v1 : Int32) (v2 : Int32) (Q : rm_S → Prop) (K : Int32 → rm_S → Prop) : Nat → Int32 → rm_S → Prop
  | 0, _, _ => False
  | n + 1, v3, S => (vp_in v3 300 ∧ ((((S.2 12) v3.toNatClampNeg) < 0 → K v3 S) ∧ (¬ ((S.2 12) v3.toNatClampNeg) < 0 → (vp_in v3 300 ∧ wl_addChild_26 v1 v2 Q K n ((S.2 12) v3.toNatClampNeg) S))))
def wp_addChild (S : rm_S) (a1 : Int32) (a2 : Int32) (Q : rm_S → Prop) : Prop := (vp_in a1 300 ∧ ((¬ ((S.2 13) a1.toNatClampNeg) = 0 → (vp_in a1 300 ∧ (∃ n9 : Nat, wl_addChild_26 a1 a2 Q (fun w8 S7 => (vp_in w8 300 ∧ (vp_in a1 300 ∧ (vp_in a1 300 ∧ Q (rm_pa (rm_pa S7 12 w8.toNatClampNeg a2) 13 a1.toNatClampNeg (((S7.2 13) a1.toNatClampNeg) + 1)))))) n9 ((S.2 11) a1.toNatClampNeg) S))) ∧ (((S.2 13) a1.toNatClampNeg) = 0 → (vp_in a1 300 ∧ (vp_in a1 300 ∧ (vp_in a1 300 ∧ Q (rm_pa (rm_pa S 11 a1.toNatClampNeg a2) 13 a1.toNatClampNeg (((S.2 13) a1.toNatClampNeg) + 1))))))))
set_option maxHeartbeats 4000000 in
set_option maxRecDepth 100000 in
theorem wl_addChild_26_ok {mo : Nat} {ad : Nat → Nat} (hA : rm_A mo ad) {G0 : cj_G} {d k0 n0 k n9 : Nat} (hd9 : 0 ≤ d) (v1 : Int32) (v2 : Int32) {Q : rm_S → Prop} {K : Int32 → rm_S → Prop} (hK : ∀ (v3 : Int32) (S : rm_S), K v3 S → cj_J mX7_addChild d k0 n0 (rm_post mo ad G0 Q) cj_no k n9 45 [(1, .int v1), (2, .int v2), (3, .int v3), (0, .ref mo)] [] (rm_md mo ad S G0)) : ∀ (n : Nat) (v3 : Int32) (S : rm_S), wl_addChild_26 v1 v2 Q K n v3 S → cj_J mX7_addChild d k0 n0 (rm_post mo ad G0 Q) cj_no k n9 26 [(1, .int v1), (2, .int v2), (3, .int v3), (0, .ref mo)] [] (rm_md mo ad S G0) := by
  intro n
  induction n with
  | zero => intro v3 S h; exact absurd h id
  | succ n ih =>
    intro v3 S h
    unfold wl_addChild_26 at h
    refine cj_aload_n dX7_addChild_26 rfl ?_
    refine rm_get (.ref (ad 12)) flX7_30 dX7_addChild_27 rfl ?_
    refine cj_iload_n dX7_addChild_30 rfl ?_
    have i4 := h.1
    replace h := h.2
    refine rm_iald (j := 12) (x := (S.2 12) v3.toNatClampNeg) hA rfl dX7_addChild_31 i4 rfl ?_
    refine cj_pc (pc' := 32) rfl ?_
    refine cj_if_lt (tgt := 45) dX7_addChild_32 (by decide) (fun c5 => ?_) (fun c5 => ?_)
    · replace h := h.1 c5
      refine cj_sub (lv' := [(1, .int v1), (2, .int v2), (3, .int v3), (0, .ref mo)]) (by simp) ?_
      exact hK _ _ h
    · replace h := h.2 c5
      refine cj_aload_n dX7_addChild_35 rfl ?_
      refine rm_get (.ref (ad 12)) flX7_30 dX7_addChild_36 rfl ?_
      refine cj_iload_n dX7_addChild_39 rfl ?_
      have i6 := h.1
      replace h := h.2
      refine rm_iald (j := 12) (x := (S.2 12) v3.toNatClampNeg) hA rfl dX7_addChild_40 i6 rfl ?_
      refine cj_pc (pc' := 41) rfl ?_
      refine cj_istore_n (lv' := [(3, .int ((S.2 12) v3.toNatClampNeg)), (1, .int v1), (2, .int v2), (0, .ref mo)]) dX7_addChild_41 (by decide) rfl ?_
      refine cj_goto (tgt := 26) dX7_addChild_42 (by decide) ?_
      refine cj_sub (lv' := [(1, .int v1), (2, .int v2), (3, .int ((S.2 12) v3.toNatClampNeg)), (0, .ref mo)]) (by simp) ?_
      exact ih _ _ h
set_option maxHeartbeats 4000000 in
set_option maxRecDepth 100000 in
theorem tR_addChild {mo : Nat} {ad : Nat → Nat} (hA : rm_A mo ad) {G0 : cj_G} {S : rm_S} {a1 : Int32} {a2 : Int32} {Q : rm_S → Prop} (h : wp_addChild S a1 a2 Q) : cj_T mX7_addChild 0 0 0 [.ref mo, .int a1, .int a2] (rm_md mo ad S G0) (rm_post mo ad G0 Q) cj_no := by
  refine cj_T_of (by decide +kernel) (Nat.le_of_ble_eq_true rfl) ?_
  refine cj_lvs (lv' := [(0, .ref mo), (1, .int a1), (2, .int a2)]) rfl ?_
  unfold wp_addChild at h
  refine cj_aload_n dX7_addChild_0 rfl ?_
  refine rm_get (.ref (ad 13)) flX7_33 dX7_addChild_1 rfl ?_
  refine cj_iload_n dX7_addChild_4 rfl ?_
  have i1 := h.1
  replace h := h.2
  refine rm_iald (j := 13) (x := (S.2 13) a1.toNatClampNeg) hA rfl dX7_addChild_5 i1 rfl ?_
  refine cj_pc (pc' := 6) rfl ?_
  refine cj_if_ne (tgt := 19) dX7_addChild_6 (by decide) (fun c2 => ?_) (fun c2 => ?_)
  · replace h := h.1 c2
    refine cj_aload_n dX7_addChild_19 rfl ?_
    refine rm_get (.ref (ad 11)) flX7_27 dX7_addChild_20 rfl ?_
    refine cj_iload_n dX7_addChild_23 rfl ?_
    have i3 := h.1
    replace h := h.2
    refine rm_iald (j := 11) (x := (S.2 11) a1.toNatClampNeg) hA rfl dX7_addChild_24 i3 rfl ?_
    refine cj_pc (pc' := 25) rfl ?_
    refine cj_istore_n (lv' := [(3, .int ((S.2 11) a1.toNatClampNeg)), (0, .ref mo), (1, .int a1), (2, .int a2)]) dX7_addChild_25 (by decide) rfl ?_
    obtain ⟨n9, h⟩ := h
    refine cj_sub (lv' := [(1, .int a1), (2, .int a2), (3, .int ((S.2 11) a1.toNatClampNeg)), (0, .ref mo)]) (by simp) ?_
    refine wl_addChild_26_ok hA (by omega) _ _ ?_ n9 _ _ h
    clear h
    intro w8 S7 h
    refine cj_aload_n dX7_addChild_45 rfl ?_
    refine rm_get (.ref (ad 12)) flX7_30 dX7_addChild_46 rfl ?_
    refine cj_iload_n dX7_addChild_49 rfl ?_
    refine cj_pc (pc' := 50) rfl ?_
    refine cj_iload_n dX7_addChild_50 rfl ?_
    have i9 := h.1
    replace h := h.2
    refine rm_iast (j := 12) hA rfl dX7_addChild_51 i9 ?_
    refine cj_aload_n dX7_addChild_52 rfl ?_
    refine rm_get (.ref (ad 13)) flX7_33 dX7_addChild_53 rfl ?_
    refine cj_iload_n dX7_addChild_56 rfl ?_
    refine cj_pc (pc' := 57) rfl ?_
    refine cj_dup2_11 dX7_addChild_57 rfl rfl ?_
    have i10 := h.1
    replace h := h.2
    refine rm_iald (j := 13) (x := (S7.2 13) a1.toNatClampNeg) hA rfl dX7_addChild_58 i10 rfl ?_
    refine cj_iconst (v := 1) dX7_addChild_59 (by decide) ?_
    refine cj_iadd dX7_addChild_60 ?_
    have i11 := h.1
    replace h := h.2
    refine rm_iast (j := 13) hA rfl dX7_addChild_61 i11 ?_
    refine cj_pc (pc' := 62) rfl ?_
    refine cj_vret rfl dX7_addChild_62 ?_
    exact ⟨_, rfl, rfl, h⟩
  · replace h := h.2 c2
    refine cj_aload_n dX7_addChild_9 rfl ?_
    refine rm_get (.ref (ad 11)) flX7_27 dX7_addChild_10 rfl ?_
    refine cj_iload_n dX7_addChild_13 rfl ?_
    refine cj_iload_n dX7_addChild_14 rfl ?_
    refine cj_pc (pc' := 15) rfl ?_
    have i12 := h.1
    replace h := h.2
    refine rm_iast (j := 11) hA rfl dX7_addChild_15 i12 ?_
    refine cj_goto (tgt := 52) dX7_addChild_16 (by decide) ?_
    refine cj_aload_n dX7_addChild_52 rfl ?_
    refine rm_get (.ref (ad 13)) flX7_33 dX7_addChild_53 rfl ?_
    refine cj_iload_n dX7_addChild_56 rfl ?_
    refine cj_pc (pc' := 57) rfl ?_
    refine cj_dup2_11 dX7_addChild_57 rfl rfl ?_
    have i13 := h.1
    replace h := h.2
    refine rm_iald (j := 13) (x := (S.2 13) a1.toNatClampNeg) hA rfl dX7_addChild_58 i13 rfl ?_
    refine cj_iconst (v := 1) dX7_addChild_59 (by decide) ?_
    refine cj_iadd dX7_addChild_60 ?_
    have i14 := h.1
    replace h := h.2
    refine rm_iast (j := 13) hA rfl dX7_addChild_61 i14 ?_
    refine cj_pc (pc' := 62) rfl ?_
    refine cj_vret rfl dX7_addChild_62 ?_
    exact ⟨_, rfl, rfl, h⟩
def wl_childAt_10 (v1 : Int32) (v2 : Int32) (Q : Int32 → rm_S → Prop) (K : Int32 → Int32 → rm_S → Prop) : Nat → Int32 → Int32 → rm_S → Prop
  | 0, _, _, _ => False
  | n + 1, v3, v4, S => ((v2 ≤ v4 → K v3 v4 S) ∧ (¬ v2 ≤ v4 → (vp_in v3 300 ∧ wl_childAt_10 v1 v2 Q K n ((S.2 12) v3.toNatClampNeg) (v4 + 1) S)))
def wp_childAt (S : rm_S) (a1 : Int32) (a2 : Int32) (Q : Int32 → rm_S → Prop) : Prop := (vp_in a1 300 ∧ (∃ n9 : Nat, wl_childAt_10 a1 a2 Q (fun w5 w6 S4 => Q w5 S4) n9 ((S.2 11) a1.toNatClampNeg) 0 S))
set_option maxHeartbeats 4000000 in
set_option maxRecDepth 100000 in
theorem wl_childAt_10_ok {mo : Nat} {ad : Nat → Nat} (hA : rm_A mo ad) {G0 : cj_G} {d k0 n0 k n9 : Nat} (hd9 : 0 ≤ d) (v1 : Int32) (v2 : Int32) {Q : Int32 → rm_S → Prop} {K : Int32 → Int32 → rm_S → Prop} (hK : ∀ (v3 : Int32) (v4 : Int32) (S : rm_S), K v3 v4 S → cj_J mX7_childAt d k0 n0 (rm_posti mo ad G0 Q) cj_no k n9 29 [(1, .int v1), (2, .int v2), (3, .int v3), (4, .int v4), (0, .ref mo)] [] (rm_md mo ad S G0)) : ∀ (n : Nat) (v3 : Int32) (v4 : Int32) (S : rm_S), wl_childAt_10 v1 v2 Q K n v3 v4 S → cj_J mX7_childAt d k0 n0 (rm_posti mo ad G0 Q) cj_no k n9 10 [(1, .int v1), (2, .int v2), (3, .int v3), (4, .int v4), (0, .ref mo)] [] (rm_md mo ad S G0) := by
  intro n
  induction n with
  | zero => intro v3 v4 S h; exact absurd h id
  | succ n ih =>
    intro v3 v4 S h
    unfold wl_childAt_10 at h
    refine cj_iload dX7_childAt_10 rfl ?_
    refine cj_iload_n dX7_childAt_12 rfl ?_
    refine cj_pc (pc' := 13) rfl ?_
    refine cj_icmp_ge (tgt := 29) dX7_childAt_13 (by decide) (fun c2 => ?_) (fun c2 => ?_)
    · replace h := h.1 c2
      refine cj_sub (lv' := [(1, .int v1), (2, .int v2), (3, .int v3), (4, .int v4), (0, .ref mo)]) (by simp) ?_
      exact hK _ _ _ h
    · replace h := h.2 c2
      refine cj_aload_n dX7_childAt_16 rfl ?_
      refine rm_get (.ref (ad 12)) flX7_30 dX7_childAt_17 rfl ?_
      refine cj_iload_n dX7_childAt_20 rfl ?_
      have i3 := h.1
      replace h := h.2
      refine rm_iald (j := 12) (x := (S.2 12) v3.toNatClampNeg) hA rfl dX7_childAt_21 i3 rfl ?_
      refine cj_pc (pc' := 22) rfl ?_
      refine cj_istore_n (lv' := [(3, .int ((S.2 12) v3.toNatClampNeg)), (1, .int v1), (2, .int v2), (4, .int v4), (0, .ref mo)]) dX7_childAt_22 (by decide) rfl ?_
      refine cj_iinc (v := v4 + 1) (lv' := [(4, .int (v4 + 1)), (3, .int ((S.2 12) v3.toNatClampNeg)), (1, .int v1), (2, .int v2), (0, .ref mo)]) dX7_childAt_23 rfl rfl (by decide) rfl ?_
      refine cj_goto (tgt := 10) dX7_childAt_26 (by decide) ?_
      refine cj_sub (lv' := [(1, .int v1), (2, .int v2), (3, .int ((S.2 12) v3.toNatClampNeg)), (4, .int (v4 + 1)), (0, .ref mo)]) (by simp) ?_
      exact ih _ _ _ h
set_option maxHeartbeats 4000000 in
set_option maxRecDepth 100000 in
theorem tR_childAt {mo : Nat} {ad : Nat → Nat} (hA : rm_A mo ad) {G0 : cj_G} {S : rm_S} {a1 : Int32} {a2 : Int32} {Q : Int32 → rm_S → Prop} (h : wp_childAt S a1 a2 Q) : cj_T mX7_childAt 0 0 0 [.ref mo, .int a1, .int a2] (rm_md mo ad S G0) (rm_posti mo ad G0 Q) cj_no := by
  refine cj_T_of (by decide +kernel) (Nat.le_of_ble_eq_true rfl) ?_
  refine cj_lvs (lv' := [(0, .ref mo), (1, .int a1), (2, .int a2)]) rfl ?_
  unfold wp_childAt at h
  refine cj_aload_n dX7_childAt_0 rfl ?_
  refine rm_get (.ref (ad 11)) flX7_27 dX7_childAt_1 rfl ?_
  refine cj_iload_n dX7_childAt_4 rfl ?_
  have i1 := h.1
  replace h := h.2
  refine rm_iald (j := 11) (x := (S.2 11) a1.toNatClampNeg) hA rfl dX7_childAt_5 i1 rfl ?_
  refine cj_pc (pc' := 6) rfl ?_
  refine cj_istore_n (lv' := [(3, .int ((S.2 11) a1.toNatClampNeg)), (0, .ref mo), (1, .int a1), (2, .int a2)]) dX7_childAt_6 (by decide) rfl ?_
  refine cj_iconst (v := 0) dX7_childAt_7 (by decide) ?_
  refine cj_istore (lv' := [(4, .int 0), (3, .int ((S.2 11) a1.toNatClampNeg)), (0, .ref mo), (1, .int a1), (2, .int a2)]) dX7_childAt_8 (by decide) rfl ?_
  obtain ⟨n9, h⟩ := h
  refine cj_sub (lv' := [(1, .int a1), (2, .int a2), (3, .int ((S.2 11) a1.toNatClampNeg)), (4, .int 0), (0, .ref mo)]) (by simp) ?_
  refine wl_childAt_10_ok hA (by omega) _ _ ?_ n9 _ _ _ h
  clear h
  intro w5 w6 S4 h
  refine cj_iload_n dX7_childAt_29 rfl ?_
  refine cj_iret rfl dX7_childAt_30 ?_
  exact ⟨_, _, rfl, rfl, h⟩
def wp_bind (S : rm_S) (a1 : Int32) (Q : rm_S → Prop) : Prop := (vp_in (S.1 15) 100 ∧ Q (rm_pf (rm_pa S 16 ((S.1 15).toNatClampNeg) (vp_nar .char a1)) 15 ((S.1 15) + 1)))
set_option maxHeartbeats 4000000 in
set_option maxRecDepth 100000 in
theorem tR_bind {mo : Nat} {ad : Nat → Nat} (hA : rm_A mo ad) {G0 : cj_G} {S : rm_S} {a1 : Int32} {Q : rm_S → Prop} (h : wp_bind S a1 Q) : cj_T mX7_bind 0 0 0 [.ref mo, .int a1] (rm_md mo ad S G0) (rm_post mo ad G0 Q) cj_no := by
  refine cj_T_of (by decide +kernel) (Nat.le_of_ble_eq_true rfl) ?_
  refine cj_lvs (lv' := [(0, .ref mo), (1, .int a1)]) rfl ?_
  unfold wp_bind at h
  refine cj_aload_n dX7_bind_0 rfl ?_
  refine rm_get (.ref (ad 16)) flX7_40 dX7_bind_1 rfl ?_
  refine cj_aload_n dX7_bind_4 rfl ?_
  refine rm_get (.int (S.1 15)) flX7_145 dX7_bind_5 rfl ?_
  refine cj_pc (pc' := 8) rfl ?_
  refine cj_iload_n dX7_bind_8 rfl ?_
  have i1 := h.1
  replace h := h.2
  refine rm_cast (j := 16) hA rfl dX7_bind_9 i1 ?_
  refine cj_aload_n dX7_bind_10 rfl ?_
  refine cj_dup dX7_bind_11 rfl ?_
  refine rm_get (.int (S.1 15)) flX7_145 dX7_bind_12 rfl ?_
  refine cj_pc (pc' := 15) rfl ?_
  refine cj_iconst (v := 1) dX7_bind_15 (by decide) ?_
  refine cj_iadd dX7_bind_16 ?_
  refine rm_put flX7_145 dX7_bind_17 rmp_15 rfl rfl (by decide) ?_
  refine cj_vret rfl dX7_bind_20 ?_
  exact ⟨_, rfl, rfl, h⟩
def wp_begin (S : rm_S) (a1 : Int32) (a2 : Int32) (Q : rm_S → Prop) : Prop := ((¬ (S.1 17) = 6 → (((S.1 6) = 0 → (vp_in (S.1 17) 8 ∧ (vp_in (S.1 17) 8 ∧ (vp_in (S.1 17) 8 ∧ (vp_in (S.1 17) 8 ∧ (vp_in (S.1 17) 8 ∧ (vp_in (S.1 17) 8 ∧ (vp_in (S.1 17) 8 ∧ Q (rm_pf (rm_pf (rm_pa (rm_pa (rm_pa (rm_pa (rm_pa (rm_pa (rm_pa S 18 ((S.1 17).toNatClampNeg) a1) 22 ((S.1 17).toNatClampNeg) a2) 19 ((S.1 17).toNatClampNeg) (S.1 26)) 20 ((S.1 17).toNatClampNeg) (S.1 15)) 21 ((S.1 17).toNatClampNeg) (S.1 31)) 24 ((S.1 17).toNatClampNeg) 0) 25 ((S.1 17).toNatClampNeg) (-1)) 17 ((S.1 17) + 1)) 33 0))))))))) ∧ (¬ (S.1 6) = 0 → Q S))) ∧ ((S.1 17) = 6 → Q (rm_pf S 6 1)))
set_option maxHeartbeats 4000000 in
set_option maxRecDepth 100000 in
theorem tR_begin {mo : Nat} {ad : Nat → Nat} (hA : rm_A mo ad) {G0 : cj_G} {S : rm_S} {a1 : Int32} {a2 : Int32} {Q : rm_S → Prop} (h : wp_begin S a1 a2 Q) : cj_T mX7_begin 0 0 0 [.ref mo, .int a1, .int a2] (rm_md mo ad S G0) (rm_post mo ad G0 Q) cj_no := by
  refine cj_T_of (by decide +kernel) (Nat.le_of_ble_eq_true rfl) ?_
  refine cj_lvs (lv' := [(0, .ref mo), (1, .int a1), (2, .int a2)]) rfl ?_
  unfold wp_begin at h
  refine cj_aload_n dX7_begin_0 rfl ?_
  refine rm_get (.int (S.1 17)) flX7_148 dX7_begin_1 rfl ?_
  refine cj_bipush (v := 6) dX7_begin_4 (by decide) ?_
  refine cj_icmp_ne (tgt := 14) dX7_begin_6 (by decide) (fun c1 => ?_) (fun c1 => ?_)
  · replace h := h.1 c1
    refine cj_aload_n dX7_begin_14 rfl ?_
    refine cj_pc (pc' := 15) rfl ?_
    refine rm_get (.int (S.1 6)) flX7_138 dX7_begin_15 rfl ?_
    refine cj_if_eq (tgt := 22) dX7_begin_18 (by decide) (fun c2 => ?_) (fun c2 => ?_)
    · replace h := h.1 c2
      refine cj_aload_n dX7_begin_22 rfl ?_
      refine rm_get (.ref (ad 18)) flX7_43 dX7_begin_23 rfl ?_
      refine cj_aload_n dX7_begin_26 rfl ?_
      refine cj_pc (pc' := 27) rfl ?_
      refine rm_get (.int (S.1 17)) flX7_148 dX7_begin_27 rfl ?_
      refine cj_iload_n dX7_begin_30 rfl ?_
      have i3 := h.1
      replace h := h.2
      refine rm_iast (j := 18) hA rfl dX7_begin_31 i3 ?_
      refine cj_aload_n dX7_begin_32 rfl ?_
      refine rm_get (.ref (ad 22)) flX7_55 dX7_begin_33 rfl ?_
      refine cj_pc (pc' := 36) rfl ?_
      refine cj_aload_n dX7_begin_36 rfl ?_
      refine rm_get (.int (S.1 17)) flX7_148 dX7_begin_37 rfl ?_
      refine cj_iload_n dX7_begin_40 rfl ?_
      have i4 := h.1
      replace h := h.2
      refine rm_iast (j := 22) hA rfl dX7_begin_41 i4 ?_
      refine cj_aload_n dX7_begin_42 rfl ?_
      refine cj_pc (pc' := 43) rfl ?_
      refine rm_get (.ref (ad 19)) flX7_46 dX7_begin_43 rfl ?_
      refine cj_aload_n dX7_begin_46 rfl ?_
      refine rm_get (.int (S.1 17)) flX7_148 dX7_begin_47 rfl ?_
      refine cj_aload_n dX7_begin_50 rfl ?_
      refine rm_get (.int (S.1 26)) flX7_151 dX7_begin_51 rfl ?_
      refine cj_pc (pc' := 54) rfl ?_
      have i5 := h.1
      replace h := h.2
      refine rm_iast (j := 19) hA rfl dX7_begin_54 i5 ?_
      refine cj_aload_n dX7_begin_55 rfl ?_
      refine rm_get (.ref (ad 20)) flX7_49 dX7_begin_56 rfl ?_
      refine cj_aload_n dX7_begin_59 rfl ?_
      refine rm_get (.int (S.1 17)) flX7_148 dX7_begin_60 rfl ?_
      refine cj_pc (pc' := 63) rfl ?_
      refine cj_aload_n dX7_begin_63 rfl ?_
      refine rm_get (.int (S.1 15)) flX7_145 dX7_begin_64 rfl ?_
      have i6 := h.1
      replace h := h.2
      refine rm_iast (j := 20) hA rfl dX7_begin_67 i6 ?_
      refine cj_aload_n dX7_begin_68 rfl ?_
      refine rm_get (.ref (ad 21)) flX7_52 dX7_begin_69 rfl ?_
      refine cj_pc (pc' := 72) rfl ?_
      refine cj_aload_n dX7_begin_72 rfl ?_
      refine rm_get (.int (S.1 17)) flX7_148 dX7_begin_73 rfl ?_
      refine cj_aload_n dX7_begin_76 rfl ?_
      refine rm_get (.int (S.1 31)) flX7_154 dX7_begin_77 rfl ?_
      have i7 := h.1
      replace h := h.2
      refine rm_iast (j := 21) hA rfl dX7_begin_80 i7 ?_
      refine cj_pc (pc' := 81) rfl ?_
      refine cj_aload_n dX7_begin_81 rfl ?_
      refine rm_get (.ref (ad 24)) flX7_61 dX7_begin_82 rfl ?_
      refine cj_aload_n dX7_begin_85 rfl ?_
      refine rm_get (.int (S.1 17)) flX7_148 dX7_begin_86 rfl ?_
      refine cj_iconst (v := 0) dX7_begin_89 (by decide) ?_
      refine cj_pc (pc' := 90) rfl ?_
      have i8 := h.1
      replace h := h.2
      refine rm_zast (j := 24) hA rfl dX7_begin_90 i8 ?_
      refine cj_eqG (G' := rm_md mo ad (rm_pa (rm_pa (rm_pa (rm_pa (rm_pa (rm_pa S 18 ((S.1 17).toNatClampNeg) a1) 22 ((S.1 17).toNatClampNeg) a2) 19 ((S.1 17).toNatClampNeg) (S.1 26)) 20 ((S.1 17).toNatClampNeg) (S.1 15)) 21 ((S.1 17).toNatClampNeg) (S.1 31)) 24 ((S.1 17).toNatClampNeg) 0) G0) rfl ?_
      refine cj_aload_n dX7_begin_91 rfl ?_
      refine rm_get (.ref (ad 25)) flX7_64 dX7_begin_92 rfl ?_
      refine cj_aload_n dX7_begin_95 rfl ?_
      refine rm_get (.int (S.1 17)) flX7_148 dX7_begin_96 rfl ?_
      refine cj_pc (pc' := 99) rfl ?_
      refine cj_iconst (v := (-1)) dX7_begin_99 (by decide) ?_
      have i9 := h.1
      replace h := h.2
      refine rm_iast (j := 25) hA rfl dX7_begin_100 i9 ?_
      refine cj_aload_n dX7_begin_101 rfl ?_
      refine cj_dup dX7_begin_102 rfl ?_
      refine rm_get (.int (S.1 17)) flX7_148 dX7_begin_103 rfl ?_
      refine cj_pc (pc' := 106) rfl ?_
      refine cj_iconst (v := 1) dX7_begin_106 (by decide) ?_
      refine cj_iadd dX7_begin_107 ?_
      refine rm_put flX7_148 dX7_begin_108 rmp_17 rfl rfl (by decide) ?_
      refine cj_aload_n dX7_begin_111 rfl ?_
      refine cj_iconst (v := 0) dX7_begin_112 (by decide) ?_
      refine cj_pc (pc' := 113) rfl ?_
      refine rm_put flX7_157 dX7_begin_113 rmp_33 rfl rfl (by decide) ?_
      refine cj_vret rfl dX7_begin_116 ?_
      exact ⟨_, rfl, rfl, h⟩
    · replace h := h.2 c2
      refine cj_vret rfl dX7_begin_21 ?_
      exact ⟨_, rfl, rfl, h⟩
  · replace h := h.2 c1
    refine cj_aload_n dX7_begin_9 rfl ?_
    refine cj_iconst (v := 1) dX7_begin_10 (by decide) ?_
    refine cj_pc (pc' := 11) rfl ?_
    refine rm_put flX7_138 dX7_begin_11 rmp_6 rfl rfl (by decide) ?_
    refine cj_aload_n dX7_begin_14 rfl ?_
    refine rm_get (.int 1) flX7_138 dX7_begin_15 rfl ?_
    refine cj_if_eq (tgt := 22) dX7_begin_18 (by decide) (fun c => absurd c (by decide)) (fun _ => ?_)
    refine cj_vret rfl dX7_begin_21 ?_
    exact ⟨_, rfl, rfl, h⟩
def wp_head (S : rm_S) (a1 : Int32) (a2 : Int32) (Q : rm_S → Prop) : Prop := (vp_in (S.1 26) 60 ∧ (vp_in (S.1 26) 60 ∧ Q (rm_pf (rm_pa (rm_pa S 27 ((S.1 26).toNatClampNeg) a1) 28 ((S.1 26).toNatClampNeg) a2) 26 ((S.1 26) + 1))))
set_option maxHeartbeats 4000000 in
set_option maxRecDepth 100000 in
theorem tR_head {mo : Nat} {ad : Nat → Nat} (hA : rm_A mo ad) {G0 : cj_G} {S : rm_S} {a1 : Int32} {a2 : Int32} {Q : rm_S → Prop} (h : wp_head S a1 a2 Q) : cj_T mX7_head 0 0 0 [.ref mo, .int a1, .int a2] (rm_md mo ad S G0) (rm_post mo ad G0 Q) cj_no := by
  refine cj_T_of (by decide +kernel) (Nat.le_of_ble_eq_true rfl) ?_
  refine cj_lvs (lv' := [(0, .ref mo), (1, .int a1), (2, .int a2)]) rfl ?_
  unfold wp_head at h
  refine cj_aload_n dX7_head_0 rfl ?_
  refine rm_get (.ref (ad 27)) flX7_67 dX7_head_1 rfl ?_
  refine cj_aload_n dX7_head_4 rfl ?_
  refine rm_get (.int (S.1 26)) flX7_151 dX7_head_5 rfl ?_
  refine cj_pc (pc' := 8) rfl ?_
  refine cj_iload_n dX7_head_8 rfl ?_
  have i1 := h.1
  replace h := h.2
  refine rm_iast (j := 27) hA rfl dX7_head_9 i1 ?_
  refine cj_aload_n dX7_head_10 rfl ?_
  refine rm_get (.ref (ad 28)) flX7_70 dX7_head_11 rfl ?_
  refine cj_aload_n dX7_head_14 rfl ?_
  refine cj_pc (pc' := 15) rfl ?_
  refine rm_get (.int (S.1 26)) flX7_151 dX7_head_15 rfl ?_
  refine cj_iload_n dX7_head_18 rfl ?_
  have i2 := h.1
  replace h := h.2
  refine rm_iast (j := 28) hA rfl dX7_head_19 i2 ?_
  refine cj_aload_n dX7_head_20 rfl ?_
  refine cj_dup dX7_head_21 rfl ?_
  refine cj_pc (pc' := 22) rfl ?_
  refine rm_get (.int (S.1 26)) flX7_151 dX7_head_22 rfl ?_
  refine cj_iconst (v := 1) dX7_head_25 (by decide) ?_
  refine cj_iadd dX7_head_26 ?_
  refine rm_put flX7_151 dX7_head_27 rmp_26 rfl rfl (by decide) ?_
  refine cj_vret rfl dX7_head_30 ?_
  exact ⟨_, rfl, rfl, h⟩
def wp_readFix (S : rm_S) (Q : rm_S → Prop) : Prop := wp_wantName S (fun x2 S3 => ((¬ (S3.1 6) = 0 → wp_wantName S3 (fun x6 S7 => ((¬ (S7.1 6) = 0 → (((S7.1 6) = 0 → wp_bind S7 x2 (fun S11 => wp_bind S11 x6 (fun S13 => wp_begin S13 7 (-1) (fun S15 => (((S15.1 6) = 0 → (vp_in ((S15.1 17) - 1) 8 ∧ (vp_in ((S15.1 17) - 1) 8 ∧ Q (rm_pa (rm_pa S15 20 (((S15.1 17) - 1).toNatClampNeg) (S7.1 15)) 23 (((S15.1 17) - 1).toNatClampNeg) (vp_nar .char x2))))) ∧ (¬ (S15.1 6) = 0 → Q S15)))))) ∧ (¬ (S7.1 6) = 0 → Q S7))) ∧ ((S7.1 6) = 0 → wp_want S7 61 (fun S20 => (((S20.1 6) = 0 → wp_bind S20 x2 (fun S23 => wp_bind S23 x6 (fun S25 => wp_begin S25 7 (-1) (fun S27 => (((S27.1 6) = 0 → (vp_in ((S27.1 17) - 1) 8 ∧ (vp_in ((S27.1 17) - 1) 8 ∧ Q (rm_pa (rm_pa S27 20 (((S27.1 17) - 1).toNatClampNeg) (S20.1 15)) 23 (((S27.1 17) - 1).toNatClampNeg) (vp_nar .char x2))))) ∧ (¬ (S27.1 6) = 0 → Q S27)))))) ∧ (¬ (S20.1 6) = 0 → Q S20))))))) ∧ ((S3.1 6) = 0 → wp_look S3 (fun x32 S33 => ((¬ x32 = x2 → wp_wantName S33 (fun x36 S37 => ((¬ (S37.1 6) = 0 → (((S37.1 6) = 0 → wp_bind S37 x2 (fun S41 => wp_bind S41 x36 (fun S43 => wp_begin S43 7 (-1) (fun S45 => (((S45.1 6) = 0 → (vp_in ((S45.1 17) - 1) 8 ∧ (vp_in ((S45.1 17) - 1) 8 ∧ Q (rm_pa (rm_pa S45 20 (((S45.1 17) - 1).toNatClampNeg) (S37.1 15)) 23 (((S45.1 17) - 1).toNatClampNeg) (vp_nar .char x2))))) ∧ (¬ (S45.1 6) = 0 → Q S45)))))) ∧ (¬ (S37.1 6) = 0 → Q S37))) ∧ ((S37.1 6) = 0 → wp_want S37 61 (fun S50 => (((S50.1 6) = 0 → wp_bind S50 x2 (fun S53 => wp_bind S53 x36 (fun S55 => wp_begin S55 7 (-1) (fun S57 => (((S57.1 6) = 0 → (vp_in ((S57.1 17) - 1) 8 ∧ (vp_in ((S57.1 17) - 1) 8 ∧ Q (rm_pa (rm_pa S57 20 (((S57.1 17) - 1).toNatClampNeg) (S50.1 15)) 23 (((S57.1 17) - 1).toNatClampNeg) (vp_nar .char x2))))) ∧ (¬ (S57.1 6) = 0 → Q S57)))))) ∧ (¬ (S50.1 6) = 0 → Q S50))))))) ∧ (x32 = x2 → wp_wantName (rm_pf S33 6 1) (fun x62 S63 => ((¬ (S63.1 6) = 0 → (((S63.1 6) = 0 → wp_bind S63 x2 (fun S67 => wp_bind S67 x62 (fun S69 => wp_begin S69 7 (-1) (fun S71 => (((S71.1 6) = 0 → (vp_in ((S71.1 17) - 1) 8 ∧ (vp_in ((S71.1 17) - 1) 8 ∧ Q (rm_pa (rm_pa S71 20 (((S71.1 17) - 1).toNatClampNeg) (S63.1 15)) 23 (((S71.1 17) - 1).toNatClampNeg) (vp_nar .char x2))))) ∧ (¬ (S71.1 6) = 0 → Q S71)))))) ∧ (¬ (S63.1 6) = 0 → Q S63))) ∧ ((S63.1 6) = 0 → wp_want S63 61 (fun S76 => (((S76.1 6) = 0 → wp_bind S76 x2 (fun S79 => wp_bind S79 x62 (fun S81 => wp_begin S81 7 (-1) (fun S83 => (((S83.1 6) = 0 → (vp_in ((S83.1 17) - 1) 8 ∧ (vp_in ((S83.1 17) - 1) 8 ∧ Q (rm_pa (rm_pa S83 20 (((S83.1 17) - 1).toNatClampNeg) (S76.1 15)) 23 (((S83.1 17) - 1).toNatClampNeg) (vp_nar .char x2))))) ∧ (¬ (S83.1 6) = 0 → Q S83)))))) ∧ (¬ (S76.1 6) = 0 → Q S76))))))))))))
set_option maxHeartbeats 4000000 in
set_option maxRecDepth 100000 in
theorem tR_readFix {mo : Nat} {ad : Nat → Nat} (hA : rm_A mo ad) {G0 : cj_G} {S : rm_S} {Q : rm_S → Prop} (h : wp_readFix S Q) : cj_T mX7_readFix 2 0 0 [.ref mo] (rm_md mo ad S G0) (rm_post mo ad G0 Q) cj_no := by
  refine cj_T_of (by decide +kernel) (Nat.le_of_ble_eq_true rfl) ?_
  refine cj_lvs (lv' := [(0, .ref mo)]) rfl ?_
  unfold wp_readFix at h
  refine cj_aload_n dX7_readFix_0 rfl ?_
  refine cj_callV (M' := mX7_wantName) (d' := 1) (k' := 0) (n' := 0) (index := 160) (np := 0) (As := []) (rest := []) dX7_readFix_1 lkX7_160 mwX7_wantName (tR_wantName hA h) (by omega) rfl rfl (Nat.le_of_ble_eq_true rfl) rm_mo rfl (fun v9 G9 q1 => ?_) (fun _ _ h => absurd h id)
  obtain ⟨x2, S3, e8, e9, h⟩ := q1
  subst e8
  subst e9
  refine cj_st (st' := [.int x2]) rfl ?_
  refine cj_istore_n (lv' := [(1, .int x2), (0, .ref mo)]) dX7_readFix_4 (by decide) rfl ?_
  refine cj_aload_n dX7_readFix_5 rfl ?_
  refine cj_pc (pc' := 6) rfl ?_
  refine rm_get (.int (S3.1 6)) flX7_138 dX7_readFix_6 rfl ?_
  refine cj_if_ne (tgt := 25) dX7_readFix_9 (by decide) (fun c4 => ?_) (fun c4 => ?_)
  · replace h := h.1 c4
    refine cj_aload_n dX7_readFix_25 rfl ?_
    refine cj_callV (M' := mX7_wantName) (d' := 1) (k' := 0) (n' := 0) (index := 160) (np := 0) (As := []) (rest := []) dX7_readFix_26 lkX7_160 mwX7_wantName (tR_wantName hA h) (by omega) rfl rfl (Nat.le_of_ble_eq_true rfl) rm_mo rfl (fun v9 G9 q5 => ?_) (fun _ _ h => absurd h id)
    obtain ⟨x6, S7, e8, e9, h⟩ := q5
    subst e8
    subst e9
    refine cj_st (st' := [.int x6]) rfl ?_
    refine cj_istore_n (lv' := [(2, .int x6), (1, .int x2), (0, .ref mo)]) dX7_readFix_29 (by decide) rfl ?_
    refine cj_pc (pc' := 30) rfl ?_
    refine cj_aload_n dX7_readFix_30 rfl ?_
    refine rm_get (.int (S7.1 6)) flX7_138 dX7_readFix_31 rfl ?_
    refine cj_if_ne (tgt := 43) dX7_readFix_34 (by decide) (fun c8 => ?_) (fun c8 => ?_)
    · replace h := h.1 c8
      refine cj_aload_n dX7_readFix_43 rfl ?_
      refine rm_get (.int (S7.1 6)) flX7_138 dX7_readFix_44 rfl ?_
      refine cj_pc (pc' := 47) rfl ?_
      refine cj_if_eq (tgt := 51) dX7_readFix_47 (by decide) (fun c9 => ?_) (fun c9 => ?_)
      · replace h := h.1 c9
        refine cj_aload_n dX7_readFix_51 rfl ?_
        refine rm_get (.int (S7.1 15)) flX7_145 dX7_readFix_52 rfl ?_
        refine cj_istore_n (lv' := [(3, .int (S7.1 15)), (2, .int x6), (1, .int x2), (0, .ref mo)]) dX7_readFix_55 (by decide) rfl ?_
        refine cj_aload_n dX7_readFix_56 rfl ?_
        refine cj_pc (pc' := 57) rfl ?_
        refine cj_iload_n dX7_readFix_57 rfl ?_
        refine cj_callV (M' := mX7_bind) (d' := 0) (k' := 0) (n' := 0) (index := 163) (np := 1) (As := [.int x2]) (rest := []) dX7_readFix_58 lkX7_163 mwX7_bind (tR_bind hA h) (by omega) rfl rfl (Nat.le_of_ble_eq_true rfl) rm_mo rfl (fun v9 G9 q10 => ?_) (fun _ _ h => absurd h id)
        obtain ⟨S11, e8, e9, h⟩ := q10
        subst e8
        subst e9
        refine cj_st (st' := []) rfl ?_
        refine cj_aload_n dX7_readFix_61 rfl ?_
        refine cj_iload_n dX7_readFix_62 rfl ?_
        refine cj_callV (M' := mX7_bind) (d' := 0) (k' := 0) (n' := 0) (index := 163) (np := 1) (As := [.int x6]) (rest := []) dX7_readFix_63 lkX7_163 mwX7_bind (tR_bind hA h) (by omega) rfl rfl (Nat.le_of_ble_eq_true rfl) rm_mo rfl (fun v9 G9 q12 => ?_) (fun _ _ h => absurd h id)
        obtain ⟨S13, e8, e9, h⟩ := q12
        subst e8
        subst e9
        refine cj_st (st' := []) rfl ?_
        refine cj_pc (pc' := 66) rfl ?_
        refine cj_aload_n dX7_readFix_66 rfl ?_
        refine cj_bipush (v := 7) dX7_readFix_67 (by decide) ?_
        refine cj_iconst (v := (-1)) dX7_readFix_69 (by decide) ?_
        refine cj_callV (M' := mX7_begin) (d' := 0) (k' := 0) (n' := 0) (index := 174) (np := 2) (As := [.int 7, .int (-1)]) (rest := []) dX7_readFix_70 lkX7_174 mwX7_begin (tR_begin hA h) (by omega) rfl rfl (Nat.le_of_ble_eq_true rfl) rm_mo rfl (fun v9 G9 q14 => ?_) (fun _ _ h => absurd h id)
        obtain ⟨S15, e8, e9, h⟩ := q14
        subst e8
        subst e9
        refine cj_st (st' := []) rfl ?_
        refine cj_aload_n dX7_readFix_73 rfl ?_
        refine cj_pc (pc' := 74) rfl ?_
        refine rm_get (.int (S15.1 6)) flX7_138 dX7_readFix_74 rfl ?_
        refine cj_if_eq (tgt := 81) dX7_readFix_77 (by decide) (fun c16 => ?_) (fun c16 => ?_)
        · replace h := h.1 c16
          refine cj_aload_n dX7_readFix_81 rfl ?_
          refine rm_get (.ref (ad 20)) flX7_49 dX7_readFix_82 rfl ?_
          refine cj_aload_n dX7_readFix_85 rfl ?_
          refine cj_pc (pc' := 86) rfl ?_
          refine rm_get (.int (S15.1 17)) flX7_148 dX7_readFix_86 rfl ?_
          refine cj_iconst (v := 1) dX7_readFix_89 (by decide) ?_
          refine cj_isub dX7_readFix_90 ?_
          refine cj_iload_n dX7_readFix_91 rfl ?_
          have i17 := h.1
          replace h := h.2
          refine rm_iast (j := 20) hA rfl dX7_readFix_92 i17 ?_
          refine cj_pc (pc' := 93) rfl ?_
          refine cj_aload_n dX7_readFix_93 rfl ?_
          refine rm_get (.ref (ad 23)) flX7_58 dX7_readFix_94 rfl ?_
          refine cj_aload_n dX7_readFix_97 rfl ?_
          refine rm_get (.int (S15.1 17)) flX7_148 dX7_readFix_98 rfl ?_
          refine cj_iconst (v := 1) dX7_readFix_101 (by decide) ?_
          refine cj_pc (pc' := 102) rfl ?_
          refine cj_isub dX7_readFix_102 ?_
          refine cj_iload_n dX7_readFix_103 rfl ?_
          have i18 := h.1
          replace h := h.2
          refine rm_cast (j := 23) hA rfl dX7_readFix_104 i18 ?_
          refine cj_vret rfl dX7_readFix_105 ?_
          exact ⟨_, rfl, rfl, h⟩
        · replace h := h.2 c16
          refine cj_vret rfl dX7_readFix_80 ?_
          exact ⟨_, rfl, rfl, h⟩
      · replace h := h.2 c9
        refine cj_vret rfl dX7_readFix_50 ?_
        exact ⟨_, rfl, rfl, h⟩
    · replace h := h.2 c8
      refine cj_aload_n dX7_readFix_37 rfl ?_
      refine cj_pc (pc' := 38) rfl ?_
      refine cj_bipush (v := 61) dX7_readFix_38 (by decide) ?_
      refine cj_callV (M' := mX7_want) (d' := 1) (k' := 0) (n' := 0) (index := 184) (np := 1) (As := [.int 61]) (rest := []) dX7_readFix_40 lkX7_184 mwX7_want (tR_want hA h) (by omega) rfl rfl (Nat.le_of_ble_eq_true rfl) rm_mo rfl (fun v9 G9 q19 => ?_) (fun _ _ h => absurd h id)
      obtain ⟨S20, e8, e9, h⟩ := q19
      subst e8
      subst e9
      refine cj_st (st' := []) rfl ?_
      refine cj_aload_n dX7_readFix_43 rfl ?_
      refine rm_get (.int (S20.1 6)) flX7_138 dX7_readFix_44 rfl ?_
      refine cj_if_eq (tgt := 51) dX7_readFix_47 (by decide) (fun c21 => ?_) (fun c21 => ?_)
      · replace h := h.1 c21
        refine cj_aload_n dX7_readFix_51 rfl ?_
        refine cj_pc (pc' := 52) rfl ?_
        refine rm_get (.int (S20.1 15)) flX7_145 dX7_readFix_52 rfl ?_
        refine cj_istore_n (lv' := [(3, .int (S20.1 15)), (2, .int x6), (1, .int x2), (0, .ref mo)]) dX7_readFix_55 (by decide) rfl ?_
        refine cj_aload_n dX7_readFix_56 rfl ?_
        refine cj_iload_n dX7_readFix_57 rfl ?_
        refine cj_callV (M' := mX7_bind) (d' := 0) (k' := 0) (n' := 0) (index := 163) (np := 1) (As := [.int x2]) (rest := []) dX7_readFix_58 lkX7_163 mwX7_bind (tR_bind hA h) (by omega) rfl rfl (Nat.le_of_ble_eq_true rfl) rm_mo rfl (fun v9 G9 q22 => ?_) (fun _ _ h => absurd h id)
        obtain ⟨S23, e8, e9, h⟩ := q22
        subst e8
        subst e9
        refine cj_st (st' := []) rfl ?_
        refine cj_pc (pc' := 61) rfl ?_
        refine cj_aload_n dX7_readFix_61 rfl ?_
        refine cj_iload_n dX7_readFix_62 rfl ?_
        refine cj_callV (M' := mX7_bind) (d' := 0) (k' := 0) (n' := 0) (index := 163) (np := 1) (As := [.int x6]) (rest := []) dX7_readFix_63 lkX7_163 mwX7_bind (tR_bind hA h) (by omega) rfl rfl (Nat.le_of_ble_eq_true rfl) rm_mo rfl (fun v9 G9 q24 => ?_) (fun _ _ h => absurd h id)
        obtain ⟨S25, e8, e9, h⟩ := q24
        subst e8
        subst e9
        refine cj_st (st' := []) rfl ?_
        refine cj_aload_n dX7_readFix_66 rfl ?_
        refine cj_bipush (v := 7) dX7_readFix_67 (by decide) ?_
        refine cj_pc (pc' := 69) rfl ?_
        refine cj_iconst (v := (-1)) dX7_readFix_69 (by decide) ?_
        refine cj_callV (M' := mX7_begin) (d' := 0) (k' := 0) (n' := 0) (index := 174) (np := 2) (As := [.int 7, .int (-1)]) (rest := []) dX7_readFix_70 lkX7_174 mwX7_begin (tR_begin hA h) (by omega) rfl rfl (Nat.le_of_ble_eq_true rfl) rm_mo rfl (fun v9 G9 q26 => ?_) (fun _ _ h => absurd h id)
        obtain ⟨S27, e8, e9, h⟩ := q26
        subst e8
        subst e9
        refine cj_st (st' := []) rfl ?_
        refine cj_aload_n dX7_readFix_73 rfl ?_
        refine rm_get (.int (S27.1 6)) flX7_138 dX7_readFix_74 rfl ?_
        refine cj_if_eq (tgt := 81) dX7_readFix_77 (by decide) (fun c28 => ?_) (fun c28 => ?_)
        · replace h := h.1 c28
          refine cj_aload_n dX7_readFix_81 rfl ?_
          refine cj_pc (pc' := 82) rfl ?_
          refine rm_get (.ref (ad 20)) flX7_49 dX7_readFix_82 rfl ?_
          refine cj_aload_n dX7_readFix_85 rfl ?_
          refine rm_get (.int (S27.1 17)) flX7_148 dX7_readFix_86 rfl ?_
          refine cj_iconst (v := 1) dX7_readFix_89 (by decide) ?_
          refine cj_isub dX7_readFix_90 ?_
          refine cj_pc (pc' := 91) rfl ?_
          refine cj_iload_n dX7_readFix_91 rfl ?_
          have i29 := h.1
          replace h := h.2
          refine rm_iast (j := 20) hA rfl dX7_readFix_92 i29 ?_
          refine cj_aload_n dX7_readFix_93 rfl ?_
          refine rm_get (.ref (ad 23)) flX7_58 dX7_readFix_94 rfl ?_
          refine cj_aload_n dX7_readFix_97 rfl ?_
          refine cj_pc (pc' := 98) rfl ?_
          refine rm_get (.int (S27.1 17)) flX7_148 dX7_readFix_98 rfl ?_
          refine cj_iconst (v := 1) dX7_readFix_101 (by decide) ?_
          refine cj_isub dX7_readFix_102 ?_
          refine cj_iload_n dX7_readFix_103 rfl ?_
          have i30 := h.1
          replace h := h.2
          refine rm_cast (j := 23) hA rfl dX7_readFix_104 i30 ?_
          refine cj_pc (pc' := 105) rfl ?_
          refine cj_vret rfl dX7_readFix_105 ?_
          exact ⟨_, rfl, rfl, h⟩
        · replace h := h.2 c28
          refine cj_vret rfl dX7_readFix_80 ?_
          exact ⟨_, rfl, rfl, h⟩
      · replace h := h.2 c21
        refine cj_vret rfl dX7_readFix_50 ?_
        exact ⟨_, rfl, rfl, h⟩
  · replace h := h.2 c4
    refine cj_aload_n dX7_readFix_12 rfl ?_
    refine cj_callV (M' := mX7_look) (d' := 0) (k' := 0) (n' := 0) (index := 134) (np := 0) (As := []) (rest := []) dX7_readFix_13 lkX7_134 mwX7_look (tR_look hA h) (by omega) rfl rfl (Nat.le_of_ble_eq_true rfl) rm_mo rfl (fun v9 G9 q31 => ?_) (fun _ _ h => absurd h id)
    obtain ⟨x32, S33, e8, e9, h⟩ := q31
    subst e8
    subst e9
    refine cj_st (st' := [.int x32]) rfl ?_
    refine cj_pc (pc' := 16) rfl ?_
    refine cj_iload_n dX7_readFix_16 rfl ?_
    refine cj_icmp_ne (tgt := 25) dX7_readFix_17 (by decide) (fun c34 => ?_) (fun c34 => ?_)
    · replace h := h.1 c34
      refine cj_aload_n dX7_readFix_25 rfl ?_
      refine cj_callV (M' := mX7_wantName) (d' := 1) (k' := 0) (n' := 0) (index := 160) (np := 0) (As := []) (rest := []) dX7_readFix_26 lkX7_160 mwX7_wantName (tR_wantName hA h) (by omega) rfl rfl (Nat.le_of_ble_eq_true rfl) rm_mo rfl (fun v9 G9 q35 => ?_) (fun _ _ h => absurd h id)
      obtain ⟨x36, S37, e8, e9, h⟩ := q35
      subst e8
      subst e9
      refine cj_st (st' := [.int x36]) rfl ?_
      refine cj_istore_n (lv' := [(2, .int x36), (1, .int x2), (0, .ref mo)]) dX7_readFix_29 (by decide) rfl ?_
      refine cj_pc (pc' := 30) rfl ?_
      refine cj_aload_n dX7_readFix_30 rfl ?_
      refine rm_get (.int (S37.1 6)) flX7_138 dX7_readFix_31 rfl ?_
      refine cj_if_ne (tgt := 43) dX7_readFix_34 (by decide) (fun c38 => ?_) (fun c38 => ?_)
      · replace h := h.1 c38
        refine cj_aload_n dX7_readFix_43 rfl ?_
        refine rm_get (.int (S37.1 6)) flX7_138 dX7_readFix_44 rfl ?_
        refine cj_pc (pc' := 47) rfl ?_
        refine cj_if_eq (tgt := 51) dX7_readFix_47 (by decide) (fun c39 => ?_) (fun c39 => ?_)
        · replace h := h.1 c39
          refine cj_aload_n dX7_readFix_51 rfl ?_
          refine rm_get (.int (S37.1 15)) flX7_145 dX7_readFix_52 rfl ?_
          refine cj_istore_n (lv' := [(3, .int (S37.1 15)), (2, .int x36), (1, .int x2), (0, .ref mo)]) dX7_readFix_55 (by decide) rfl ?_
          refine cj_aload_n dX7_readFix_56 rfl ?_
          refine cj_pc (pc' := 57) rfl ?_
          refine cj_iload_n dX7_readFix_57 rfl ?_
          refine cj_callV (M' := mX7_bind) (d' := 0) (k' := 0) (n' := 0) (index := 163) (np := 1) (As := [.int x2]) (rest := []) dX7_readFix_58 lkX7_163 mwX7_bind (tR_bind hA h) (by omega) rfl rfl (Nat.le_of_ble_eq_true rfl) rm_mo rfl (fun v9 G9 q40 => ?_) (fun _ _ h => absurd h id)
          obtain ⟨S41, e8, e9, h⟩ := q40
          subst e8
          subst e9
          refine cj_st (st' := []) rfl ?_
          refine cj_aload_n dX7_readFix_61 rfl ?_
          refine cj_iload_n dX7_readFix_62 rfl ?_
          refine cj_callV (M' := mX7_bind) (d' := 0) (k' := 0) (n' := 0) (index := 163) (np := 1) (As := [.int x36]) (rest := []) dX7_readFix_63 lkX7_163 mwX7_bind (tR_bind hA h) (by omega) rfl rfl (Nat.le_of_ble_eq_true rfl) rm_mo rfl (fun v9 G9 q42 => ?_) (fun _ _ h => absurd h id)
          obtain ⟨S43, e8, e9, h⟩ := q42
          subst e8
          subst e9
          refine cj_st (st' := []) rfl ?_
          refine cj_pc (pc' := 66) rfl ?_
          refine cj_aload_n dX7_readFix_66 rfl ?_
          refine cj_bipush (v := 7) dX7_readFix_67 (by decide) ?_
          refine cj_iconst (v := (-1)) dX7_readFix_69 (by decide) ?_
          refine cj_callV (M' := mX7_begin) (d' := 0) (k' := 0) (n' := 0) (index := 174) (np := 2) (As := [.int 7, .int (-1)]) (rest := []) dX7_readFix_70 lkX7_174 mwX7_begin (tR_begin hA h) (by omega) rfl rfl (Nat.le_of_ble_eq_true rfl) rm_mo rfl (fun v9 G9 q44 => ?_) (fun _ _ h => absurd h id)
          obtain ⟨S45, e8, e9, h⟩ := q44
          subst e8
          subst e9
          refine cj_st (st' := []) rfl ?_
          refine cj_aload_n dX7_readFix_73 rfl ?_
          refine cj_pc (pc' := 74) rfl ?_
          refine rm_get (.int (S45.1 6)) flX7_138 dX7_readFix_74 rfl ?_
          refine cj_if_eq (tgt := 81) dX7_readFix_77 (by decide) (fun c46 => ?_) (fun c46 => ?_)
          · replace h := h.1 c46
            refine cj_aload_n dX7_readFix_81 rfl ?_
            refine rm_get (.ref (ad 20)) flX7_49 dX7_readFix_82 rfl ?_
            refine cj_aload_n dX7_readFix_85 rfl ?_
            refine cj_pc (pc' := 86) rfl ?_
            refine rm_get (.int (S45.1 17)) flX7_148 dX7_readFix_86 rfl ?_
            refine cj_iconst (v := 1) dX7_readFix_89 (by decide) ?_
            refine cj_isub dX7_readFix_90 ?_
            refine cj_iload_n dX7_readFix_91 rfl ?_
            have i47 := h.1
            replace h := h.2
            refine rm_iast (j := 20) hA rfl dX7_readFix_92 i47 ?_
            refine cj_pc (pc' := 93) rfl ?_
            refine cj_aload_n dX7_readFix_93 rfl ?_
            refine rm_get (.ref (ad 23)) flX7_58 dX7_readFix_94 rfl ?_
            refine cj_aload_n dX7_readFix_97 rfl ?_
            refine rm_get (.int (S45.1 17)) flX7_148 dX7_readFix_98 rfl ?_
            refine cj_iconst (v := 1) dX7_readFix_101 (by decide) ?_
            refine cj_pc (pc' := 102) rfl ?_
            refine cj_isub dX7_readFix_102 ?_
            refine cj_iload_n dX7_readFix_103 rfl ?_
            have i48 := h.1
            replace h := h.2
            refine rm_cast (j := 23) hA rfl dX7_readFix_104 i48 ?_
            refine cj_vret rfl dX7_readFix_105 ?_
            exact ⟨_, rfl, rfl, h⟩
          · replace h := h.2 c46
            refine cj_vret rfl dX7_readFix_80 ?_
            exact ⟨_, rfl, rfl, h⟩
        · replace h := h.2 c39
          refine cj_vret rfl dX7_readFix_50 ?_
          exact ⟨_, rfl, rfl, h⟩
      · replace h := h.2 c38
        refine cj_aload_n dX7_readFix_37 rfl ?_
        refine cj_pc (pc' := 38) rfl ?_
        refine cj_bipush (v := 61) dX7_readFix_38 (by decide) ?_
        refine cj_callV (M' := mX7_want) (d' := 1) (k' := 0) (n' := 0) (index := 184) (np := 1) (As := [.int 61]) (rest := []) dX7_readFix_40 lkX7_184 mwX7_want (tR_want hA h) (by omega) rfl rfl (Nat.le_of_ble_eq_true rfl) rm_mo rfl (fun v9 G9 q49 => ?_) (fun _ _ h => absurd h id)
        obtain ⟨S50, e8, e9, h⟩ := q49
        subst e8
        subst e9
        refine cj_st (st' := []) rfl ?_
        refine cj_aload_n dX7_readFix_43 rfl ?_
        refine rm_get (.int (S50.1 6)) flX7_138 dX7_readFix_44 rfl ?_
        refine cj_if_eq (tgt := 51) dX7_readFix_47 (by decide) (fun c51 => ?_) (fun c51 => ?_)
        · replace h := h.1 c51
          refine cj_aload_n dX7_readFix_51 rfl ?_
          refine cj_pc (pc' := 52) rfl ?_
          refine rm_get (.int (S50.1 15)) flX7_145 dX7_readFix_52 rfl ?_
          refine cj_istore_n (lv' := [(3, .int (S50.1 15)), (2, .int x36), (1, .int x2), (0, .ref mo)]) dX7_readFix_55 (by decide) rfl ?_
          refine cj_aload_n dX7_readFix_56 rfl ?_
          refine cj_iload_n dX7_readFix_57 rfl ?_
          refine cj_callV (M' := mX7_bind) (d' := 0) (k' := 0) (n' := 0) (index := 163) (np := 1) (As := [.int x2]) (rest := []) dX7_readFix_58 lkX7_163 mwX7_bind (tR_bind hA h) (by omega) rfl rfl (Nat.le_of_ble_eq_true rfl) rm_mo rfl (fun v9 G9 q52 => ?_) (fun _ _ h => absurd h id)
          obtain ⟨S53, e8, e9, h⟩ := q52
          subst e8
          subst e9
          refine cj_st (st' := []) rfl ?_
          refine cj_pc (pc' := 61) rfl ?_
          refine cj_aload_n dX7_readFix_61 rfl ?_
          refine cj_iload_n dX7_readFix_62 rfl ?_
          refine cj_callV (M' := mX7_bind) (d' := 0) (k' := 0) (n' := 0) (index := 163) (np := 1) (As := [.int x36]) (rest := []) dX7_readFix_63 lkX7_163 mwX7_bind (tR_bind hA h) (by omega) rfl rfl (Nat.le_of_ble_eq_true rfl) rm_mo rfl (fun v9 G9 q54 => ?_) (fun _ _ h => absurd h id)
          obtain ⟨S55, e8, e9, h⟩ := q54
          subst e8
          subst e9
          refine cj_st (st' := []) rfl ?_
          refine cj_aload_n dX7_readFix_66 rfl ?_
          refine cj_bipush (v := 7) dX7_readFix_67 (by decide) ?_
          refine cj_pc (pc' := 69) rfl ?_
          refine cj_iconst (v := (-1)) dX7_readFix_69 (by decide) ?_
          refine cj_callV (M' := mX7_begin) (d' := 0) (k' := 0) (n' := 0) (index := 174) (np := 2) (As := [.int 7, .int (-1)]) (rest := []) dX7_readFix_70 lkX7_174 mwX7_begin (tR_begin hA h) (by omega) rfl rfl (Nat.le_of_ble_eq_true rfl) rm_mo rfl (fun v9 G9 q56 => ?_) (fun _ _ h => absurd h id)
          obtain ⟨S57, e8, e9, h⟩ := q56
          subst e8
          subst e9
          refine cj_st (st' := []) rfl ?_
          refine cj_aload_n dX7_readFix_73 rfl ?_
          refine rm_get (.int (S57.1 6)) flX7_138 dX7_readFix_74 rfl ?_
          refine cj_if_eq (tgt := 81) dX7_readFix_77 (by decide) (fun c58 => ?_) (fun c58 => ?_)
          · replace h := h.1 c58
            refine cj_aload_n dX7_readFix_81 rfl ?_
            refine cj_pc (pc' := 82) rfl ?_
            refine rm_get (.ref (ad 20)) flX7_49 dX7_readFix_82 rfl ?_
            refine cj_aload_n dX7_readFix_85 rfl ?_
            refine rm_get (.int (S57.1 17)) flX7_148 dX7_readFix_86 rfl ?_
            refine cj_iconst (v := 1) dX7_readFix_89 (by decide) ?_
            refine cj_isub dX7_readFix_90 ?_
            refine cj_pc (pc' := 91) rfl ?_
            refine cj_iload_n dX7_readFix_91 rfl ?_
            have i59 := h.1
            replace h := h.2
            refine rm_iast (j := 20) hA rfl dX7_readFix_92 i59 ?_
            refine cj_aload_n dX7_readFix_93 rfl ?_
            refine rm_get (.ref (ad 23)) flX7_58 dX7_readFix_94 rfl ?_
            refine cj_aload_n dX7_readFix_97 rfl ?_
            refine cj_pc (pc' := 98) rfl ?_
            refine rm_get (.int (S57.1 17)) flX7_148 dX7_readFix_98 rfl ?_
            refine cj_iconst (v := 1) dX7_readFix_101 (by decide) ?_
            refine cj_isub dX7_readFix_102 ?_
            refine cj_iload_n dX7_readFix_103 rfl ?_
            have i60 := h.1
            replace h := h.2
            refine rm_cast (j := 23) hA rfl dX7_readFix_104 i60 ?_
            refine cj_pc (pc' := 105) rfl ?_
            refine cj_vret rfl dX7_readFix_105 ?_
            exact ⟨_, rfl, rfl, h⟩
          · replace h := h.2 c58
            refine cj_vret rfl dX7_readFix_80 ?_
            exact ⟨_, rfl, rfl, h⟩
        · replace h := h.2 c51
          refine cj_vret rfl dX7_readFix_50 ?_
          exact ⟨_, rfl, rfl, h⟩
    · replace h := h.2 c34
      refine cj_aload_n dX7_readFix_20 rfl ?_
      refine cj_iconst (v := 1) dX7_readFix_21 (by decide) ?_
      refine cj_pc (pc' := 22) rfl ?_
      refine rm_put flX7_138 dX7_readFix_22 rmp_6 rfl rfl (by decide) ?_
      refine cj_aload_n dX7_readFix_25 rfl ?_
      refine cj_callV (M' := mX7_wantName) (d' := 1) (k' := 0) (n' := 0) (index := 160) (np := 0) (As := []) (rest := []) dX7_readFix_26 lkX7_160 mwX7_wantName (tR_wantName hA h) (by omega) rfl rfl (Nat.le_of_ble_eq_true rfl) rm_mo rfl (fun v9 G9 q61 => ?_) (fun _ _ h => absurd h id)
      obtain ⟨x62, S63, e8, e9, h⟩ := q61
      subst e8
      subst e9
      refine cj_st (st' := [.int x62]) rfl ?_
      refine cj_istore_n (lv' := [(2, .int x62), (1, .int x2), (0, .ref mo)]) dX7_readFix_29 (by decide) rfl ?_
      refine cj_aload_n dX7_readFix_30 rfl ?_
      refine cj_pc (pc' := 31) rfl ?_
      refine rm_get (.int (S63.1 6)) flX7_138 dX7_readFix_31 rfl ?_
      refine cj_if_ne (tgt := 43) dX7_readFix_34 (by decide) (fun c64 => ?_) (fun c64 => ?_)
      · replace h := h.1 c64
        refine cj_aload_n dX7_readFix_43 rfl ?_
        refine rm_get (.int (S63.1 6)) flX7_138 dX7_readFix_44 rfl ?_
        refine cj_if_eq (tgt := 51) dX7_readFix_47 (by decide) (fun c65 => ?_) (fun c65 => ?_)
        · replace h := h.1 c65
          refine cj_aload_n dX7_readFix_51 rfl ?_
          refine cj_pc (pc' := 52) rfl ?_
          refine rm_get (.int (S63.1 15)) flX7_145 dX7_readFix_52 rfl ?_
          refine cj_istore_n (lv' := [(3, .int (S63.1 15)), (2, .int x62), (1, .int x2), (0, .ref mo)]) dX7_readFix_55 (by decide) rfl ?_
          refine cj_aload_n dX7_readFix_56 rfl ?_
          refine cj_iload_n dX7_readFix_57 rfl ?_
          refine cj_callV (M' := mX7_bind) (d' := 0) (k' := 0) (n' := 0) (index := 163) (np := 1) (As := [.int x2]) (rest := []) dX7_readFix_58 lkX7_163 mwX7_bind (tR_bind hA h) (by omega) rfl rfl (Nat.le_of_ble_eq_true rfl) rm_mo rfl (fun v9 G9 q66 => ?_) (fun _ _ h => absurd h id)
          obtain ⟨S67, e8, e9, h⟩ := q66
          subst e8
          subst e9
          refine cj_st (st' := []) rfl ?_
          refine cj_pc (pc' := 61) rfl ?_
          refine cj_aload_n dX7_readFix_61 rfl ?_
          refine cj_iload_n dX7_readFix_62 rfl ?_
          refine cj_callV (M' := mX7_bind) (d' := 0) (k' := 0) (n' := 0) (index := 163) (np := 1) (As := [.int x62]) (rest := []) dX7_readFix_63 lkX7_163 mwX7_bind (tR_bind hA h) (by omega) rfl rfl (Nat.le_of_ble_eq_true rfl) rm_mo rfl (fun v9 G9 q68 => ?_) (fun _ _ h => absurd h id)
          obtain ⟨S69, e8, e9, h⟩ := q68
          subst e8
          subst e9
          refine cj_st (st' := []) rfl ?_
          refine cj_aload_n dX7_readFix_66 rfl ?_
          refine cj_bipush (v := 7) dX7_readFix_67 (by decide) ?_
          refine cj_pc (pc' := 69) rfl ?_
          refine cj_iconst (v := (-1)) dX7_readFix_69 (by decide) ?_
          refine cj_callV (M' := mX7_begin) (d' := 0) (k' := 0) (n' := 0) (index := 174) (np := 2) (As := [.int 7, .int (-1)]) (rest := []) dX7_readFix_70 lkX7_174 mwX7_begin (tR_begin hA h) (by omega) rfl rfl (Nat.le_of_ble_eq_true rfl) rm_mo rfl (fun v9 G9 q70 => ?_) (fun _ _ h => absurd h id)
          obtain ⟨S71, e8, e9, h⟩ := q70
          subst e8
          subst e9
          refine cj_st (st' := []) rfl ?_
          refine cj_aload_n dX7_readFix_73 rfl ?_
          refine rm_get (.int (S71.1 6)) flX7_138 dX7_readFix_74 rfl ?_
          refine cj_if_eq (tgt := 81) dX7_readFix_77 (by decide) (fun c72 => ?_) (fun c72 => ?_)
          · replace h := h.1 c72
            refine cj_aload_n dX7_readFix_81 rfl ?_
            refine cj_pc (pc' := 82) rfl ?_
            refine rm_get (.ref (ad 20)) flX7_49 dX7_readFix_82 rfl ?_
            refine cj_aload_n dX7_readFix_85 rfl ?_
            refine rm_get (.int (S71.1 17)) flX7_148 dX7_readFix_86 rfl ?_
            refine cj_iconst (v := 1) dX7_readFix_89 (by decide) ?_
            refine cj_isub dX7_readFix_90 ?_
            refine cj_pc (pc' := 91) rfl ?_
            refine cj_iload_n dX7_readFix_91 rfl ?_
            have i73 := h.1
            replace h := h.2
            refine rm_iast (j := 20) hA rfl dX7_readFix_92 i73 ?_
            refine cj_aload_n dX7_readFix_93 rfl ?_
            refine rm_get (.ref (ad 23)) flX7_58 dX7_readFix_94 rfl ?_
            refine cj_aload_n dX7_readFix_97 rfl ?_
            refine cj_pc (pc' := 98) rfl ?_
            refine rm_get (.int (S71.1 17)) flX7_148 dX7_readFix_98 rfl ?_
            refine cj_iconst (v := 1) dX7_readFix_101 (by decide) ?_
            refine cj_isub dX7_readFix_102 ?_
            refine cj_iload_n dX7_readFix_103 rfl ?_
            have i74 := h.1
            replace h := h.2
            refine rm_cast (j := 23) hA rfl dX7_readFix_104 i74 ?_
            refine cj_pc (pc' := 105) rfl ?_
            refine cj_vret rfl dX7_readFix_105 ?_
            exact ⟨_, rfl, rfl, h⟩
          · replace h := h.2 c72
            refine cj_vret rfl dX7_readFix_80 ?_
            exact ⟨_, rfl, rfl, h⟩
        · replace h := h.2 c65
          refine cj_vret rfl dX7_readFix_50 ?_
          exact ⟨_, rfl, rfl, h⟩
      · replace h := h.2 c64
        refine cj_aload_n dX7_readFix_37 rfl ?_
        refine cj_bipush (v := 61) dX7_readFix_38 (by decide) ?_
        refine cj_pc (pc' := 40) rfl ?_
        refine cj_callV (M' := mX7_want) (d' := 1) (k' := 0) (n' := 0) (index := 184) (np := 1) (As := [.int 61]) (rest := []) dX7_readFix_40 lkX7_184 mwX7_want (tR_want hA h) (by omega) rfl rfl (Nat.le_of_ble_eq_true rfl) rm_mo rfl (fun v9 G9 q75 => ?_) (fun _ _ h => absurd h id)
        obtain ⟨S76, e8, e9, h⟩ := q75
        subst e8
        subst e9
        refine cj_st (st' := []) rfl ?_
        refine cj_aload_n dX7_readFix_43 rfl ?_
        refine rm_get (.int (S76.1 6)) flX7_138 dX7_readFix_44 rfl ?_
        refine cj_if_eq (tgt := 51) dX7_readFix_47 (by decide) (fun c77 => ?_) (fun c77 => ?_)
        · replace h := h.1 c77
          refine cj_aload_n dX7_readFix_51 rfl ?_
          refine cj_pc (pc' := 52) rfl ?_
          refine rm_get (.int (S76.1 15)) flX7_145 dX7_readFix_52 rfl ?_
          refine cj_istore_n (lv' := [(3, .int (S76.1 15)), (2, .int x62), (1, .int x2), (0, .ref mo)]) dX7_readFix_55 (by decide) rfl ?_
          refine cj_aload_n dX7_readFix_56 rfl ?_
          refine cj_iload_n dX7_readFix_57 rfl ?_
          refine cj_callV (M' := mX7_bind) (d' := 0) (k' := 0) (n' := 0) (index := 163) (np := 1) (As := [.int x2]) (rest := []) dX7_readFix_58 lkX7_163 mwX7_bind (tR_bind hA h) (by omega) rfl rfl (Nat.le_of_ble_eq_true rfl) rm_mo rfl (fun v9 G9 q78 => ?_) (fun _ _ h => absurd h id)
          obtain ⟨S79, e8, e9, h⟩ := q78
          subst e8
          subst e9
          refine cj_st (st' := []) rfl ?_
          refine cj_pc (pc' := 61) rfl ?_
          refine cj_aload_n dX7_readFix_61 rfl ?_
          refine cj_iload_n dX7_readFix_62 rfl ?_
          refine cj_callV (M' := mX7_bind) (d' := 0) (k' := 0) (n' := 0) (index := 163) (np := 1) (As := [.int x62]) (rest := []) dX7_readFix_63 lkX7_163 mwX7_bind (tR_bind hA h) (by omega) rfl rfl (Nat.le_of_ble_eq_true rfl) rm_mo rfl (fun v9 G9 q80 => ?_) (fun _ _ h => absurd h id)
          obtain ⟨S81, e8, e9, h⟩ := q80
          subst e8
          subst e9
          refine cj_st (st' := []) rfl ?_
          refine cj_aload_n dX7_readFix_66 rfl ?_
          refine cj_bipush (v := 7) dX7_readFix_67 (by decide) ?_
          refine cj_pc (pc' := 69) rfl ?_
          refine cj_iconst (v := (-1)) dX7_readFix_69 (by decide) ?_
          refine cj_callV (M' := mX7_begin) (d' := 0) (k' := 0) (n' := 0) (index := 174) (np := 2) (As := [.int 7, .int (-1)]) (rest := []) dX7_readFix_70 lkX7_174 mwX7_begin (tR_begin hA h) (by omega) rfl rfl (Nat.le_of_ble_eq_true rfl) rm_mo rfl (fun v9 G9 q82 => ?_) (fun _ _ h => absurd h id)
          obtain ⟨S83, e8, e9, h⟩ := q82
          subst e8
          subst e9
          refine cj_st (st' := []) rfl ?_
          refine cj_aload_n dX7_readFix_73 rfl ?_
          refine rm_get (.int (S83.1 6)) flX7_138 dX7_readFix_74 rfl ?_
          refine cj_if_eq (tgt := 81) dX7_readFix_77 (by decide) (fun c84 => ?_) (fun c84 => ?_)
          · replace h := h.1 c84
            refine cj_aload_n dX7_readFix_81 rfl ?_
            refine cj_pc (pc' := 82) rfl ?_
            refine rm_get (.ref (ad 20)) flX7_49 dX7_readFix_82 rfl ?_
            refine cj_aload_n dX7_readFix_85 rfl ?_
            refine rm_get (.int (S83.1 17)) flX7_148 dX7_readFix_86 rfl ?_
            refine cj_iconst (v := 1) dX7_readFix_89 (by decide) ?_
            refine cj_isub dX7_readFix_90 ?_
            refine cj_pc (pc' := 91) rfl ?_
            refine cj_iload_n dX7_readFix_91 rfl ?_
            have i85 := h.1
            replace h := h.2
            refine rm_iast (j := 20) hA rfl dX7_readFix_92 i85 ?_
            refine cj_aload_n dX7_readFix_93 rfl ?_
            refine rm_get (.ref (ad 23)) flX7_58 dX7_readFix_94 rfl ?_
            refine cj_aload_n dX7_readFix_97 rfl ?_
            refine cj_pc (pc' := 98) rfl ?_
            refine rm_get (.int (S83.1 17)) flX7_148 dX7_readFix_98 rfl ?_
            refine cj_iconst (v := 1) dX7_readFix_101 (by decide) ?_
            refine cj_isub dX7_readFix_102 ?_
            refine cj_iload_n dX7_readFix_103 rfl ?_
            have i86 := h.1
            replace h := h.2
            refine rm_cast (j := 23) hA rfl dX7_readFix_104 i86 ?_
            refine cj_pc (pc' := 105) rfl ?_
            refine cj_vret rfl dX7_readFix_105 ?_
            exact ⟨_, rfl, rfl, h⟩
          · replace h := h.2 c84
            refine cj_vret rfl dX7_readFix_80 ?_
            exact ⟨_, rfl, rfl, h⟩
        · replace h := h.2 c77
          refine cj_vret rfl dX7_readFix_50 ?_
          exact ⟨_, rfl, rfl, h⟩
def wp_readHead (S : rm_S) (Q : rm_S → Prop) : Prop := wp_look S (fun x2 S3 => ((¬ x2 = 92 → wp_isName x2 (fun x6 => ((x6 = 0 → ((¬ x2 = 64 → ((¬ x2 = 63 → Q (rm_pf S3 33 1)) ∧ (x2 = 63 → wp_node (rm_pf S3 5 ((S3.1 5) + 1)) 8 0 (fun x11 S12 => (vp_in ((S3.1 17) - 1) 8 ∧ Q (rm_pf (rm_pa S12 25 (((S3.1 17) - 1).toNatClampNeg) x11) 33 1)))))) ∧ (x2 = 64 → wp_readFix (rm_pf S3 5 ((S3.1 5) + 1)) (fun S15 => Q S15)))) ∧ (¬ x6 = 0 → wp_behind S3 (fun x17 S18 => ((¬ x17 = 61 → ((¬ x2 = 64 → ((¬ x2 = 63 → Q (rm_pf S18 33 1)) ∧ (x2 = 63 → wp_node (rm_pf S18 5 ((S18.1 5) + 1)) 8 0 (fun x23 S24 => (vp_in ((S18.1 17) - 1) 8 ∧ Q (rm_pf (rm_pa S24 25 (((S18.1 17) - 1).toNatClampNeg) x23) 33 1)))))) ∧ (x2 = 64 → wp_readFix (rm_pf S18 5 ((S18.1 5) + 1)) (fun S27 => Q S27)))) ∧ (x17 = 61 → wp_begin (rm_pf S18 5 ((S18.1 5) + 2)) 6 (-1) (fun S29 => ((¬ (S29.1 6) = 0 → Q S29) ∧ ((S29.1 6) = 0 → (vp_in ((S29.1 17) - 1) 8 ∧ Q (rm_pa S29 23 (((S29.1 17) - 1).toNatClampNeg) (vp_nar .char x2))))))))))))) ∧ (x2 = 92 → wp_wantName (rm_pf S3 5 ((S3.1 5) + 1)) (fun x33 S34 => (((S34.1 6) = 0 → wp_bind S34 x33 (fun S37 => wp_head S37 5 (-1) (fun S39 => Q S39))) ∧ (¬ (S34.1 6) = 0 → Q S34))))))
set_option maxHeartbeats 4000000 in
set_option maxRecDepth 100000 in
theorem tR_readHead {mo : Nat} {ad : Nat → Nat} (hA : rm_A mo ad) {G0 : cj_G} {S : rm_S} {Q : rm_S → Prop} (h : wp_readHead S Q) : cj_T mX7_readHead 3 0 0 [.ref mo] (rm_md mo ad S G0) (rm_post mo ad G0 Q) cj_no := by
  refine cj_T_of (by decide +kernel) (Nat.le_of_ble_eq_true rfl) ?_
  refine cj_lvs (lv' := [(0, .ref mo)]) rfl ?_
  unfold wp_readHead at h
  refine cj_aload_n dX7_readHead_0 rfl ?_
  refine cj_callV (M' := mX7_look) (d' := 0) (k' := 0) (n' := 0) (index := 134) (np := 0) (As := []) (rest := []) dX7_readHead_1 lkX7_134 mwX7_look (tR_look hA h) (by omega) rfl rfl (Nat.le_of_ble_eq_true rfl) rm_mo rfl (fun v9 G9 q1 => ?_) (fun _ _ h => absurd h id)
  obtain ⟨x2, S3, e8, e9, h⟩ := q1
  subst e8
  subst e9
  refine cj_st (st' := [.int x2]) rfl ?_
  refine cj_istore_n (lv' := [(1, .int x2), (0, .ref mo)]) dX7_readHead_4 (by decide) rfl ?_
  refine cj_iload_n dX7_readHead_5 rfl ?_
  refine cj_pc (pc' := 6) rfl ?_
  refine cj_bipush (v := 92) dX7_readHead_6 (by decide) ?_
  refine cj_icmp_ne (tgt := 48) dX7_readHead_8 (by decide) (fun c4 => ?_) (fun c4 => ?_)
  · replace h := h.1 c4
    refine cj_iload_n dX7_readHead_48 rfl ?_
    refine cj_callS (M' := mX7_isName) (d' := 0) (k' := 0) (n' := 0) (index := 124) (np := 1) (As := [.int x2]) (rest := []) dX7_readHead_49 lkX7_124 mwX7_isName (tR_isName h) (by omega) rfl rfl (Nat.le_of_ble_eq_true rfl) (fun v9 G9 q5 => ?_) (fun _ _ h => absurd h id)
    obtain ⟨x6, e8, e9, h⟩ := q5
    subst e8
    subst e9
    refine cj_st (st' := [.int x6]) rfl ?_
    refine cj_if_eq (tgt := 103) dX7_readHead_52 (by decide) (fun c7 => ?_) (fun c7 => ?_)
    · replace h := h.1 c7
      refine cj_iload_n dX7_readHead_103 rfl ?_
      refine cj_pc (pc' := 104) rfl ?_
      refine cj_bipush (v := 64) dX7_readHead_104 (by decide) ?_
      refine cj_icmp_ne (tgt := 126) dX7_readHead_106 (by decide) (fun c8 => ?_) (fun c8 => ?_)
      · replace h := h.1 c8
        refine cj_iload_n dX7_readHead_126 rfl ?_
        refine cj_bipush (v := 63) dX7_readHead_127 (by decide) ?_
        refine cj_icmp_ne (tgt := 168) dX7_readHead_129 (by decide) (fun c9 => ?_) (fun c9 => ?_)
        · replace h := h.1 c9
          refine cj_aload_n dX7_readHead_168 rfl ?_
          refine cj_pc (pc' := 169) rfl ?_
          refine cj_iconst (v := 1) dX7_readHead_169 (by decide) ?_
          refine rm_put flX7_157 dX7_readHead_170 rmp_33 rfl rfl (by decide) ?_
          refine cj_vret rfl dX7_readHead_173 ?_
          exact ⟨_, rfl, rfl, h⟩
        · replace h := h.2 c9
          refine cj_aload_n dX7_readHead_132 rfl ?_
          refine cj_dup dX7_readHead_133 rfl ?_
          refine cj_pc (pc' := 134) rfl ?_
          refine rm_get (.int (S3.1 5)) flX7_118 dX7_readHead_134 rfl ?_
          refine cj_iconst (v := 1) dX7_readHead_137 (by decide) ?_
          refine cj_iadd dX7_readHead_138 ?_
          refine rm_put flX7_118 dX7_readHead_139 rmp_5 rfl rfl (by decide) ?_
          refine cj_aload_n dX7_readHead_142 rfl ?_
          refine cj_pc (pc' := 143) rfl ?_
          refine rm_get (.ref (ad 25)) flX7_64 dX7_readHead_143 rfl ?_
          refine cj_aload_n dX7_readHead_146 rfl ?_
          refine rm_get (.int (S3.1 17)) flX7_148 dX7_readHead_147 rfl ?_
          refine cj_iconst (v := 1) dX7_readHead_150 (by decide) ?_
          refine cj_isub dX7_readHead_151 ?_
          refine cj_pc (pc' := 152) rfl ?_
          refine cj_aload_n dX7_readHead_152 rfl ?_
          refine cj_bipush (v := 8) dX7_readHead_153 (by decide) ?_
          refine cj_iconst (v := 0) dX7_readHead_155 (by decide) ?_
          refine cj_callV (M' := mX7_node) (d' := 0) (k' := 0) (n' := 0) (index := 180) (np := 2) (As := [.int 8, .int 0]) (rest := [.int ((S3.1 17) - 1), .ref (ad 25)]) dX7_readHead_156 lkX7_180 mwX7_node (tR_node hA h) (by omega) rfl rfl (Nat.le_of_ble_eq_true rfl) rm_mo rfl (fun v9 G9 q10 => ?_) (fun _ _ h => absurd h id)
          obtain ⟨x11, S12, e8, e9, h⟩ := q10
          subst e8
          subst e9
          refine cj_st (st' := [.int x11, .int ((S3.1 17) - 1), .ref (ad 25)]) rfl ?_
          have i13 := h.1
          replace h := h.2
          refine rm_iast (j := 25) hA rfl dX7_readHead_159 i13 ?_
          refine cj_pc (pc' := 160) rfl ?_
          refine cj_aload_n dX7_readHead_160 rfl ?_
          refine cj_iconst (v := 1) dX7_readHead_161 (by decide) ?_
          refine rm_put flX7_157 dX7_readHead_162 rmp_33 rfl rfl (by decide) ?_
          refine cj_goto (tgt := 173) dX7_readHead_165 (by decide) ?_
          refine cj_vret rfl dX7_readHead_173 ?_
          exact ⟨_, rfl, rfl, h⟩
      · replace h := h.2 c8
        refine cj_aload_n dX7_readHead_109 rfl ?_
        refine cj_pc (pc' := 110) rfl ?_
        refine cj_dup dX7_readHead_110 rfl ?_
        refine rm_get (.int (S3.1 5)) flX7_118 dX7_readHead_111 rfl ?_
        refine cj_iconst (v := 1) dX7_readHead_114 (by decide) ?_
        refine cj_iadd dX7_readHead_115 ?_
        refine rm_put flX7_118 dX7_readHead_116 rmp_5 rfl rfl (by decide) ?_
        refine cj_pc (pc' := 119) rfl ?_
        refine cj_aload_n dX7_readHead_119 rfl ?_
        refine cj_callV (M' := mX7_readFix) (d' := 2) (k' := 0) (n' := 0) (index := 177) (np := 0) (As := []) (rest := []) dX7_readHead_120 lkX7_177 mwX7_readFix (tR_readFix hA h) (by omega) rfl rfl (Nat.le_of_ble_eq_true rfl) rm_mo rfl (fun v9 G9 q14 => ?_) (fun _ _ h => absurd h id)
        obtain ⟨S15, e8, e9, h⟩ := q14
        subst e8
        subst e9
        refine cj_st (st' := []) rfl ?_
        refine cj_goto (tgt := 173) dX7_readHead_123 (by decide) ?_
        refine cj_vret rfl dX7_readHead_173 ?_
        exact ⟨_, rfl, rfl, h⟩
    · replace h := h.2 c7
      refine cj_aload_n dX7_readHead_55 rfl ?_
      refine cj_pc (pc' := 56) rfl ?_
      refine cj_callV (M' := mX7_behind) (d' := 0) (k' := 0) (n' := 0) (index := 171) (np := 0) (As := []) (rest := []) dX7_readHead_56 lkX7_171 mwX7_behind (tR_behind hA h) (by omega) rfl rfl (Nat.le_of_ble_eq_true rfl) rm_mo rfl (fun v9 G9 q16 => ?_) (fun _ _ h => absurd h id)
      obtain ⟨x17, S18, e8, e9, h⟩ := q16
      subst e8
      subst e9
      refine cj_st (st' := [.int x17]) rfl ?_
      refine cj_bipush (v := 61) dX7_readHead_59 (by decide) ?_
      refine cj_icmp_ne (tgt := 103) dX7_readHead_61 (by decide) (fun c19 => ?_) (fun c19 => ?_)
      · replace h := h.1 c19
        refine cj_iload_n dX7_readHead_103 rfl ?_
        refine cj_bipush (v := 64) dX7_readHead_104 (by decide) ?_
        refine cj_pc (pc' := 106) rfl ?_
        refine cj_icmp_ne (tgt := 126) dX7_readHead_106 (by decide) (fun c20 => ?_) (fun c20 => ?_)
        · replace h := h.1 c20
          refine cj_iload_n dX7_readHead_126 rfl ?_
          refine cj_bipush (v := 63) dX7_readHead_127 (by decide) ?_
          refine cj_icmp_ne (tgt := 168) dX7_readHead_129 (by decide) (fun c21 => ?_) (fun c21 => ?_)
          · replace h := h.1 c21
            refine cj_aload_n dX7_readHead_168 rfl ?_
            refine cj_pc (pc' := 169) rfl ?_
            refine cj_iconst (v := 1) dX7_readHead_169 (by decide) ?_
            refine rm_put flX7_157 dX7_readHead_170 rmp_33 rfl rfl (by decide) ?_
            refine cj_vret rfl dX7_readHead_173 ?_
            exact ⟨_, rfl, rfl, h⟩
          · replace h := h.2 c21
            refine cj_aload_n dX7_readHead_132 rfl ?_
            refine cj_dup dX7_readHead_133 rfl ?_
            refine cj_pc (pc' := 134) rfl ?_
            refine rm_get (.int (S18.1 5)) flX7_118 dX7_readHead_134 rfl ?_
            refine cj_iconst (v := 1) dX7_readHead_137 (by decide) ?_
            refine cj_iadd dX7_readHead_138 ?_
            refine rm_put flX7_118 dX7_readHead_139 rmp_5 rfl rfl (by decide) ?_
            refine cj_aload_n dX7_readHead_142 rfl ?_
            refine cj_pc (pc' := 143) rfl ?_
            refine rm_get (.ref (ad 25)) flX7_64 dX7_readHead_143 rfl ?_
            refine cj_aload_n dX7_readHead_146 rfl ?_
            refine rm_get (.int (S18.1 17)) flX7_148 dX7_readHead_147 rfl ?_
            refine cj_iconst (v := 1) dX7_readHead_150 (by decide) ?_
            refine cj_isub dX7_readHead_151 ?_
            refine cj_pc (pc' := 152) rfl ?_
            refine cj_aload_n dX7_readHead_152 rfl ?_
            refine cj_bipush (v := 8) dX7_readHead_153 (by decide) ?_
            refine cj_iconst (v := 0) dX7_readHead_155 (by decide) ?_
            refine cj_callV (M' := mX7_node) (d' := 0) (k' := 0) (n' := 0) (index := 180) (np := 2) (As := [.int 8, .int 0]) (rest := [.int ((S18.1 17) - 1), .ref (ad 25)]) dX7_readHead_156 lkX7_180 mwX7_node (tR_node hA h) (by omega) rfl rfl (Nat.le_of_ble_eq_true rfl) rm_mo rfl (fun v9 G9 q22 => ?_) (fun _ _ h => absurd h id)
            obtain ⟨x23, S24, e8, e9, h⟩ := q22
            subst e8
            subst e9
            refine cj_st (st' := [.int x23, .int ((S18.1 17) - 1), .ref (ad 25)]) rfl ?_
            have i25 := h.1
            replace h := h.2
            refine rm_iast (j := 25) hA rfl dX7_readHead_159 i25 ?_
            refine cj_pc (pc' := 160) rfl ?_
            refine cj_aload_n dX7_readHead_160 rfl ?_
            refine cj_iconst (v := 1) dX7_readHead_161 (by decide) ?_
            refine rm_put flX7_157 dX7_readHead_162 rmp_33 rfl rfl (by decide) ?_
            refine cj_goto (tgt := 173) dX7_readHead_165 (by decide) ?_
            refine cj_vret rfl dX7_readHead_173 ?_
            exact ⟨_, rfl, rfl, h⟩
        · replace h := h.2 c20
          refine cj_aload_n dX7_readHead_109 rfl ?_
          refine cj_pc (pc' := 110) rfl ?_
          refine cj_dup dX7_readHead_110 rfl ?_
          refine rm_get (.int (S18.1 5)) flX7_118 dX7_readHead_111 rfl ?_
          refine cj_iconst (v := 1) dX7_readHead_114 (by decide) ?_
          refine cj_iadd dX7_readHead_115 ?_
          refine rm_put flX7_118 dX7_readHead_116 rmp_5 rfl rfl (by decide) ?_
          refine cj_pc (pc' := 119) rfl ?_
          refine cj_aload_n dX7_readHead_119 rfl ?_
          refine cj_callV (M' := mX7_readFix) (d' := 2) (k' := 0) (n' := 0) (index := 177) (np := 0) (As := []) (rest := []) dX7_readHead_120 lkX7_177 mwX7_readFix (tR_readFix hA h) (by omega) rfl rfl (Nat.le_of_ble_eq_true rfl) rm_mo rfl (fun v9 G9 q26 => ?_) (fun _ _ h => absurd h id)
          obtain ⟨S27, e8, e9, h⟩ := q26
          subst e8
          subst e9
          refine cj_st (st' := []) rfl ?_
          refine cj_goto (tgt := 173) dX7_readHead_123 (by decide) ?_
          refine cj_vret rfl dX7_readHead_173 ?_
          exact ⟨_, rfl, rfl, h⟩
      · replace h := h.2 c19
        refine cj_aload_n dX7_readHead_64 rfl ?_
        refine cj_pc (pc' := 65) rfl ?_
        refine cj_dup dX7_readHead_65 rfl ?_
        refine rm_get (.int (S18.1 5)) flX7_118 dX7_readHead_66 rfl ?_
        refine cj_iconst (v := 2) dX7_readHead_69 (by decide) ?_
        refine cj_iadd dX7_readHead_70 ?_
        refine rm_put flX7_118 dX7_readHead_71 rmp_5 rfl rfl (by decide) ?_
        refine cj_pc (pc' := 74) rfl ?_
        refine cj_aload_n dX7_readHead_74 rfl ?_
        refine cj_bipush (v := 6) dX7_readHead_75 (by decide) ?_
        refine cj_iconst (v := (-1)) dX7_readHead_77 (by decide) ?_
        refine cj_callV (M' := mX7_begin) (d' := 0) (k' := 0) (n' := 0) (index := 174) (np := 2) (As := [.int 6, .int (-1)]) (rest := []) dX7_readHead_78 lkX7_174 mwX7_begin (tR_begin hA h) (by omega) rfl rfl (Nat.le_of_ble_eq_true rfl) rm_mo rfl (fun v9 G9 q28 => ?_) (fun _ _ h => absurd h id)
        obtain ⟨S29, e8, e9, h⟩ := q28
        subst e8
        subst e9
        refine cj_st (st' := []) rfl ?_
        refine cj_aload_n dX7_readHead_81 rfl ?_
        refine cj_pc (pc' := 82) rfl ?_
        refine rm_get (.int (S29.1 6)) flX7_138 dX7_readHead_82 rfl ?_
        refine cj_if_ne (tgt := 173) dX7_readHead_85 (by decide) (fun c30 => ?_) (fun c30 => ?_)
        · replace h := h.1 c30
          refine cj_vret rfl dX7_readHead_173 ?_
          exact ⟨_, rfl, rfl, h⟩
        · replace h := h.2 c30
          refine cj_aload_n dX7_readHead_88 rfl ?_
          refine rm_get (.ref (ad 23)) flX7_58 dX7_readHead_89 rfl ?_
          refine cj_pc (pc' := 92) rfl ?_
          refine cj_aload_n dX7_readHead_92 rfl ?_
          refine rm_get (.int (S29.1 17)) flX7_148 dX7_readHead_93 rfl ?_
          refine cj_iconst (v := 1) dX7_readHead_96 (by decide) ?_
          refine cj_isub dX7_readHead_97 ?_
          refine cj_iload_n dX7_readHead_98 rfl ?_
          refine cj_pc (pc' := 99) rfl ?_
          have i31 := h.1
          replace h := h.2
          refine rm_cast (j := 23) hA rfl dX7_readHead_99 i31 ?_
          refine cj_goto (tgt := 173) dX7_readHead_100 (by decide) ?_
          refine cj_vret rfl dX7_readHead_173 ?_
          exact ⟨_, rfl, rfl, h⟩
  · replace h := h.2 c4
    refine cj_aload_n dX7_readHead_11 rfl ?_
    refine cj_dup dX7_readHead_12 rfl ?_
    refine cj_pc (pc' := 13) rfl ?_
    refine rm_get (.int (S3.1 5)) flX7_118 dX7_readHead_13 rfl ?_
    refine cj_iconst (v := 1) dX7_readHead_16 (by decide) ?_
    refine cj_iadd dX7_readHead_17 ?_
    refine rm_put flX7_118 dX7_readHead_18 rmp_5 rfl rfl (by decide) ?_
    refine cj_aload_n dX7_readHead_21 rfl ?_
    refine cj_pc (pc' := 22) rfl ?_
    refine cj_callV (M' := mX7_wantName) (d' := 1) (k' := 0) (n' := 0) (index := 160) (np := 0) (As := []) (rest := []) dX7_readHead_22 lkX7_160 mwX7_wantName (tR_wantName hA h) (by omega) rfl rfl (Nat.le_of_ble_eq_true rfl) rm_mo rfl (fun v9 G9 q32 => ?_) (fun _ _ h => absurd h id)
    obtain ⟨x33, S34, e8, e9, h⟩ := q32
    subst e8
    subst e9
    refine cj_st (st' := [.int x33]) rfl ?_
    refine cj_istore_n (lv' := [(2, .int x33), (1, .int x2), (0, .ref mo)]) dX7_readHead_25 (by decide) rfl ?_
    refine cj_aload_n dX7_readHead_26 rfl ?_
    refine rm_get (.int (S34.1 6)) flX7_138 dX7_readHead_27 rfl ?_
    refine cj_if_eq (tgt := 34) dX7_readHead_30 (by decide) (fun c35 => ?_) (fun c35 => ?_)
    · replace h := h.1 c35
      refine cj_aload_n dX7_readHead_34 rfl ?_
      refine cj_pc (pc' := 35) rfl ?_
      refine cj_iload_n dX7_readHead_35 rfl ?_
      refine cj_callV (M' := mX7_bind) (d' := 0) (k' := 0) (n' := 0) (index := 163) (np := 1) (As := [.int x33]) (rest := []) dX7_readHead_36 lkX7_163 mwX7_bind (tR_bind hA h) (by omega) rfl rfl (Nat.le_of_ble_eq_true rfl) rm_mo rfl (fun v9 G9 q36 => ?_) (fun _ _ h => absurd h id)
      obtain ⟨S37, e8, e9, h⟩ := q36
      subst e8
      subst e9
      refine cj_st (st' := []) rfl ?_
      refine cj_aload_n dX7_readHead_39 rfl ?_
      refine cj_iconst (v := 5) dX7_readHead_40 (by decide) ?_
      refine cj_iconst (v := (-1)) dX7_readHead_41 (by decide) ?_
      refine cj_pc (pc' := 42) rfl ?_
      refine cj_callV (M' := mX7_head) (d' := 0) (k' := 0) (n' := 0) (index := 167) (np := 2) (As := [.int 5, .int (-1)]) (rest := []) dX7_readHead_42 lkX7_167 mwX7_head (tR_head hA h) (by omega) rfl rfl (Nat.le_of_ble_eq_true rfl) rm_mo rfl (fun v9 G9 q38 => ?_) (fun _ _ h => absurd h id)
      obtain ⟨S39, e8, e9, h⟩ := q38
      subst e8
      subst e9
      refine cj_st (st' := []) rfl ?_
      refine cj_goto (tgt := 173) dX7_readHead_45 (by decide) ?_
      refine cj_vret rfl dX7_readHead_173 ?_
      exact ⟨_, rfl, rfl, h⟩
    · replace h := h.2 c35
      refine cj_vret rfl dX7_readHead_33 ?_
      exact ⟨_, rfl, rfl, h⟩
def wp_rank (a1 : Int32) (Q : Int32 → Prop) : Prop := ((¬ a1 = 32 → ((¬ a1 = 42 → ((a1 = 43 → Q 2) ∧ (¬ a1 = 43 → ((¬ a1 = 45 → Q 1) ∧ (a1 = 45 → Q 2))))) ∧ (a1 = 42 → Q 3))) ∧ (a1 = 32 → Q 4))
set_option maxHeartbeats 4000000 in
set_option maxRecDepth 100000 in
theorem tR_rank {G0 : cj_G} {a1 : Int32} {Q : Int32 → Prop} (h : wp_rank a1 Q) : cj_T mX7_rank 0 0 0 [.int a1] G0 (rm_posts G0 Q) cj_no := by
  refine cj_T_of (by decide +kernel) (Nat.le_of_ble_eq_true rfl) ?_
  refine cj_lvs (lv' := [(0, .int a1)]) rfl ?_
  unfold wp_rank at h
  refine cj_iload_n dX7_rank_0 rfl ?_
  refine cj_bipush (v := 32) dX7_rank_1 (by decide) ?_
  refine cj_icmp_ne (tgt := 10) dX7_rank_3 (by decide) (fun c1 => ?_) (fun c1 => ?_)
  · replace h := h.1 c1
    refine cj_iload_n dX7_rank_10 rfl ?_
    refine cj_pc (pc' := 11) rfl ?_
    refine cj_bipush (v := 42) dX7_rank_11 (by decide) ?_
    refine cj_icmp_ne (tgt := 20) dX7_rank_13 (by decide) (fun c2 => ?_) (fun c2 => ?_)
    · replace h := h.1 c2
      refine cj_iload_n dX7_rank_20 rfl ?_
      refine cj_bipush (v := 43) dX7_rank_21 (by decide) ?_
      refine cj_icmp_eq (tgt := 32) dX7_rank_23 (by decide) (fun c3 => ?_) (fun c3 => ?_)
      · replace h := h.1 c3
        refine cj_iconst (v := 2) dX7_rank_32 (by decide) ?_
        refine cj_pc (pc' := 33) rfl ?_
        refine cj_goto (tgt := 37) dX7_rank_33 (by decide) ?_
        refine cj_iret rfl dX7_rank_37 ?_
        exact ⟨_, rfl, rfl, h⟩
      · replace h := h.2 c3
        refine cj_iload_n dX7_rank_26 rfl ?_
        refine cj_bipush (v := 45) dX7_rank_27 (by decide) ?_
        refine cj_icmp_ne (tgt := 36) dX7_rank_29 (by decide) (fun c4 => ?_) (fun c4 => ?_)
        · replace h := h.1 c4
          refine cj_iconst (v := 1) dX7_rank_36 (by decide) ?_
          refine cj_pc (pc' := 37) rfl ?_
          refine cj_iret rfl dX7_rank_37 ?_
          exact ⟨_, rfl, rfl, h⟩
        · replace h := h.2 c4
          refine cj_iconst (v := 2) dX7_rank_32 (by decide) ?_
          refine cj_goto (tgt := 37) dX7_rank_33 (by decide) ?_
          refine cj_iret rfl dX7_rank_37 ?_
          exact ⟨_, rfl, rfl, h⟩
    · replace h := h.2 c2
      refine cj_iconst (v := 3) dX7_rank_16 (by decide) ?_
      refine cj_pc (pc' := 17) rfl ?_
      refine cj_goto (tgt := 37) dX7_rank_17 (by decide) ?_
      refine cj_iret rfl dX7_rank_37 ?_
      exact ⟨_, rfl, rfl, h⟩
  · replace h := h.2 c1
    refine cj_iconst (v := 4) dX7_rank_6 (by decide) ?_
    refine cj_goto (tgt := 37) dX7_rank_7 (by decide) ?_
    refine cj_iret rfl dX7_rank_37 ?_
    exact ⟨_, rfl, rfl, h⟩
