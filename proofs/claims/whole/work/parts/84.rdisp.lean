/-! every instruction -/
theorem lay_mk2 {s0 tg : Nat} {f f' sf : Nat → Int32} {bs : List hb_T} {u st' : List aw_T} {acc : aw_T} (h : lay f (cw s0) s0 bs) (hs : skr s0 sf (u ++ st')) (e0 : ∀ i, i < s0 + hsz bs → f' i = f i) (e1 : f' (s0 + hsz bs) = nI (16 * (u.length + 1) + tg)) (e2 : ∀ j, j < u.length → f' (s0 + hsz bs + 1 + j) = sf (st'.length + j)) (e3 : f' (s0 + hsz bs + 1 + u.length) = cw s0 acc) : lay f' (cw s0) s0 (bs ++ [(tg, u.reverse ++ [acc])]) := by
  refine lay_app (lay_eq h (fun i i1 i2 => e0 i i2)) ?_ (fun j x hj => ?_)
  · rw [e1]
    show _ = nI (16 * (u.reverse ++ [acc]).length + tg)
    rw [List.length_append, List.length_reverse]; rfl
  · have hj : (u.reverse ++ [acc])[j]? = some x := hj
    by_cases hju : j < u.length
    · rw [List.getElem?_append_left (by rw [List.length_reverse]; exact hju)] at hj
      rw [e2 j hju]
      refine hs _ x ?_
      rw [List.reverse_append, List.getElem?_append_right (by rw [List.length_reverse]; omega), List.length_reverse, show st'.length + j - st'.length = j by omega]
      exact hj
    · have hl2 := (List.getElem?_eq_some_iff.mp hj).1
      rw [List.length_append, List.length_reverse] at hl2
      have hl2 : j < u.length + 1 := hl2
      have e : j = u.length := by omega
      subst e
      rw [List.getElem?_append_right (by rw [List.length_reverse]; exact Nat.le_refl _), List.length_reverse, Nat.sub_self] at hj
      have e : acc = x := Option.some.inj hj
      rw [e3, e]
theorem sv_hd {C : List fr_C} {T : Nat → lb_T} {bs : List hb_T} {x : aw_T} {s : List aw_T} {fn k : Nat} (h : sv C T bs (x :: s) fn k) : wv bs x := by
  cases s with
  | nil => exact vv_wv h.2.1
  | cons y s =>
    rcases h with ⟨_, h, _⟩ | ⟨_, _, a, fn', e', k', rfl, _⟩
    · exact vv_wv h
    · exact odd_np _ int_odd
theorem fcs_none {C : List fr_C} {pc : Nat} {tag : Int32} : ∀ (r i : Nat), (∀ j, i ≤ j → j < i + r → ¬ (C.getD (pc + j) z3).2.1 = tag) → fcs C pc tag r i = -1 := by
  intro r
  induction r with
  | zero => intro i _; rfl
  | succ r ih =>
    intro i hP
    unfold fcs
    rw [if_neg (hP i (Nat.le_refl _) (by omega))]
    exact ih (i + 1) (fun j j1 j2 => hP j (by omega) (by omega))
theorem nI_pred2 {n : Nat} : nI (n + 1 + 1) - 2 = nI n := by
  rw [show nI (n + 1 + 1) = nI n + 2 from (nI_add n 2).symm, Int32.add_sub_cancel]
theorem nI_subl {a b : Nat} : nI (a + b) - nI a = nI b := by
  rw [← nI_add, Int32.add_comm, Int32.add_sub_cancel]
section RE
variable {N : Nat} {C : List fr_C} {T : Nat → lb_T} {A A' : am_T} {s0 : Nat} {S S' : rm_S} {Q : Int32 → rm_S → Prop} {bs : List hb_T} {op : Int32}
theorem rk_up (hk : RK N C A s0 S) (g : rg S S') (h45 : S'.1 45 = S.1 45) (a46 : S'.1 46 = nI (hsz A'.1)) (a47 : S'.1 47 = A'.2.2.2.2.2) (a49 : S'.1 49 = cw s0 A'.2.1) (a50 : S'.1 50 = cw s0 A'.2.2.1) (a51 : S'.1 51 = nI A'.2.2.2.1.length) (a52 : skr s0 (S'.2 52) A'.2.2.2.1) (a53 : S'.1 53 = nI A'.2.2.2.2.1) (a44 : rh s0 S' A'.1) : RK N C A' s0 S' := by
  obtain ⟨k1, k2, k3, k4, k5, k6, k7, k8, k9, k10, k11, k12⟩ := hk
  exact ⟨(g.1 43 (by omega)).trans k1, h45.trans k2, k3, a46, a47, a49, a50, a51, a52, a53, a44, by rw [g.2 38 (by omega)]; exact k12⟩
theorem ds_simple (h0 : ¬ op = 0) (h11 : ¬ op = 11) (h18 : ¬ op = 18) (h13 : ¬ op = 13) (h12 : ¬ op = 12) (h : wp_simple S op (fun S16 => Q 0 (rm_pf S16 53 (S16.1 53 + 1)))) : wp_disp op S Q := ⟨fun _ => ⟨fun _ => ⟨fun _ => ⟨fun _ => ⟨fun _ => h, fun h9 => absurd h9 h12⟩, fun h9 => absurd h9 h13⟩, fun h9 => absurd h9 h18⟩, fun h9 => absurd h9 h11⟩, fun h9 => absurd h9 h0⟩
set_option maxHeartbeats 8000000 in
theorem r_disp (hN : N ≤ 200) (hC : C.length ≤ 120) (h : MIA C T N A) (h' : MIA C T N A') (hk : RK N C A s0 S) (hp : a_PF C N A A') (hQ : ∀ S' : rm_S, RK N C A' s0 S' → rg S S' → S'.1 54 = S.1 54 → S'.1 55 = S.1 55 → Q 0 S') : wp_disp (a_i C A).1 S Q := by
  obtain ⟨bs, acc, env, st, pc, tn⟩ := A
  have hk' := hk
  obtain ⟨k1, k2, k3, k4, k5, k6, k7, k8, k9, k10, k11, k12⟩ := hk'
  have hm := h
  obtain ⟨h1, h2, h3⟩ := h
  obtain ⟨i1, i2, i3, i4, i5, i6, i7⟩ := h1
  obtain ⟨h1', h2', h3'⟩ := h'
  have hbv' : bv A'.1 := h1'.1
  have hz' : s0 + hsz A'.1 ≤ 400 := by omega
  have h2 : st.length ≤ 40 := h2
  have h3 : hsz bs ≤ N := h3
  have hs9 : s0 + N ≤ 400 := by omega
  have k4 : S.1 46 = nI (hsz bs) := k4
  have k5 : S.1 47 = tn := k5
  have k6 : S.1 49 = cw s0 acc := k6
  have k7 : S.1 50 = cw s0 env := k7
  have k8 : S.1 51 = nI st.length := k8
  have k9 : skr s0 (S.2 52) st := k9
  have k10 : S.1 53 = nI pc := k10
  have k11 : rh s0 S bs := k11
  have i3 : wv bs acc := i3
  have i4 : pc < C.length := i4
  have i5w : wv bs env := ev_wv i5
  have epc : S.1 53 + 1 = nI (pc + 1) := by rw [k10, nI_1]
  rcases hp with ⟨v, q1, q2, q3, rfl⟩ | ⟨v, p, x, w, q1, q2, q3, q4, q5, q6, rfl⟩ | ⟨q1, q2, rfl⟩ | ⟨op, x, y, st', q1, q2, q3, q4, q5, q6, q7, rfl⟩ | ⟨v, k, q1, q2, q3, rfl⟩ | ⟨v, q1, q2, rfl⟩ | ⟨v, x, st', q1, q2, q3, rfl⟩ | ⟨p, v, w, x, st', q1, q2, q3, q4, q5, q6, q7, rfl⟩ | ⟨p, v, w, x, st', q1, q2, q3, q4, q5, q6, q7, rfl⟩ | ⟨q1, q2, rfl⟩ | ⟨v, q1, q2, q3, q4, rfl⟩ | ⟨t, q1, q2, q3, rfl⟩ | ⟨t, u, st', q1, q2, q3, q4, q5, q6, q7, rfl⟩ | ⟨n, q, q1, q2, q3, q4, q5, q6, rfl⟩ | ⟨v, p, bb, q1, q2, q3, q4, q5, q6, q7, q8, rfl⟩
  · have c0 : (a_i C (bs, acc, env, st, pc, tn)).1 = 1 := q2
    have c1 : (a_i C (bs, acc, env, st, pc, tn)).2.1 = nI v := q3
    rw [c0]
    refine ds_simple (by decide) (by decide) (by decide) (by decide) (by decide) ?_
    unfold wp_simple
    simp (config := {decide := true}) only [true_implies, false_implies, not_true_eq_false, not_false_eq_true, and_true, true_and]
    refine rq_a hC hk i4 ?_
    rw [c1]
    exact hQ _ (rk_up hk (rg_f (rg_f rg.rf (by omega)) (by omega)) rfl k4 k5 nI_odd k7 k8 k9 epc k11) (rg_f (rg_f rg.rf (by omega)) (by omega)) rfl rfl
  · have c0 : (a_i C (bs, acc, env, st, pc, tn)).1 = 2 := q2
    have c1 : (a_i C (bs, acc, env, st, pc, tn)).2.1 = nI v := q3
    rw [c0]
    refine ds_simple (by decide) (by decide) (by decide) (by decide) (by decide) ?_
    unfold wp_simple
    simp (config := {decide := true}) only [true_implies, false_implies, not_true_eq_false, not_false_eq_true, and_true, true_and]
    refine ⟨v + 1, ?_⟩
    rw [k7]
    refine rs_fo hC hk i4 c1 q1 v 0 env (by omega) (ev_le (e := 1) i1 q4) ?_
    rw [show ax (bs, acc, env, st, pc, tn).1 v env = .inr p from q5]
    refine rh_f (k := 0) (x := x) k11 q6 rfl ?_
    exact hQ _ (rk_up hk (rg_f (rg_f rg.rf (by omega)) (by omega)) rfl k4 k5 rfl k7 k8 k9 epc k11) (rg_f (rg_f rg.rf (by omega)) (by omega)) rfl rfl
  · have c0 : (a_i C (bs, acc, env, st, pc, tn)).1 = 3 := q1
    rw [c0]
    refine ds_simple (by decide) (by decide) (by decide) (by decide) (by decide) ?_
    unfold wp_simple
    simp (config := {decide := true}) only [true_implies, false_implies, not_true_eq_false, not_false_eq_true, and_true, true_and]
    refine ⟨by rw [k8]; exact nI_vp q2 (by omega), ?_⟩
    rw [k8, nI_clamp (by omega), k6, nI_1]
    exact hQ _ (rk_up hk (rg_f (rg_f (rg_a rg.rf (by omega)) (by omega)) (by omega)) rfl k4 k5 k6 k7 rfl (skr_push k9) epc k11) (rg_f (rg_f (rg_a rg.rf (by omega)) (by omega)) (by omega)) rfl rfl
  · subst q6 q7
    have c0 : (a_i C (bs, .inl y, env, .inl x :: st', pc, tn)).1 = nI op := q3
    rw [c0]
    obtain ⟨t1, t2, t3⟩ := rd_top hk h2 rfl
    have t3 : S.2 52 (S.1 51 - 1).toNatClampNeg = x := t3
    have k6 : S.1 49 = y := k6
    have fin : ∀ v9 : Int32, v9 = mc_op op (x >>> ((1 : Int32) &&& 31)) (y >>> ((1 : Int32) &&& 31)) → Q 0 (rm_pf (rm_pf (rm_pf S 51 (nI st'.length)) 49 v9) 53 ((rm_pf (rm_pf S 51 (nI st'.length)) 49 v9).1 53 + 1)) := fun v9 e9 => by
      subst e9
      exact hQ _ (rk_up hk (rg_f (rg_f (rg_f rg.rf (by omega)) (by omega)) (by omega)) rfl k4 k5 rfl k7 rfl (skr_pop k9) epc k11) (rg_f (rg_f (rg_f rg.rf (by omega)) (by omega)) (by omega)) rfl rfl
    have ho : op = 4 ∨ op = 5 ∨ op = 6 ∨ op = 7 ∨ op = 8 := by omega
    rcases ho with rfl | rfl | rfl | rfl | rfl
    · refine ds_simple (by decide) (by decide) (by decide) (by decide) (by decide) ?_
      rw [show nI 4 = 4 from rfl]
      unfold wp_simple
      simp (config := {decide := true}) only [true_implies, false_implies, not_true_eq_false, not_false_eq_true, and_true, true_and]
      unfold wp_calculate
      simp (config := {decide := true}) only [true_implies, false_implies, not_true_eq_false, not_false_eq_true, and_true, true_and]
      rw [t3, k6, shl1, t1]
      exact ⟨by rw [← t1]; exact t2, fun _ => fin _ rfl, fun _ => fin _ rfl⟩
    · refine ds_simple (by decide) (by decide) (by decide) (by decide) (by decide) ?_
      rw [show nI 5 = 5 from rfl]
      unfold wp_simple
      simp (config := {decide := true}) only [true_implies, false_implies, not_true_eq_false, not_false_eq_true, and_true, true_and]
      unfold wp_calculate
      simp (config := {decide := true}) only [true_implies, false_implies, not_true_eq_false, not_false_eq_true, and_true, true_and]
      rw [t3, k6, shl1, t1]
      exact ⟨by rw [← t1]; exact t2, fun _ => fin _ rfl, fun _ => fin _ rfl⟩
    · refine ds_simple (by decide) (by decide) (by decide) (by decide) (by decide) ?_
      rw [show nI 6 = 6 from rfl]
      unfold wp_simple
      simp (config := {decide := true}) only [true_implies, false_implies, not_true_eq_false, not_false_eq_true, and_true, true_and]
      unfold wp_calculate
      simp (config := {decide := true}) only [true_implies, false_implies, not_true_eq_false, not_false_eq_true, and_true, true_and]
      rw [t3, k6, shl1, t1]
      exact ⟨by rw [← t1]; exact t2, fun _ => fin _ rfl, fun _ => fin _ rfl⟩
    · refine ds_simple (by decide) (by decide) (by decide) (by decide) (by decide) ?_
      rw [show nI 7 = 7 from rfl]
      unfold wp_simple
      simp (config := {decide := true}) only [true_implies, false_implies, not_true_eq_false, not_false_eq_true, and_true, true_and]
      unfold wp_calculate
      simp (config := {decide := true}) only [true_implies, false_implies, not_true_eq_false, not_false_eq_true, and_true, true_and]
      rw [t3, k6, t1]
      refine ⟨by rw [← t1]; exact t2, fun h9 => fin _ ?_, fun h9 => fin _ ?_⟩
      · show _ = if x >>> ((1 : Int32) &&& 31) < y >>> ((1 : Int32) &&& 31) then 18 else 2
        rw [if_neg (Int32.not_lt.mpr h9)]
      · show _ = if x >>> ((1 : Int32) &&& 31) < y >>> ((1 : Int32) &&& 31) then 18 else 2
        rw [if_pos (Int32.not_le.mp h9)]
    · refine ds_simple (by decide) (by decide) (by decide) (by decide) (by decide) ?_
      rw [show nI 8 = 8 from rfl]
      unfold wp_simple
      simp (config := {decide := true}) only [true_implies, false_implies, not_true_eq_false, not_false_eq_true, and_true, true_and]
      unfold wp_calculate
      simp (config := {decide := true}) only [true_implies, false_implies, not_true_eq_false, not_false_eq_true, and_true, true_and]
      rw [t3, k6, t1]
      refine ⟨by rw [← t1]; exact t2, fun h9 => fin _ ?_, fun h9 => fin _ ?_⟩
      · show _ = if x >>> ((1 : Int32) &&& 31) = y >>> ((1 : Int32) &&& 31) then 18 else 2
        rw [if_neg h9]
      · show _ = if x >>> ((1 : Int32) &&& 31) = y >>> ((1 : Int32) &&& 31) then 18 else 2
        rw [if_pos h9]
  · have fin : k < 16 → wp_block S (nI k) (cw s0 (.inl (nI (2 * v + 1)))) (cw s0 env) (fun x42 S43 => Q 0 (rm_pf (rm_pf S43 49 x42) 53 ((rm_pf S43 49 x42).1 53 + 1))) := fun hk16 => by
      refine rb_block hk16 k2 k4 k11 (odd_np _ int_odd) i5w (by have q3 : hsz bs + 3 ≤ N := q3; omega) (fun S' g1 g2 g3 g4 => ?_)
      have g : rg S (rm_pf (rm_pf S' 49 (cw s0 (.inr (hsz bs)))) 53 ((rm_pf S' 49 (cw s0 (.inr (hsz bs)))).1 53 + 1)) := rg_f (rg_f ⟨fun j hj => g3 j (by omega), fun j hj => g4 j (by omega)⟩ (by omega)) (by omega)
      refine hQ _ (rk_up hk g (g3 45 (by omega)) g2 ((g3 47 (by omega)).trans k5) rfl ((g3 50 (by omega)).trans k7) ((g3 51 (by omega)).trans k8) ?_ ?_ g1) g (g3 54 (by omega)) (g3 55 (by omega))
      · show skr s0 (S'.2 52) st
        rw [g4 52 (by omega)]; exact k9
      · show S'.1 53 + 1 = nI (pc + 1)
        rw [g3 53 (by omega)]; exact epc
    have c1 : (a_i C (bs, acc, env, st, pc, tn)).2.1 = nI v := q2
    rcases q1 with ⟨q1, rfl⟩ | ⟨q1, rfl⟩
    · have c0 : (a_i C (bs, acc, env, st, pc, tn)).1 = 9 := q1
      rw [c0]
      refine ds_simple (by decide) (by decide) (by decide) (by decide) (by decide) ?_
      unfold wp_simple
      simp (config := {decide := true}) only [true_implies, false_implies, not_true_eq_false, not_false_eq_true, and_true, true_and]
      refine rq_a hC hk i4 ?_
      rw [c1, nI_odd, k7]
      exact fin (by omega)
    · have c0 : (a_i C (bs, acc, env, st, pc, tn)).1 = 10 := q1
      rw [c0]
      refine ds_simple (by decide) (by decide) (by decide) (by decide) (by decide) ?_
      unfold wp_simple
      simp (config := {decide := true}) only [true_implies, false_implies, not_true_eq_false, not_false_eq_true, and_true, true_and]
      refine rq_a hC hk i4 ?_
      rw [c1, nI_odd, k7]
      exact fin (by omega)
  · have c0 : (a_i C (bs, acc, env, st, pc, tn)).1 = 11 := q1
    have c1 : (a_i C (bs, acc, env, st, pc, tn)).2.1 = nI v := q2
    rw [c0]
    unfold wp_disp
    simp (config := {decide := true}) only [true_implies, false_implies, not_true_eq_false, not_false_eq_true, and_true, true_and]
    refine rq_a hC hk i4 ?_
    rw [c1]
    exact hQ _ (rk_up hk (rg_f rg.rf (by omega)) rfl k4 k5 k6 k7 k8 k9 rfl k11) (rg_f rg.rf (by omega)) rfl rfl
  · subst q3
    have c0 : (a_i C (bs, acc, env, .inl (nI (2 * v + 1)) :: x :: st', pc, tn)).1 = 12 := q1
    rw [c0]
    unfold wp_disp
    simp (config := {decide := true}) only [true_implies, false_implies, not_true_eq_false, not_false_eq_true, and_true, true_and]
    have h2 : st'.length + 1 + 1 ≤ 40 := h2
    have e1 : S.1 51 - 2 = nI st'.length := by rw [k8]; exact nI_pred2
    have t1 : S.2 52 (st'.length + 1) = nI (2 * v + 1) := skr_top k9
    have t2 : S.2 52 st'.length = cw s0 x := skr_top (skr_pop k9)
    rw [e1, nI_1, nI_clamp (by omega), nI_clamp (by omega), t1, t2, int_shr v (by omega)]
    refine ⟨nI_vp (by omega) (by omega), nI_vp (by omega) (by omega), ?_⟩
    exact hQ _ (rk_up hk (rg_f (rg_f (rg_f rg.rf (by omega)) (by omega)) (by omega)) rfl k4 k5 k6 rfl rfl (skr_pop (skr_pop k9)) rfl k11) (rg_f (rg_f (rg_f rg.rf (by omega)) (by omega)) (by omega)) rfl rfl
  · subst q3 q5
    have c0 : (a_i C (bs, .inr p, env, x :: st', pc, tn)).1 = 13 := q1
    rw [c0]
    unfold wp_disp
    simp (config := {decide := true}) only [true_implies, false_implies, not_true_eq_false, not_false_eq_true, and_true, true_and]
    unfold wp_apply
    obtain ⟨t1, t2, t3⟩ := rd_top hk h2 rfl
    have hxv : wv bs x := sv_hd i6
    have h2 : st'.length + 1 < 40 := q6
    have hwv : wv bs w := (i1 _ (bk_lt q4).2).2.2 w (by simp)
    have ev1 : S.2 52 (S.1 51 - 1).toNatClampNeg = cw s0 x := t3
    have eodd : (2 : Int32) * (S.1 53 + 1) + 1 = nI (2 * (pc + 1) + 1) := by rw [epc]; exact nI_odd
    have hsk : skr s0 (upd (upd (S.2 52) st'.length (cw s0 env)) (st'.length + 1) (nI (2 * (pc + 1) + 1))) (.inl (nI (2 * (pc + 1) + 1)) :: env :: st') := skr_push (x := .inl (nI (2 * (pc + 1) + 1))) (skr_push (x := env) (skr_pop k9))
    have k8 : S.1 51 = nI (st'.length + 1) := k8
    have k6 : S.1 49 = nI (4 * (p + s0)) := k6
    refine ⟨t2, t2, by rw [k8]; exact nI_vp h2 (by omega), ?_⟩
    rw [ev1, t1, eodd, k8, nI_clamp (by omega), nI_clamp (by omega), k7, nI_1, k6]
    refine rh_f (k := 1) (x := w) k11 q4 rfl (rh_k k11 q4 ⟨fun _ => ?_, fun h9 => absurd h9 (show ¬ nI 8 = 9 by decide)⟩)
    refine rb_block (k := 10) (w1 := x) (w2 := w) (by omega) k2 k4 k11 hxv hwv (by omega) (fun S' g1 g2 g3 g4 => ?_)
    refine rh_f (k := 0) (x := .inl (nI (2 * v + 1))) g1 (bk_app q4) rfl ?_
    rw [show cw s0 (.inl (nI (2 * v + 1))) = nI (2 * v + 1) from rfl, int_shr v (by omega)]
    have g : rg S (rm_pf (rm_pf S' 50 (cw s0 (.inr (hsz bs)))) 53 (nI v)) := rg_f (rg_f ⟨fun j hj => (g3 j (by omega)).trans ((rg_f (rg_f (rg_a (rg_a rg.rf (by omega)) (by omega)) (by omega)) (by omega) : rg S _).1 j hj), fun j hj => (g4 j (by omega)).trans ((rg_f (rg_f (rg_a (rg_a rg.rf (by omega)) (by omega)) (by omega)) (by omega) : rg S _).2 j hj)⟩ (by omega)) (by omega)
    refine hQ _ (rk_up hk g (g3 45 (by omega)) g2 ((g3 47 (by omega)).trans k5) ((g3 49 (by omega)).trans k6) rfl (g3 51 (by omega)) ?_ rfl g1) g (g3 54 (by omega)) (g3 55 (by omega))
    show skr s0 (S'.2 52) _
    rw [g4 52 (by omega)]; exact hsk
  · subst q3 q5
    have c0 : (a_i C (bs, .inr p, env, x :: st', pc, tn)).1 = 13 := q1
    rw [c0]
    unfold wp_disp
    simp (config := {decide := true}) only [true_implies, false_implies, not_true_eq_false, not_false_eq_true, and_true, true_and]
    unfold wp_apply
    obtain ⟨t1, t2, t3⟩ := rd_top hk h2 rfl
    have hxv : wv bs x := sv_hd i6
    have h2 : st'.length + 1 < 40 := q6
    have hwv : wv bs w := (i1 _ (bk_lt q4).2).2.2 w (by simp)
    have ev1 : S.2 52 (S.1 51 - 1).toNatClampNeg = cw s0 x := t3
    have eodd : (2 : Int32) * (S.1 53 + 1) + 1 = nI (2 * (pc + 1) + 1) := by rw [epc]; exact nI_odd
    have hsk : skr s0 (upd (upd (S.2 52) st'.length (cw s0 env)) (st'.length + 1) (nI (2 * (pc + 1) + 1))) (.inl (nI (2 * (pc + 1) + 1)) :: env :: st') := skr_push (x := .inl (nI (2 * (pc + 1) + 1))) (skr_push (x := env) (skr_pop k9))
    have k8 : S.1 51 = nI (st'.length + 1) := k8
    have k6 : S.1 49 = nI (4 * (p + s0)) := k6
    refine ⟨t2, t2, by rw [k8]; exact nI_vp h2 (by omega), ?_⟩
    rw [ev1, t1, eodd, k8, nI_clamp (by omega), nI_clamp (by omega), k7, nI_1, k6]
    have esz : hsz (bs ++ [(10, [(.inr p : aw_T), w])]) = hsz bs + 3 := by rw [hsz_app]; rfl
    refine rh_f (k := 1) (x := w) k11 q4 rfl (rh_k k11 q4 ⟨fun h9 => absurd (show nI 9 = 9 from rfl) h9, fun _ => ?_⟩)
    refine rb_block (k := 10) (w1 := .inr p) (w2 := w) (by omega) k2 k4 k11 i3 hwv (by omega) (fun S' g1 g2 g3 g4 => ?_)
    refine rb_block (k := 10) (w1 := x) (w2 := .inr (hsz bs)) (by omega) ((g3 45 (by omega)).trans k2) g2 g1 (wv_app hxv) wv_top (by rw [esz]; have q7 : hsz bs + 6 ≤ N := q7; omega) (fun S2 f1 f2 f3 f4 => ?_)
    refine rh_f (k := 0) (x := .inl (nI (2 * v + 1))) f1 (bk_app (bk_app q4)) rfl ?_
    rw [show cw s0 (.inl (nI (2 * v + 1))) = nI (2 * v + 1) from rfl, int_shr v (by omega), esz]
    have g0 : rg S S' := ⟨fun j hj => (g3 j (by omega)).trans ((rg_f (rg_f (rg_a (rg_a rg.rf (by omega)) (by omega)) (by omega)) (by omega) : rg S _).1 j hj), fun j hj => (g4 j (by omega)).trans ((rg_f (rg_f (rg_a (rg_a rg.rf (by omega)) (by omega)) (by omega)) (by omega) : rg S _).2 j hj)⟩
    have g : rg S (rm_pf (rm_pf S2 50 (cw s0 (.inr (hsz bs + 3)))) 53 (nI v)) := rg_f (rg_f ⟨fun j hj => (f3 j (by omega)).trans ((rg_f g0 (by omega)).1 j hj), fun j hj => (f4 j (by omega)).trans (g0.2 j hj)⟩ (by omega)) (by omega)
    refine hQ _ (rk_up hk g ((f3 45 (by omega)).trans (g3 45 (by omega))) f2 ((f3 47 (by omega)).trans ((g3 47 (by omega)).trans k5)) ((f3 49 (by omega)).trans ((g3 49 (by omega)).trans k6)) rfl ((f3 51 (by omega)).trans (g3 51 (by omega))) ?_ rfl f1) g ((f3 54 (by omega)).trans (g3 54 (by omega))) ((f3 55 (by omega)).trans (g3 55 (by omega)))
    show skr s0 (S2.2 52) _
    rw [f4 52 (by omega)]
    show skr s0 (S'.2 52) _
    rw [g4 52 (by omega)]; exact hsk
  · have c0 : (a_i C (bs, acc, env, st, pc, tn)).1 = 14 := q1
    rw [c0]
    refine ds_simple (by decide) (by decide) (by decide) (by decide) (by decide) ?_
    unfold wp_simple
    simp (config := {decide := true}) only [true_implies, false_implies, not_true_eq_false, not_false_eq_true, and_true, true_and]
    rw [k6, k7]
    refine rb_block (k := 10) (by omega) k2 k4 k11 i3 i5w (by have q2 : hsz bs + 3 ≤ N := q2; omega) (fun S' g1 g2 g3 g4 => ?_)
    have g : rg S (rm_pf (rm_pf S' 50 (cw s0 (.inr (hsz bs)))) 53 ((rm_pf S' 50 (cw s0 (.inr (hsz bs)))).1 53 + 1)) := rg_f (rg_f ⟨fun j hj => g3 j (by omega), fun j hj => g4 j (by omega)⟩ (by omega)) (by omega)
    refine hQ _ (rk_up hk g (g3 45 (by omega)) g2 ((g3 47 (by omega)).trans k5) ((g3 49 (by omega)).trans k6) rfl ((g3 51 (by omega)).trans k8) ?_ ?_ g1) g (g3 54 (by omega)) (g3 55 (by omega))
    · show skr s0 (S'.2 52) st
      rw [g4 52 (by omega)]; exact k9
    · show S'.1 53 + 1 = nI (pc + 1)
      rw [g3 53 (by omega)]; exact epc
  · have c0 : (a_i C (bs, acc, env, st, pc, tn)).1 = 15 := q2
    have c1 : (a_i C (bs, acc, env, st, pc, tn)).2.1 = nI v := q3
    rw [c0]
    refine ds_simple (by decide) (by decide) (by decide) (by decide) (by decide) ?_
    unfold wp_simple
    simp (config := {decide := true}) only [true_implies, false_implies, not_true_eq_false, not_false_eq_true, and_true, true_and]
    refine ⟨v + 1, ?_⟩
    rw [k7]
    refine rs_fo hC hk i4 c1 (by omega) v 0 env (by omega) q4 ?_
    exact hQ _ (rk_up hk (rg_f (rg_f rg.rf (by omega)) (by omega)) rfl k4 k5 k6 rfl k8 k9 epc k11) (rg_f (rg_f rg.rf (by omega)) (by omega)) rfl rfl
  · have c0 : (a_i C (bs, acc, env, st, pc, tn)).1 = 16 := q2
    have c1 : (a_i C (bs, acc, env, st, pc, tn)).2.1 = nI t := q3
    rw [c0]
    refine ds_simple (by decide) (by decide) (by decide) (by decide) (by decide) ?_
    unfold wp_simple
    simp (config := {decide := true}) only [true_implies, false_implies, not_true_eq_false, not_false_eq_true, and_true, true_and]
    refine rq_a hC hk i4 ?_
    rw [c1]
    exact hQ _ (rk_up hk (rg_f (rg_f rg.rf (by omega)) (by omega)) rfl k4 k5 (by show (4 : Int32) * nI t + 2 = nI (4 * t + 2); rw [nI_4]; exact nI_add _ 2) k7 k8 k9 epc k11) (rg_f (rg_f rg.rf (by omega)) (by omega)) rfl rfl
  · subst q5
    have c0 : (a_i C (bs, acc, env, u ++ st', pc, tn)).1 = 17 := q3
    have c1 : (a_i C (bs, acc, env, u ++ st', pc, tn)).2.1 = nI t := q4
    rw [c0]
    refine ds_simple (by decide) (by decide) (by decide) (by decide) (by decide) ?_
    unfold wp_simple
    simp (config := {decide := true}) only [true_implies, false_implies, not_true_eq_false, not_false_eq_true, and_true, true_and]
    unfold wp_make
    refine rq_a hC hk i4 (rq_a hC hk i4 ?_)
    have hl : (u ++ st').length = u.length + st'.length := List.length_append
    have hul : u.length + 1 < 4 := by omega
    rw [c1, nI_m4 q1, ← q6, k2, k4, nI_add, nI_clamp (by omega)]
    refine ⟨nI_vp (by omega) (by omega), u.length + 1, ?_⟩
    rw [show (16 : Int32) * nI (u.length + 1) + nI t = nI (16 * (u.length + 1) + t) by rw [show (16 : Int32) * nI (u.length + 1) = nI (16 * (u.length + 1)) from (Int32.ofNat_mul 16 _).symm, nI_add], nI_pred, k8, show nI (u ++ st').length - nI u.length = nI st'.length by rw [hl]; exact nI_subl]
    refine mk_loop (D := st'.length) (n := u.length) (by omega) (by omega) u.length 0 _ (by omega) rfl (fun S' g1 g2 g3 => ?_)
    have e46 : S'.1 46 = nI (hsz bs) := by rw [g1]; exact k4
    have e49 : S'.1 49 = cw s0 acc := by rw [g1]; exact k6
    rw [nI_add, nI_clamp (by omega), e46, e49, show (1 : Int32) + nI (u.length + 1) = nI (1 + (u.length + 1)) from nI_add 1 _, nI_add, nI_4]
    refine ⟨nI_vp (by omega) (by omega), ?_⟩
    have g44 : ∀ i, S'.2 44 i = if s0 + hsz bs + 1 ≤ i ∧ i < s0 + hsz bs + 1 + u.length then S.2 52 (st'.length + (i - (s0 + hsz bs + 1))) else upd (S.2 44) (s0 + hsz bs) (nI (16 * (u.length + 1) + t)) i := fun i => by
      have := g3 i
      rw [Nat.add_zero] at this; exact this
    have g0 : rg S S' := ⟨fun j hj => by rw [g1]; exact (rg_f (rg_a rg.rf (by omega)) (by omega) : rg S _).1 j hj, fun j hj => by rw [g2 j (by omega)]; exact (rg_f (rg_a rg.rf (by omega)) (by omega) : rg S _).2 j hj⟩
    have g : ∀ v1 v2 v3 v4 : Int32, rg S (rm_pf (rm_pf (rm_pf (rm_pa S' 44 (s0 + hsz bs + (u.length + 1)) v1) 46 v2) 49 v3) 53 v4) := fun v1 v2 v3 v4 => rg_f (rg_f (rg_f (rg_a g0 (by omega)) (by omega)) (by omega)) (by omega)
    have esz : hsz (bs ++ [(t, u.reverse ++ [acc])]) = hsz bs + (1 + (u.length + 1)) := by
      rw [hsz_app]; show hsz bs + (1 + (u.reverse ++ [acc]).length) = _; rw [List.length_append, List.length_reverse]; rfl
    refine hQ _ (rk_up hk (g _ _ _ _) (by show S'.1 45 = _; rw [g1]; rfl) (by rw [esz]; rfl) (by show S'.1 47 = _; rw [g1]; exact k5) (by show nI (4 * (s0 + hsz bs)) = nI (4 * (hsz bs + s0)); rw [Nat.add_comm]) (by show S'.1 50 = _; rw [g1]; exact k7) (by show S'.1 51 = _; rw [g1]; rfl) ?_ (by show S'.1 53 + 1 = nI (pc + 1); rw [g1]; exact epc) ⟨?_, hbv', hz'⟩) (g _ _ _ _) (by show S'.1 54 = _; rw [g1]; rfl) (by show S'.1 55 = _; rw [g1]; rfl)
    · show skr s0 (S'.2 52) st'
      rw [g2 52 (by omega)]
      intro c y hc
      have hcl := (List.getElem?_eq_some_iff.mp hc).1
      exact k9 c y (by rw [List.reverse_append, List.getElem?_append_left hcl]; exact hc)
    · show lay (upd (S'.2 44) (s0 + hsz bs + (u.length + 1)) (cw s0 acc)) (cw s0) s0 (bs ++ [(t, u.reverse ++ [acc])])
      refine lay_mk2 k11.1 k9 (fun i hi => ?_) ?_ (fun j hj => ?_) ?_
      · rw [upd_n (by omega), g44, if_neg (by omega), upd_n (by omega)]
      · rw [upd_n (by omega), g44, if_neg (by omega), upd_s]
      · rw [upd_n (by omega), g44, if_pos (by omega), show s0 + hsz bs + 1 + j - (s0 + hsz bs + 1) = j by omega]
      · rw [show s0 + hsz bs + 1 + u.length = s0 + hsz bs + (u.length + 1) by omega, upd_s]
  · have c0 : (a_i C (bs, acc, env, st, pc, tn)).1 = 18 := q2
    have c1 : (a_i C (bs, acc, env, st, pc, tn)).2.1 = nI n := q3
    rw [c0]
    unfold wp_disp
    simp (config := {decide := true}) only [true_implies, false_implies, not_true_eq_false, not_false_eq_true, and_true, true_and]
    refine rk_find hC hm hk q1 c1 (fun j j1 j2 => (q5 j j1 j2).1) (fun h9 => ?_) ?_
    · have e9 := fcs_none (C := C) (pc := pc) (tag := -1) n 1 (fun j j1 j2 => (q5 j j1 (by omega)).2)
      have q6 : fcs C pc (co bs acc) n 1 = nI q := q6
      have h9 : co bs acc = -1 := h9
      rw [h9, e9] at q6
      exact m1_ne (by omega) q6
    · rw [show fcs C (bs, acc, env, st, pc, tn).2.2.2.2.1 (co (bs, acc, env, st, pc, tn).1 (bs, acc, env, st, pc, tn).2.1) n 1 = nI q from q6]
      exact hQ _ (rk_up hk (rg_f rg.rf (by omega)) rfl k4 k5 k6 k7 k8 k9 rfl k11) (rg_f rg.rf (by omega)) rfl rfl
  · subst q5
    have c0 : (a_i C (bs, .inr p, env, st, pc, tn)).1 = 20 := q3
    have c1 : (C.getD pc z3).2.1 = nI v := q4
    rw [c0]
    refine ds_simple (by decide) (by decide) (by decide) (by decide) (by decide) ?_
    unfold wp_simple
    simp (config := {decide := true}) only [true_implies, false_implies, not_true_eq_false, not_false_eq_true, and_true, true_and]
    refine ⟨bb.2.length + 1, ?_⟩
    rw [k6]
    refine rs_open hN hC i4 (by omega) c1 bb.2 0 bs env S hk i5w q6 (fun c x hc => by rw [Nat.zero_add]; exact hc) (by omega) (by have q8 : hsz bs + 3 * v ≤ N := q8; omega) (fun S' g1 g2 g3 g4 => ?_)
    obtain ⟨l1, l2, l3, l4, l5, l6, l7, l8, l9, l10, l11, l12⟩ := g1
    have l10 : S'.1 53 = nI pc := l10
    refine hQ _ ⟨l1, l2, l3, l4, l5, l6, l7, l8, l9, ?_, l11, l12⟩ (rg_f g2 (by omega)) g3 g4
    show S'.1 53 + 1 = nI (pc + 1)
    rw [l10, nI_1]
end RE
