/-! THE CLASS DOES AN INSTRUCTION -/
theorem int_shr : ∀ a, a < 130 → nI (2 * a + 1) >>> ((1 : Int32) &&& 31) = nI a := by decide
theorem nI_odd {a : Nat} : (2 : Int32) * nI a + 1 = nI (2 * a + 1) := by
  rw [show (2 : Int32) * nI a = nI (2 * a) from (Int32.ofNat_mul 2 a).symm]; exact nI_1 _
theorem bv_app {bs : List hb_T} {k : Nat} {ws : List aw_T} (h : bv bs) (hk : k < 16) (hw : ws.length < 4) (hv : ∀ w ∈ ws, wv bs w) : bv (bs ++ [(k, ws)]) := by
  intro b hb9
  rcases List.mem_append.mp hb9 with hb9 | hb9
  · obtain ⟨a1, a2, a3⟩ := h b hb9
    exact ⟨a1, a2, fun w hw9 => wv_app (a3 w hw9)⟩
  · rw [List.mem_singleton] at hb9; subst hb9
    exact ⟨hk, hw, fun w hw9 => wv_app (hv w hw9)⟩
theorem lay_pair {s0 k : Nat} {f : Nat → Int32} {bs : List hb_T} {w1 w2 : aw_T} (h : lay f (cw s0) s0 bs) : lay (upd (upd (upd f (s0 + hsz bs) (nI (32 + k))) (s0 + hsz bs + 1) (cw s0 w1)) (s0 + hsz bs + 2) (cw s0 w2)) (cw s0) s0 (bs ++ [(k, [w1, w2])]) := by
  refine lay_app (lay_eq h (fun i i1 i2 => ?_)) ?_ (fun j x hj => ?_)
  · rw [upd_n (by omega), upd_n (by omega), upd_n (by omega)]
  · rw [upd_n (by omega), upd_n (by omega), upd_s]
    show nI (32 + k) = nI (16 * 2 + k)
    rfl
  · have hj : [w1, w2][j]? = some x := hj
    match j, hj with
    | 0, hj =>
      have e : w1 = x := Option.some.inj hj
      rw [← e, Nat.add_zero, upd_n (by omega), upd_s]
    | 1, hj =>
      have e : w2 = x := Option.some.inj hj
      rw [← e, show s0 + hsz bs + 1 + 1 = s0 + hsz bs + 2 by omega, upd_s]
    | j + 2, hj => simp at hj
theorem mc_pair_eq {f : Nat → Int32} {t k : Nat} {x y : Int32} : mc_pair f t (nI k) x y = upd (upd (upd f (0 + t) (nI (32 + k))) (0 + t + 1) x) (0 + t + 2) y := by
  unfold mc_pair
  rw [Nat.zero_add, show (16 : Int32) * 2 + nI k = nI (32 + k) from nI_add 32 k]
theorem mc_puts_at {sf : Nat → Int32} : ∀ (r i : Nat) (f : Nat → Int32) (t j : Nat), (mc_puts sf r i f t).1 j = if t ≤ j ∧ j < t + r then sf (i + (j - t)) else f j := by
  intro r
  induction r with
  | zero => intro i f t j; show f j = _; rw [if_neg (by omega)]
  | succ r ih =>
    intro i f t j
    show (mc_puts sf r (i + 1) (upd f t (sf i)) (t + 1)).1 j = _
    rw [ih]
    by_cases h1 : t + 1 ≤ j ∧ j < t + 1 + r
    · rw [if_pos h1, if_pos (by omega), show i + 1 + (j - (t + 1)) = i + (j - t) by omega]
    · rw [if_neg h1]
      by_cases h2 : j = t
      · rw [h2, upd_s, if_pos (by omega), Nat.sub_self]; rfl
      · rw [upd_n h2, if_neg (by omega)]
/-- the constructor's block -/
theorem lay_mk {f sf : Nat → Int32} {bs : List hb_T} {u st' : List aw_T} {tg : Nat} {acc : aw_T} (h : lay f (cw 0) 0 bs) (hs : skr 0 sf (u ++ st')) : lay (mc_mk f (hsz bs) sf (u ++ st').length u.length (nI tg) (cw 0 acc)) (cw 0) 0 (bs ++ [(tg, u.reverse ++ [acc])]) := by
  have hh : (16 : Int32) * nI (u.length + 1) + nI tg = nI (16 * (u.length + 1) + tg) := by
    rw [show (16 : Int32) * nI (u.length + 1) = nI (16 * (u.length + 1)) from (Int32.ofNat_mul 16 _).symm, nI_add]
  have hlen : (u ++ st').length - u.length = st'.length := by rw [List.length_append]; omega
  unfold mc_mk
  rw [hlen, hh]
  refine lay_app (lay_eq h (fun i i1 i2 => ?_)) ?_ (fun j x hj => ?_)
  · rw [upd_n (by omega), mc_puts_at, if_neg (by omega), upd_n (by omega)]
  · rw [upd_n (by omega), mc_puts_at, if_neg (by omega), Nat.zero_add, upd_s]
    show _ = nI (16 * (u.reverse ++ [acc]).length + tg)
    rw [List.length_append, List.length_reverse]; rfl
  · have hj : (u.reverse ++ [acc])[j]? = some x := hj
    rw [Nat.zero_add]
    by_cases hju : j < u.length
    · rw [List.getElem?_append_left (by rw [List.length_reverse]; exact hju)] at hj
      rw [upd_n (by omega), mc_puts_at, if_pos (by omega), show hsz bs + 1 + j - (hsz bs + 1) = j by omega]
      refine hs _ x ?_
      rw [List.reverse_append, List.getElem?_append_right (by rw [List.length_reverse]; omega), List.length_reverse, show st'.length + j - st'.length = j by omega]
      exact hj
    · have hl2 := (List.getElem?_eq_some_iff.mp hj).1
      rw [List.length_append, List.length_reverse] at hl2
      have hl2 : j < u.length + 1 := hl2
      have e : j = u.length := by omega
      subst e
      rw [List.getElem?_append_right (by rw [List.length_reverse]; exact Nat.le_refl _), List.length_reverse, Nat.sub_self] at hj
      have e : acc = x := Option.some.inj hj
      rw [upd_s, e]
/-- a block opened -/
theorem ch_open {p : Nat} {b : hb_T} : ∀ (l : List aw_T) (k : Nat) (f : Nat → Int32) (bs : List hb_T) (env : aw_T), hc f (hsz bs) bs → bk bs p = some b → wv bs env → (∀ (c : Nat) (x : aw_T), l[c]? = some x → b.2[k + c]? = some x) → hsz bs + 3 * l.length ≤ 200 → hc (mc_open (nI (4 * p)) l.length (k + 1) f (hsz bs) (cw 0 env)).1 (hsz (opb l bs env).1) (opb l bs env).1 ∧ (mc_open (nI (4 * p)) l.length (k + 1) f (hsz bs) (cw 0 env)).2.1 = hsz (opb l bs env).1 ∧ (mc_open (nI (4 * p)) l.length (k + 1) f (hsz bs) (cw 0 env)).2.2 = cw 0 (opb l bs env).2 := by
  intro l
  induction l with
  | nil => intro k f bs env h _ _ _ _; exact ⟨h, rfl, rfl⟩
  | cons x t ih =>
    intro k f bs env h hb he hl hz
    have hz : hsz bs + 3 * (t.length + 1) ≤ 200 := hz
    have hx : b.2[k]? = some x := hl 0 x rfl
    have hkl := (List.getElem?_eq_some_iff.mp hx).1
    have hbv := h.2.2.1 b (bk_lt hb).2
    have hw : hp_wo f (nI (hsz bs)) (nI (4 * p)) (nI (k + 1)) = cw 0 x := by
      rw [hc_wo h hb hkl, List.getD_eq_getElem?_getD, hx]; rfl
    have hxv : wv bs x := hbv.2.2 x (List.mem_of_getElem? hx)
    have hsz1 : hsz (bs ++ [(10, [x, env])]) = hsz bs + 3 := by rw [hsz_app]; rfl
    have hc1 : hc (mc_pair f (hsz bs) 10 (cw 0 x) (cw 0 env)) (hsz (bs ++ [(10, [x, env])])) (bs ++ [(10, [x, env])]) := by
      refine ⟨?_, rfl, bv_app h.2.2.1 (by omega) (by show 2 < 4; omega) (fun y hy => ?_), by omega⟩
      · have := lay_pair (k := 10) (w1 := x) (w2 := env) h.1
        rw [← mc_pair_eq] at this; exact this
      · rcases List.mem_cons.mp hy with rfl | hy
        · exact hxv
        · rw [List.mem_singleton] at hy; subst hy; exact he
    have := ih (k + 1) (mc_pair f (hsz bs) 10 (cw 0 x) (cw 0 env)) (bs ++ [(10, [x, env])]) (.inr (hsz bs)) hc1 (bk_app hb) wv_top (fun c y hc => by
      rw [show k + 1 + c = k + (c + 1) by omega]; exact hl (c + 1) y hc) (by omega)
    have e : mc_open (nI (4 * p)) (x :: t).length (k + 1) f (hsz bs) (cw 0 env) = mc_open (nI (4 * p)) t.length (k + 1 + 1) (mc_pair f (hsz bs) 10 (cw 0 x) (cw 0 env)) (hsz (bs ++ [(10, [x, env])])) (cw 0 (.inr (hsz bs))) := by
      show mc_open (nI (4 * p)) t.length (k + 1 + 1) (mc_pair f (hsz bs) 10 (hp_wo f (nI (hsz bs)) (nI (4 * p)) (nI (k + 1))) (cw 0 env)) (hsz bs + 3) (4 * nI (hsz bs)) = _
      rw [hw, hsz1, nI_4]; rfl
    rw [e]
    exact this
section CP
variable {m pg pa o sk a b c N : Nat} {f g mv sf pf f' sf' : Nat → Int32} {cp9 hl rs : Int32} {C : List fr_C} {T : Nat → lb_T} {A A' : am_T} {G G' : cj_G}
theorem ck_up {x1 x2 x3 x4 hl' rs' t' tn' : Int32} (hk : CK m pg pa o sk a b c N f g mv sf pf cp9 C A hl rs G) (p1 : G' m = some (.inr (2, [.ref pg, .ref o, .ref sk, .int x1, .int x2, .int x3, .int x4, .int hl', .int rs']))) (p2 : G' sk = some (.inl (0, 40, .inl sf'))) (p3 : G' o = some (.inr (1, [.ref a, .ref b, .ref c, .int t', .int cp9, .int tn']))) (p4 : G' a = some (.inl (0, N, .inl f'))) (p5 : cj_fr [m, sk, o, a] G G') (e1 : x1 = nI A'.2.2.2.1.length) (e2 : x2 = cw 0 A'.2.1) (e3 : x3 = cw 0 A'.2.2.1) (e4 : x4 = nI A'.2.2.2.2.1) (e5 : t' = nI (hsz A'.1)) (e6 : tn' = A'.2.2.2.2.2) (q1 : hc f' (hsz A'.1) A'.1) (q2 : skr 0 sf' A'.2.2.2.1) : CK m pg pa o sk a b c N f' g mv sf' pf cp9 C A' hl' rs' G' := by
  obtain ⟨k1, k2, k3, k4, k5, k6, k7, k8, k9, k10, k11, k12⟩ := hk
  obtain ⟨n1, n2, n3, n4, n5, n6, n7, n8, n9, n10⟩ := k12
  subst e1 e2 e3 e4 e5 e6
  refine ⟨p1, p3, p4, p5 b _ ?_ k4, p5 c _ ?_ k5, p2, p5 pg _ ?_ k7, p5 pa _ ?_ k8, q1, q2, k11, n1, n2, n3, n4, n5, n6, n7, n8, n9, n10⟩
  · exact cj_ni4 (cj_nao k4 k1) n5.symm (cj_nao k4 k2) n1.symm
  · exact cj_ni4 (cj_nao k5 k1) n6.symm (cj_nao k5 k2) n2.symm
  · exact cj_ni4 (cj_noo k7 k1 (by omega)) (cj_noa k7 k6) (cj_noo k7 k2 (by omega)) (cj_noa k7 k3)
  · exact cj_ni4 (cj_nao k8 k1) n10 (cj_nao k8 k2) n7
set_option maxHeartbeats 8000000 in
theorem cl_perf (hN : N ≤ 200) (hC : C.length ≤ 120) (h : MIA C T N A) (h' : MIA C T N A') (hp : a_PF C N A A') (hk : CK m pg pa o sk a b c N f g mv sf pf cp9 C A hl rs G) : cj_T mX2_perform 6 0 0 [.ref m, .int (a_i C A).1, .int (a_i C A).2.1] G (fun v G' => v = none ∧ ∃ f' sf' : Nat → Int32, CK m pg pa o sk a b c N f' g mv sf' pf cp9 C A' hl rs G' ∧ cj_fr [m, sk, o, a] G G') cj_no := by
  have hk' := hk
  obtain ⟨k1, k2, k3, k4, k5, k6, k7, k8, k9, k10, k11, n1, n2, n3, n4, n5, n6, n7, n8, n9, n10⟩ := hk'
  obtain ⟨bs, acc, env, st, pc, tn⟩ := A
  obtain ⟨h1, h2, h3⟩ := h
  obtain ⟨i1, i2, i3, i4, i5, i6, i7⟩ := h1
  obtain ⟨h1', h2', h3'⟩ := h'
  have z200 : hsz bs ≤ 200 := k9.2.2.2
  have hbv' : bv A'.1 := h1'.1
  have hz' : hsz A'.1 ≤ 200 := Nat.le_trans h3' hN
  rcases hp with ⟨v, q1, q2, q3, rfl⟩ | ⟨v, p, x, w, q1, q2, q3, q4, q5, q6, rfl⟩ | ⟨q1, q2, rfl⟩ | ⟨op, x, y, st', q1, q2, q3, q4, q5, q6, q7, rfl⟩ | ⟨v, k, q1, q2, q3, rfl⟩ | ⟨v, q1, q2, rfl⟩ | ⟨v, x, st', q1, q2, q3, rfl⟩ | ⟨p, v, w, x, st', q1, q2, q3, q4, q5, q6, q7, rfl⟩ | ⟨p, v, w, x, st', q1, q2, q3, q4, q5, q6, q7, rfl⟩ | ⟨q1, q2, rfl⟩ | ⟨v, q1, q2, q3, q4, rfl⟩ | ⟨t, q1, q2, q3, rfl⟩ | ⟨t, u, st', q1, q2, q3, q4, q5, q6, q7, rfl⟩ | ⟨n, q, q1, q2, q3, q4, q5, q6, rfl⟩ | ⟨v, p, bb, q1, q2, q3, q4, q5, q6, q7, q8, rfl⟩
  · have c0 : (a_i C (bs, acc, env, st, pc, tn)).1 = 1 := q2
    have c1 : (a_i C (bs, acc, env, st, pc, tn)).2.1 = nI v := q3
    rw [c0, c1]
    refine cj_T.mono (t_perform_1 (q := 0) (k_m := k1) (k_sk := k6) (k_o := k2) (k_a := k3) (hN := hN) (k_pg := k7) (k_pa := k8) (hln := hC) (n_sk_a := n4) (n_pa_a := n7) (n_pa_sk := n10) (hht := h2) (ht9 := h3) (hq := by omega)) (fun v9 G9 q9 => ?_) (fun _ _ h9 => h9)
    obtain ⟨r0, r1, r2, r3, r4, r5⟩ := q9
    exact ⟨r0, _, _, ck_up hk r1 r2 r3 r4 r5 (rfl) (nI_odd) (rfl) (nI_1 pc) (rfl) rfl (k9) (k10), r5⟩
  · have c0 : (a_i C (bs, acc, env, st, pc, tn)).1 = 2 := q2
    have c1 : (a_i C (bs, acc, env, st, pc, tn)).2.1 = nI v := q3
    rw [c0, c1]
    have hfo := ch_fo k9 v 1 env q4
    have hwo := hc_wo (k := 0) k9 q6 (by show 0 < 2; omega)
    refine cj_T.mono (t_perform_2 (x := 0) (q := v) (k_m := k1) (k_sk := k6) (k_o := k2) (k_a := k3) (hN := hN) (k_pg := k7) (k_pa := k8) (hln := hC) (n_sk_a := n4) (n_pa_a := n7) (n_pa_sk := n10) (hht := h2) (ht9 := h3) (hq := by omega)) (fun v9 G9 q9 => ?_) (fun _ _ h9 => h9)
    obtain ⟨r0, r1, r2, r3, r4, r5⟩ := q9
    exact ⟨r0, _, _, ck_up hk r1 r2 r3 r4 r5 (rfl) ((by show hp_wo f (nI (hsz bs)) (mc_fo f (hsz bs) v (cw 0 env)) 1 = cw 0 x; rw [hfo, q5]; exact hwo)) (rfl) (nI_1 pc) (rfl) rfl (k9) (k10), r5⟩
  · have c0 : (a_i C (bs, acc, env, st, pc, tn)).1 = 3 := q1
    rw [c0]
    refine cj_T.mono (t_perform_3 (q := 0) (k_m := k1) (k_sk := k6) (k_o := k2) (k_a := k3) (hN := hN) (k_pg := k7) (k_pa := k8) (hln := hC) (n_sk_a := n4) (n_pa_a := n7) (n_pa_sk := n10) (hht := h2) (ht9 := h3) (hq := by omega) (hht2 := q2)) (fun v9 G9 q9 => ?_) (fun _ _ h9 => h9)
    obtain ⟨r0, r1, r2, r3, r4, r5⟩ := q9
    exact ⟨r0, _, _, ck_up hk r1 r2 r3 r4 r5 (rfl) (rfl) (rfl) (nI_1 pc) (rfl) rfl (k9) (skr_push k10), r5⟩
  · subst q6 q7
    have c0 : (a_i C (bs, .inl y, env, .inl x :: st', pc, tn)).1 = nI op := q3
    rw [c0]
    have htop : mc_top sf (st'.length + 1) = x := by
      show (if st'.length + 1 = 0 then -4 else sf (st'.length + 1 - 1)) = _
      rw [if_neg (by omega), Nat.add_sub_cancel]; exact skr_top k10
    have ho : op = 4 ∨ op = 5 ∨ op = 6 ∨ op = 7 ∨ op = 8 := by omega
    rcases ho with rfl | rfl | rfl | rfl | rfl
    · refine cj_T.mono (t_perform_4 (q := 0) (k_m := k1) (k_sk := k6) (k_o := k2) (k_a := k3) (hN := hN) (k_pg := k7) (k_pa := k8) (hln := hC) (n_sk_a := n4) (n_pa_a := n7) (n_pa_sk := n10) (hht := h2) (ht9 := h3) (hq := by omega)) (fun v9 G9 q9 => ?_) (fun _ _ h9 => h9)
      obtain ⟨r0, r1, r2, r3, r4, r5⟩ := q9
      exact ⟨r0, _, _, ck_up hk r1 r2 r3 r4 r5 rfl (by show mc_op 4 (mc_top sf (st'.length + 1) >>> _) _ = _; rw [htop]; rfl) rfl (nI_1 pc) rfl rfl k9 (skr_pop k10), r5⟩
    · refine cj_T.mono (t_perform_5 (q := 0) (k_m := k1) (k_sk := k6) (k_o := k2) (k_a := k3) (hN := hN) (k_pg := k7) (k_pa := k8) (hln := hC) (n_sk_a := n4) (n_pa_a := n7) (n_pa_sk := n10) (hht := h2) (ht9 := h3) (hq := by omega)) (fun v9 G9 q9 => ?_) (fun _ _ h9 => h9)
      obtain ⟨r0, r1, r2, r3, r4, r5⟩ := q9
      exact ⟨r0, _, _, ck_up hk r1 r2 r3 r4 r5 rfl (by show mc_op 5 (mc_top sf (st'.length + 1) >>> _) _ = _; rw [htop]; rfl) rfl (nI_1 pc) rfl rfl k9 (skr_pop k10), r5⟩
    · refine cj_T.mono (t_perform_6 (q := 0) (k_m := k1) (k_sk := k6) (k_o := k2) (k_a := k3) (hN := hN) (k_pg := k7) (k_pa := k8) (hln := hC) (n_sk_a := n4) (n_pa_a := n7) (n_pa_sk := n10) (hht := h2) (ht9 := h3) (hq := by omega)) (fun v9 G9 q9 => ?_) (fun _ _ h9 => h9)
      obtain ⟨r0, r1, r2, r3, r4, r5⟩ := q9
      exact ⟨r0, _, _, ck_up hk r1 r2 r3 r4 r5 rfl (by show mc_op 6 (mc_top sf (st'.length + 1) >>> _) _ = _; rw [htop]; rfl) rfl (nI_1 pc) rfl rfl k9 (skr_pop k10), r5⟩
    · refine cj_T.mono (t_perform_7 (q := 0) (k_m := k1) (k_sk := k6) (k_o := k2) (k_a := k3) (hN := hN) (k_pg := k7) (k_pa := k8) (hln := hC) (n_sk_a := n4) (n_pa_a := n7) (n_pa_sk := n10) (hht := h2) (ht9 := h3) (hq := by omega)) (fun v9 G9 q9 => ?_) (fun _ _ h9 => h9)
      obtain ⟨r0, r1, r2, r3, r4, r5⟩ := q9
      exact ⟨r0, _, _, ck_up hk r1 r2 r3 r4 r5 rfl (by show mc_op 7 (mc_top sf (st'.length + 1) >>> _) _ = _; rw [htop]; rfl) rfl (nI_1 pc) rfl rfl k9 (skr_pop k10), r5⟩
    · refine cj_T.mono (t_perform_8 (q := 0) (k_m := k1) (k_sk := k6) (k_o := k2) (k_a := k3) (hN := hN) (k_pg := k7) (k_pa := k8) (hln := hC) (n_sk_a := n4) (n_pa_a := n7) (n_pa_sk := n10) (hht := h2) (ht9 := h3) (hq := by omega)) (fun v9 G9 q9 => ?_) (fun _ _ h9 => h9)
      obtain ⟨r0, r1, r2, r3, r4, r5⟩ := q9
      exact ⟨r0, _, _, ck_up hk r1 r2 r3 r4 r5 rfl (by show mc_op 8 (mc_top sf (st'.length + 1) >>> _) _ = _; rw [htop]; rfl) rfl (nI_1 pc) rfl rfl k9 (skr_pop k10), r5⟩
  · have hlay := fun k => lay_pair (k := k) (w1 := .inl (nI (2 * v + 1))) (w2 := env) k9.1
    rcases q1 with ⟨q1, rfl⟩ | ⟨q1, rfl⟩
    · have c0 : (a_i C (bs, acc, env, st, pc, tn)).1 = 9 := q1
      have c1 : (a_i C (bs, acc, env, st, pc, tn)).2.1 = nI v := q2
      rw [c0, c1]
      refine cj_T.mono (t_perform_9 (q := 0) (k_m := k1) (k_sk := k6) (k_o := k2) (k_a := k3) (hN := hN) (k_pg := k7) (k_pa := k8) (hln := hC) (n_sk_a := n4) (n_pa_a := n7) (n_pa_sk := n10) (hht := h2) (ht9 := h3) (hq := by omega) (hroom := q3)) (fun v9 G9 q9 => ?_) (fun _ _ h9 => h9)
      obtain ⟨r0, r1, r2, r3, r4, r5⟩ := q9
      refine ⟨r0, _, _, ck_up hk r1 r2 r3 r4 r5 rfl nI_4 rfl (nI_1 pc) (by show nI (hsz bs + 3) = nI (hsz (bs ++ [_])); rw [hsz_app]; rfl) rfl ⟨?_, rfl, hbv', hz'⟩ k10, r5⟩
      have := hlay 8
      rw [← mc_pair_eq] at this
      rw [nI_odd]; exact this
    · have c0 : (a_i C (bs, acc, env, st, pc, tn)).1 = 10 := q1
      have c1 : (a_i C (bs, acc, env, st, pc, tn)).2.1 = nI v := q2
      rw [c0, c1]
      refine cj_T.mono (t_perform_10 (q := 0) (k_m := k1) (k_sk := k6) (k_o := k2) (k_a := k3) (hN := hN) (k_pg := k7) (k_pa := k8) (hln := hC) (n_sk_a := n4) (n_pa_a := n7) (n_pa_sk := n10) (hht := h2) (ht9 := h3) (hq := by omega) (hroom := q3)) (fun v9 G9 q9 => ?_) (fun _ _ h9 => h9)
      obtain ⟨r0, r1, r2, r3, r4, r5⟩ := q9
      refine ⟨r0, _, _, ck_up hk r1 r2 r3 r4 r5 rfl nI_4 rfl (nI_1 pc) (by show nI (hsz bs + 3) = nI (hsz (bs ++ [_])); rw [hsz_app]; rfl) rfl ⟨?_, rfl, hbv', hz'⟩ k10, r5⟩
      have := hlay 9
      rw [← mc_pair_eq] at this
      rw [nI_odd]; exact this
  · have c0 : (a_i C (bs, acc, env, st, pc, tn)).1 = 11 := q1
    have c1 : (a_i C (bs, acc, env, st, pc, tn)).2.1 = nI v := q2
    rw [c0, c1]
    refine cj_T.mono (t_perform_11 (q := 0) (k_m := k1) (k_sk := k6) (k_o := k2) (k_a := k3) (hN := hN) (k_pg := k7) (k_pa := k8) (hln := hC) (n_sk_a := n4) (n_pa_a := n7) (n_pa_sk := n10) (hht := h2) (ht9 := h3) (hq := by omega)) (fun v9 G9 q9 => ?_) (fun _ _ h9 => h9)
    obtain ⟨r0, r1, r2, r3, r4, r5⟩ := q9
    exact ⟨r0, _, _, ck_up hk r1 r2 r3 r4 r5 (rfl) (rfl) (rfl) (rfl) (rfl) rfl (k9) (k10), r5⟩
  · subst q3
    have c0 : (a_i C (bs, acc, env, .inl (nI (2 * v + 1)) :: x :: st', pc, tn)).1 = 12 := q1
    rw [c0]
    refine cj_T.mono (t_perform_12 (q := 0) (k_m := k1) (k_sk := k6) (k_o := k2) (k_a := k3) (hN := hN) (k_pg := k7) (k_pa := k8) (hln := hC) (n_sk_a := n4) (n_pa_a := n7) (n_pa_sk := n10) (hht := h2) (ht9 := h3) (hq := by omega)) (fun v9 G9 q9 => ?_) (fun _ _ h9 => h9)
    obtain ⟨r0, r1, r2, r3, r4, r5⟩ := q9
    have hk10 := skr_pop k10
    refine ⟨r0, _, _, ck_up hk r1 r2 r3 r4 r5 rfl rfl ?_ ?_ rfl rfl k9 (skr_pop hk10), r5⟩
    · show mc_top sf (st'.length + 1 + 1 - 1) = cw 0 x
      show (if st'.length + 1 = 0 then -4 else sf (st'.length + 1 - 1)) = _
      rw [if_neg (by omega), Nat.add_sub_cancel]; exact skr_top hk10
    · show mc_top sf (st'.length + 1 + 1) >>> _ = nI v
      have : mc_top sf (st'.length + 1 + 1) = nI (2 * v + 1) := by
        show (if st'.length + 1 + 1 = 0 then -4 else sf (st'.length + 1 + 1 - 1)) = _
        rw [if_neg (by omega), Nat.add_sub_cancel]; exact skr_top k10
      rw [this]; exact int_shr v (by omega)
  · subst q3 q5
    have c0 : (a_i C (bs, .inr p, env, x :: st', pc, tn)).1 = 13 := q1
    rw [c0]
    have htop : mc_top sf (st'.length + 1) = cw 0 x := by
      show (if st'.length + 1 = 0 then -4 else sf (st'.length + 1 - 1)) = _
      rw [if_neg (by omega), Nat.add_sub_cancel]; exact skr_top k10
    have hw2 : hp_wo f (nI (hsz bs)) (nI (4 * p)) 2 = cw 0 w := hc_wo (k := 1) k9 q4 (by show 1 < 2; omega)
    have hkd := (hc_bk k9 q4).1
    have hsk : skr 0 (upd (upd sf st'.length (cw 0 env)) (st'.length + 1) (nI (2 * (pc + 1) + 1))) (.inl (nI (2 * (pc + 1) + 1)) :: env :: st') := skr_push (x := .inl (nI (2 * (pc + 1) + 1))) (skr_push (x := env) (skr_pop k10))
    have eodd : (2 : Int32) * (nI pc + 1) + 1 = nI (2 * (pc + 1) + 1) := by rw [nI_1]; exact nI_odd
    refine cj_T.mono (t_perform_138 (q := 0) (k_m := k1) (k_sk := k6) (k_o := k2) (k_a := k3) (hN := hN) (k_pg := k7) (k_pa := k8) (hln := hC) (n_sk_a := n4) (n_pa_a := n7) (n_pa_sk := n10) (hht := h2) (ht9 := h3) (hq := by omega) (hht2 := q6) (hk := fun h9 => absurd (hkd.symm.trans h9) (show ¬ nI 8 = 9 by decide)) (hroom := q7)) (fun v9 G9 q9 => ?_) (fun _ _ h9 => h9)
    obtain ⟨r0, r1, r2, r3, r4, r5⟩ := q9
    have e8 : mc_en8 f (hsz bs) (nI (4 * p)) (mc_top sf (st'.length + 1)) = upd (upd (upd f (0 + hsz bs) (nI (32 + 10))) (0 + hsz bs + 1) (cw 0 x)) (0 + hsz bs + 2) (cw 0 w) := by
      unfold mc_en8; rw [hw2, htop]; exact mc_pair_eq (k := 10)
    have hlay : lay (mc_en8 f (hsz bs) (nI (4 * p)) (mc_top sf (st'.length + 1))) (cw 0) 0 (bs ++ [(10, [x, w])]) := by rw [e8]; exact lay_pair (k := 10) k9.1
    have esz : hsz (bs ++ [(10, [x, w])]) = hsz bs + 3 := by rw [hsz_app]; rfl
    have hcn : hc (mc_en8 f (hsz bs) (nI (4 * p)) (mc_top sf (st'.length + 1))) (hsz (bs ++ [(10, [x, w])])) (bs ++ [(10, [x, w])]) := ⟨hlay, rfl, hbv', hz'⟩
    refine ⟨r0, _, _, ck_up hk r1 r2 r3 r4 r5 rfl rfl nI_4 ?_ (by show nI (hsz bs + 3) = nI (hsz (bs ++ [_])); rw [hsz_app]; rfl) rfl hcn (by rw [eodd]; exact hsk), r5⟩
    have hw1 := hc_wo (k := 0) hcn (bk_app q4) (by show 0 < 2; omega)
    rw [esz] at hw1
    show hp_wo (mc_en8 f (hsz bs) (nI (4 * p)) (mc_top sf (st'.length + 1))) (nI (hsz bs + 3)) (nI (4 * p)) 1 >>> _ = nI v
    have hw1 : hp_wo (mc_en8 f (hsz bs) (nI (4 * p)) (mc_top sf (st'.length + 1))) (nI (hsz bs + 3)) (nI (4 * p)) 1 = nI (2 * v + 1) := hw1
    rw [hw1]; exact int_shr v (by omega)
  · subst q3 q5
    have c0 : (a_i C (bs, .inr p, env, x :: st', pc, tn)).1 = 13 := q1
    rw [c0]
    have htop : mc_top sf (st'.length + 1) = cw 0 x := by
      show (if st'.length + 1 = 0 then -4 else sf (st'.length + 1 - 1)) = _
      rw [if_neg (by omega), Nat.add_sub_cancel]; exact skr_top k10
    have hw2 : hp_wo f (nI (hsz bs)) (nI (4 * p)) 2 = cw 0 w := hc_wo (k := 1) k9 q4 (by show 1 < 2; omega)
    have hkd := (hc_bk k9 q4).1
    have hsk : skr 0 (upd (upd sf st'.length (cw 0 env)) (st'.length + 1) (nI (2 * (pc + 1) + 1))) (.inl (nI (2 * (pc + 1) + 1)) :: env :: st') := skr_push (x := .inl (nI (2 * (pc + 1) + 1))) (skr_push (x := env) (skr_pop k10))
    have eodd : (2 : Int32) * (nI pc + 1) + 1 = nI (2 * (pc + 1) + 1) := by rw [nI_1]; exact nI_odd
    refine cj_T.mono (t_perform_139 (q := 0) (k_m := k1) (k_sk := k6) (k_o := k2) (k_a := k3) (hN := hN) (k_pg := k7) (k_pa := k8) (hln := hC) (n_sk_a := n4) (n_pa_a := n7) (n_pa_sk := n10) (hht := h2) (ht9 := h3) (hq := by omega) (hht2 := q6) (hk := hkd) (hroom := q7)) (fun v9 G9 q9 => ?_) (fun _ _ h9 => h9)
    obtain ⟨r0, r1, r2, r3, r4, r5⟩ := q9
    have esz : hsz (bs ++ [(10, [(.inr p : aw_T), w])]) = hsz bs + 3 := by rw [hsz_app]; rfl
    have e8 : mc_en9 f (hsz bs) (nI (4 * p)) (mc_top sf (st'.length + 1)) = upd (upd (upd (upd (upd (upd f (0 + hsz bs) (nI (32 + 10))) (0 + hsz bs + 1) (cw 0 (.inr p))) (0 + hsz bs + 2) (cw 0 w)) (0 + hsz (bs ++ [(10, [(.inr p : aw_T), w])])) (nI (32 + 10))) (0 + hsz (bs ++ [(10, [(.inr p : aw_T), w])]) + 1) (cw 0 x)) (0 + hsz (bs ++ [(10, [(.inr p : aw_T), w])]) + 2) (cw 0 (.inr (hsz bs))) := by
      unfold mc_en9; rw [hw2, htop, nI_4, esz]
      rw [show mc_pair f (hsz bs) 10 (nI (4 * p)) (cw 0 w) = _ from mc_pair_eq (k := 10)]
      exact mc_pair_eq (k := 10)
    have hlay : lay (mc_en9 f (hsz bs) (nI (4 * p)) (mc_top sf (st'.length + 1))) (cw 0) 0 (bs ++ [(10, [.inr p, w])] ++ [(10, [x, .inr (hsz bs)])]) := by rw [e8]; exact lay_pair (k := 10) (lay_pair (k := 10) k9.1)
    have esz2 : hsz (bs ++ [(10, [(.inr p : aw_T), w])] ++ [(10, [x, (.inr (hsz bs) : aw_T)])]) = hsz bs + 3 + 3 := by rw [hsz_app, esz]; rfl
    have hcn : hc (mc_en9 f (hsz bs) (nI (4 * p)) (mc_top sf (st'.length + 1))) (hsz (bs ++ [(10, [.inr p, w])] ++ [(10, [x, .inr (hsz bs)])])) (bs ++ [(10, [.inr p, w])] ++ [(10, [x, .inr (hsz bs)])]) := ⟨hlay, rfl, hbv', hz'⟩
    refine ⟨r0, _, _, ck_up hk r1 r2 r3 r4 r5 rfl rfl nI_4 ?_ (by show nI (hsz bs + 3 + 3) = nI (hsz (bs ++ [_] ++ [_])); rw [esz2]) rfl hcn (by rw [eodd]; exact hsk), r5⟩
    have hw1 := hc_wo (k := 0) hcn (bk_app (bk_app q4)) (by show 0 < 2; omega)
    rw [esz2] at hw1
    show hp_wo (mc_en9 f (hsz bs) (nI (4 * p)) (mc_top sf (st'.length + 1))) (nI (hsz bs + 3 + 3)) (nI (4 * p)) 1 >>> _ = nI v
    have hw1 : hp_wo (mc_en9 f (hsz bs) (nI (4 * p)) (mc_top sf (st'.length + 1))) (nI (hsz bs + 3 + 3)) (nI (4 * p)) 1 = nI (2 * v + 1) := hw1
    rw [hw1]; exact int_shr v (by omega)
  · have c0 : (a_i C (bs, acc, env, st, pc, tn)).1 = 14 := q1
    rw [c0]
    refine cj_T.mono (t_perform_14 (q := 0) (k_m := k1) (k_sk := k6) (k_o := k2) (k_a := k3) (hN := hN) (k_pg := k7) (k_pa := k8) (hln := hC) (n_sk_a := n4) (n_pa_a := n7) (n_pa_sk := n10) (hht := h2) (ht9 := h3) (hq := by omega) (hroom := q2)) (fun v9 G9 q9 => ?_) (fun _ _ h9 => h9)
    obtain ⟨r0, r1, r2, r3, r4, r5⟩ := q9
    refine ⟨r0, _, _, ck_up hk r1 r2 r3 r4 r5 rfl rfl nI_4 (nI_1 pc) (by show nI (hsz bs + 3) = nI (hsz (bs ++ [_])); rw [hsz_app]; rfl) rfl ⟨?_, rfl, hbv', hz'⟩ k10, r5⟩
    have := lay_pair (k := 10) (w1 := acc) (w2 := env) k9.1
    rw [← mc_pair_eq] at this
    exact this
  · have c0 : (a_i C (bs, acc, env, st, pc, tn)).1 = 15 := q2
    have c1 : (a_i C (bs, acc, env, st, pc, tn)).2.1 = nI v := q3
    rw [c0, c1]
    have hfo := ch_fo k9 v 0 env (by rw [Nat.zero_add]; exact q4)
    refine cj_T.mono (t_perform_15 (x := 0) (q := v) (k_m := k1) (k_sk := k6) (k_o := k2) (k_a := k3) (hN := hN) (k_pg := k7) (k_pa := k8) (hln := hC) (n_sk_a := n4) (n_pa_a := n7) (n_pa_sk := n10) (hht := h2) (ht9 := h3) (hq := by omega)) (fun v9 G9 q9 => ?_) (fun _ _ h9 => h9)
    obtain ⟨r0, r1, r2, r3, r4, r5⟩ := q9
    exact ⟨r0, _, _, ck_up hk r1 r2 r3 r4 r5 (rfl) (rfl) (hfo) (nI_1 pc) (rfl) rfl (k9) (k10), r5⟩
  · have c0 : (a_i C (bs, acc, env, st, pc, tn)).1 = 16 := q2
    have c1 : (a_i C (bs, acc, env, st, pc, tn)).2.1 = nI t := q3
    rw [c0, c1]
    refine cj_T.mono (t_perform_16 (q := 0) (k_m := k1) (k_sk := k6) (k_o := k2) (k_a := k3) (hN := hN) (k_pg := k7) (k_pa := k8) (hln := hC) (n_sk_a := n4) (n_pa_a := n7) (n_pa_sk := n10) (hht := h2) (ht9 := h3) (hq := by omega)) (fun v9 G9 q9 => ?_) (fun _ _ h9 => h9)
    obtain ⟨r0, r1, r2, r3, r4, r5⟩ := q9
    exact ⟨r0, _, _, ck_up hk r1 r2 r3 r4 r5 (rfl) ((by show (4 : Int32) * nI t + 2 = nI (4 * t + 2); rw [nI_4]; exact nI_add _ 2)) (rfl) (nI_1 pc) (rfl) rfl (k9) (k10), r5⟩
  · subst q5
    have c0 : (a_i C (bs, acc, env, u ++ st', pc, tn)).1 = 17 := q3
    have c1 : (a_i C (bs, acc, env, u ++ st', pc, tn)).2.1 = nI t := q4
    rw [c0, c1]
    have hul : u.length ≤ (u ++ st').length := by rw [List.length_append]; omega
    refine cj_T.mono (t_perform_17 (q := u.length) (k_m := k1) (k_sk := k6) (k_o := k2) (k_a := k3) (hN := hN) (k_pg := k7) (k_pa := k8) (hln := hC) (n_sk_a := n4) (n_pa_a := n7) (n_pa_sk := n10) (hht := h2) (ht9 := h3) (hq := by omega) (hqq := hul) (htag := by rw [nI_tag q1, ← q6]) (hroom := by omega)) (fun v9 G9 q9 => ?_) (fun _ _ h9 => h9)
    obtain ⟨r0, r1, r2, r3, r4, r5⟩ := q9
    refine ⟨r0, _, _, ck_up hk r1 r2 r3 r4 r5 (by show nI ((u ++ st').length - u.length) = nI st'.length; rw [List.length_append, show u.length + st'.length - u.length = st'.length by omega]) nI_4 rfl (nI_1 pc) ?_ rfl ⟨lay_mk k9.1 k10, rfl, hbv', hz'⟩ ?_, r5⟩
    · show nI (hsz bs + 1 + u.length + 1) = nI (hsz (bs ++ [(t, u.reverse ++ [acc])]))
      rw [hsz_app]; show _ = nI (hsz bs + (1 + (u.reverse ++ [acc]).length)); rw [List.length_append, List.length_reverse]
      show _ = nI (hsz bs + (1 + (u.length + 1))); rw [show hsz bs + (1 + (u.length + 1)) = hsz bs + 1 + u.length + 1 by omega]
    · intro c y hc
      have hcl := (List.getElem?_eq_some_iff.mp hc).1
      exact k10 c y (by show (u ++ st').reverse[c]? = some y; rw [List.reverse_append, List.getElem?_append_left hcl]; exact hc)
  · have c0 : (a_i C (bs, acc, env, st, pc, tn)).1 = 18 := q2
    have c1 : (a_i C (bs, acc, env, st, pc, tn)).2.1 = nI n := q3
    rw [c0, c1]
    refine cj_T.mono (t_perform_18 (x := 0) (q := n) (k_m := k1) (k_sk := k6) (k_o := k2) (k_a := k3) (hN := hN) (k_pg := k7) (k_pa := k8) (hln := hC) (n_sk_a := n4) (n_pa_a := n7) (n_pa_sk := n10) (hht := h2) (ht9 := h3) (hq := by omega)) (fun v9 G9 q9 => ?_) (fun _ _ h9 => h9)
    obtain ⟨r0, r1, r2, r3, r4, r5⟩ := q9
    refine ⟨r0, _, _, ck_up hk r1 r2 r3 r4 r5 rfl rfl rfl ?_ rfl rfl k9 k10, r5⟩
    show mc_pc pf C.length (nI pc) (hp_co f (nI (hsz bs)) (cw 0 acc)) n 1 = nI q
    rw [ch_co k9 i3, ch_pc k11 hC n 1 (fun j j1 j2 => ⟨(q5 j j1 (by omega)).1, (q5 j j1 (by omega)).2⟩)]
    exact q6
  · subst q5
    have c0 : (a_i C (bs, .inr p, env, st, pc, tn)).1 = 20 := q3
    have c1 : (a_i C (bs, .inr p, env, st, pc, tn)).2.1 = nI v := q4
    rw [c0, c1]
    refine cj_T.mono (t_perform_20 (x := 0) (q := v) (k_m := k1) (k_sk := k6) (k_o := k2) (k_a := k3) (hN := hN) (k_pg := k7) (k_pa := k8) (hln := hC) (n_sk_a := n4) (n_pa_a := n7) (n_pa_sk := n10) (hht := h2) (ht9 := h3) (hq := by omega) (hroom := q8)) (fun v9 G9 q9 => ?_) (fun _ _ h9 => h9)
    obtain ⟨r0, r1, r2, r3, r4, r5⟩ := q9
    obtain ⟨o1, o2, o3⟩ := ch_open bb.2 0 f bs env k9 q6 (ev_wv i5) (fun c x hc => by rw [Nat.zero_add]; exact hc) (by have q8' : hsz bs + 3 * v ≤ N := q8; rw [q7]; omega)
    rw [q7] at o1 o2 o3
    exact ⟨r0, _, _, ck_up hk r1 r2 r3 r4 r5 rfl rfl o3 (nI_1 pc) (congrArg nI o2) rfl o1 k10, r5⟩
end CP
