/-! THE REFERENCE DOES AN INSTRUCTION -/
def wp_disp (op : Int32) (S : rm_S) (Q : Int32 → rm_S → Prop) : Prop := ((¬ op = 0 → ((¬ op = 11 → ((¬ op = 18 → ((¬ op = 13 → ((¬ op = 12 → wp_simple S op (fun S16 => Q 0 (rm_pf S16 53 ((S16.1 53) + 1)))) ∧ (op = 12 → (vp_in ((S.1 51) - 2) 40 ∧ (vp_in (((S.1 51) - 2) + 1) 40 ∧ Q 0 (rm_pf (rm_pf (rm_pf S 51 ((S.1 51) - 2)) 50 ((S.2 52) (((S.1 51) - 2).toNatClampNeg))) 53 (((S.2 52) ((((S.1 51) - 2) + 1).toNatClampNeg)) >>> ((1 : Int32) &&& 31)))))))) ∧ (op = 13 → wp_apply S (fun S20 => Q 0 S20)))) ∧ (op = 18 → wp_findCase S (fun x22 S23 => Q 0 (rm_pf S23 53 x22))))) ∧ (op = 11 → wp_a S (fun x25 S26 => Q 0 (rm_pf S26 53 x25))))) ∧ (op = 0 → Q 0 (rm_pf S 54 2)))
theorem wp_one_eq {S : rm_S} {Q : Int32 → rm_S → Prop} : wp_one S Q = (vp_in (3 * (S.1 53)) 372 ∧ wp_wrong S ((S.2 38) ((3 * (S.1 53)).toNatClampNeg)) (fun x3 S4 => ((x3 = 0 → wp_roomFor S4 ((S.2 38) ((3 * (S.1 53)).toNatClampNeg)) (fun x7 S8 => ((x7 ≤ 0 → wp_disp ((S.2 38) ((3 * (S.1 53)).toNatClampNeg)) S8 Q) ∧ (¬ x7 ≤ 0 → wp_hasRoom S8 x7 (fun x28 S29 => ((¬ x28 = 0 → wp_disp ((S.2 38) ((3 * (S.1 53)).toNatClampNeg)) S29 Q) ∧ (x28 = 0 → wp_stop S29 2 Q))))))) ∧ (¬ x3 = 0 → wp_stop S4 x3 Q)))) := rfl
theorem rg_f {S S1 : rm_S} {j : Nat} {v : Int32} (h : rg S S1) (hj : 45 ≤ j) : rg S (rm_pf S1 j v) := ⟨fun k hk => by rw [pf_n (by omega)]; exact h.1 k hk, h.2⟩
theorem rg_a {S S1 : rm_S} {j i : Nat} {v : Int32} (h : rg S S1) (hj : 44 ≤ j) : rg S (rm_pa S1 j i v) := ⟨h.1, fun k hk => by rw [pa_n (by omega)]; exact h.2 k hk⟩
section RD
variable {N : Nat} {C : List fr_C} {T : Nat → lb_T} {A A' : am_T} {s0 : Nat} {S : rm_S} {Q : Int32 → rm_S → Prop} {bs : List hb_T}
theorem rb_block {k : Nat} {w1 w2 : aw_T} (hk : k < 16) (h45 : S.1 45 = nI s0) (h46 : S.1 46 = nI (hsz bs)) (hh : rh s0 S bs) (hw1 : wv bs w1) (hw2 : wv bs w2) (hz : s0 + hsz bs + 3 ≤ 400) (hQ : ∀ S' : rm_S, rh s0 S' (bs ++ [(k, [w1, w2])]) → S'.1 46 = nI (hsz (bs ++ [(k, [w1, w2])])) → (∀ j, j ≠ 46 → S'.1 j = S.1 j) → (∀ j, j ≠ 44 → S'.2 j = S.2 j) → Q (cw s0 (.inr (hsz bs))) S') : wp_block S (nI k) (cw s0 w1) (cw s0 w2) Q := by
  have e : S.1 45 + S.1 46 = nI (s0 + hsz bs) := by rw [h45, h46, nI_add]
  have e1 : S.1 45 + S.1 46 + 1 = nI (s0 + hsz bs + 1) := by rw [e, nI_1]
  have e2 : S.1 45 + S.1 46 + 2 = nI (s0 + hsz bs + 2) := by rw [e]; exact nI_add _ 2
  refine ⟨by rw [e]; exact nI_vp (by omega) (by omega), by rw [e1]; exact nI_vp (by omega) (by omega), by rw [e2]; exact nI_vp (by omega) (by omega), ?_⟩
  rw [e1, e2, e, nI_clamp (by omega), nI_clamp (by omega), nI_clamp (by omega), show (32 : Int32) + nI k = nI (32 + k) from nI_add 32 k, nI_4, show s0 + hsz bs = hsz bs + s0 by omega]
  have esz : hsz (bs ++ [(k, [w1, w2])]) = hsz bs + 3 := by rw [hsz_app]; rfl
  refine hQ _ ⟨?_, bv_app hh.2.1 hk (by show 2 < 4; omega) (fun w hw => ?_), by rw [esz]; omega⟩ ?_ (fun j hj => pf_n hj) (fun j hj => ?_)
  · have := lay_pair (k := k) (w1 := w1) (w2 := w2) hh.1
    rw [show s0 + hsz bs = hsz bs + s0 by omega] at this
    exact this
  · rcases List.mem_cons.mp hw with rfl | hw
    · exact hw1
    · rw [List.mem_singleton] at hw; subst hw; exact hw2
  · rw [pf_s, esz, h46]; exact nI_add _ 3
  · show (rm_pa (rm_pa (rm_pa S _ _ _) _ _ _) _ _ _).2 j = _
    rw [pa_n hj, pa_n hj, pa_n hj]
/-- ACCESS, RETRACT: further on -/
theorem rs_fo {v : Nat} {v1 : Int32} {Q : rm_S → Prop} {K : Int32 → Int32 → rm_S → Prop} (hC : C.length ≤ 120) (hk : RK N C A s0 S) (hp : A.2.2.2.2.1 < C.length) (ha : (a_i C A).2.1 = nI v) (hv : v < 1000) : ∀ (m i : Nat) (w : aw_T), i + m = v → ev A.1 m w → K (cw s0 (ax A.1 m w)) (nI v) S → wl_simple_116 v1 Q K (m + 1) (cw s0 w) (nI i) S := by
  intro m
  induction m with
  | zero =>
    intro i w hi _ hK
    refine rq_a hC hk hp ?_
    rw [ha]
    have e : i = v := by omega
    subst e
    exact ⟨fun _ => hK, fun h9 => absurd (nI_le (Nat.le_refl _) (by omega)) h9⟩
  | succ m ih =>
    intro i w hi hw hK
    obtain ⟨p, x, w', rfl, h2, h3⟩ := hw
    refine rq_a hC hk hp ?_
    rw [ha]
    refine ⟨fun h9 => absurd h9 (nI_ge (by omega) (by omega)), fun _ => ?_⟩
    have e : ax A.1 (m + 1) (.inr p) = ax A.1 m w' := by
      show (match bk A.1 p with | some b => ax A.1 m (b.2.getD 1 (.inl 1)) | none => .inl 1) = _
      rw [h2]; rfl
    rw [e] at hK
    refine rh_f (k := 1) (x := w') hk.2.2.2.2.2.2.2.2.2.2.1 h2 rfl ?_
    rw [nI_1]
    exact ih (i + 1) w' (by omega) h3 hK
/-- BLOCK: the words of the stack -/
theorem mk_loop {n P D : Nat} {Q : rm_S → Prop} {K : Int32 → rm_S → Prop} (hP : P + (n + 1) ≤ 400) (hD : D + n ≤ 40) : ∀ (m k : Nat) (S : rm_S), k + m = n → S.1 51 = nI D → (∀ S' : rm_S, S'.1 = S.1 → (∀ j, j ≠ 44 → S'.2 j = S.2 j) → (∀ i, S'.2 44 i = if P + 1 + k ≤ i ∧ i < P + 1 + n then S.2 52 (D + (i - (P + 1))) else S.2 44 i) → K (nI n) S') → wl_make_46 (nI (n + 1)) (nI P) Q K (m + 1) (nI k) S := by
  intro m
  induction m with
  | zero =>
    intro k S hk hd hK
    have e : k = n := by omega
    subst e
    unfold wl_make_46
    rw [nI_pred]
    exact ⟨fun _ => hK S rfl (fun _ _ => rfl) (fun i => by rw [if_neg (by omega)]), fun h9 => absurd (nI_le (Nat.le_refl _) (by omega)) h9⟩
  | succ m ih =>
    intro k S hk hd hK
    unfold wl_make_46
    rw [nI_pred]
    refine ⟨fun h9 => absurd h9 (nI_ge (by omega) (by omega)), fun _ => ?_⟩
    have e1 : S.1 51 + nI k = nI (D + k) := by rw [hd, nI_add]
    have e2 : nI P + 1 + nI k = nI (P + 1 + k) := by rw [nI_1, nI_add]
    refine ⟨by rw [e1]; exact nI_vp (by omega) (by omega), by rw [e2]; exact nI_vp (by omega) (by omega), ?_⟩
    rw [e1, e2, nI_clamp (by omega), nI_clamp (by omega), nI_1]
    refine ih (k + 1) _ (by omega) hd (fun S' h1 h2 h3 => hK S' h1 (fun j hj => by rw [h2 j hj, pa_n hj]) (fun i => ?_))
    rw [h3 i, pa_s, pa_n (by omega)]
    by_cases c1 : P + 1 + (k + 1) ≤ i ∧ i < P + 1 + n
    · rw [if_pos c1, if_pos (by omega)]
    · rw [if_neg c1]
      by_cases c2 : i = P + 1 + k
      · rw [c2, upd_s, if_pos (by omega), show P + 1 + k - (P + 1) = k by omega]
      · rw [upd_n c2, if_neg (by omega)]
/-- OPEN -/
theorem rs_open {p a pc : Nat} {b : hb_T} {acc : aw_T} {st : List aw_T} {tn : Int32} {v1 : Int32} {Q : rm_S → Prop} {K : Int32 → rm_S → Prop} (hN : N ≤ 200) (hC : C.length ≤ 120) (hp : pc < C.length) (ha9 : a < 1000) (ha : (C.getD pc z3).2.1 = nI a) : ∀ (l : List aw_T) (k : Nat) (bs : List hb_T) (env : aw_T) (S : rm_S), RK N C (bs, acc, env, st, pc, tn) s0 S → wv bs env → bk bs p = some b → (∀ (c : Nat) (x : aw_T), l[c]? = some x → b.2[k + c]? = some x) → k + l.length = a → hsz bs + 3 * l.length ≤ N → (∀ S' : rm_S, RK N C ((opb l bs env).1, acc, (opb l bs env).2, st, pc, tn) s0 S' → rg S S' → S'.1 54 = S.1 54 → S'.1 55 = S.1 55 → K (nI a) S') → wl_simple_260 v1 (nI (4 * (p + s0))) Q K (l.length + 1) (nI k) S := by
  intro l
  induction l with
  | nil =>
    intro k bs env S hk he hb hl hka hz hK
    refine rq_a (A := (bs, acc, env, st, pc, tn)) hC hk hp ?_
    rw [show (a_i C (bs, acc, env, st, pc, tn)).2.1 = nI a from ha]
    have e : k = a := hka
    subst e
    exact ⟨fun _ => hK S hk rg.rf rfl rfl, fun h9 => absurd (nI_le (Nat.le_refl _) (by omega)) h9⟩
  | cons x t ih =>
    intro k bs env S hk he hb hl hka hz hK
    have hz : hsz bs + 3 * (t.length + 1) ≤ N := hz
    have hka : k + (t.length + 1) = a := hka
    have hk' := hk
    obtain ⟨k1, k2, k3, k4, k5, k6, k7, k8, k9, k10, k11, k12⟩ := hk'
    have hs9 : s0 + hsz bs + 3 ≤ 400 := by omega
    have k4 : S.1 46 = nI (hsz bs) := k4
    have k11 : rh s0 S bs := k11
    have k7 : S.1 50 = cw s0 env := k7
    have hx : b.2[k]? = some x := hl 0 x rfl
    have hxv : wv bs x := (k11.2.1 b (bk_lt hb).2).2.2 x (List.mem_of_getElem? hx)
    refine rq_a (A := (bs, acc, env, st, pc, tn)) hC hk hp ?_
    rw [show (a_i C (bs, acc, env, st, pc, tn)).2.1 = nI a from ha]
    refine ⟨fun h9 => absurd h9 (nI_ge (by omega) (by omega)), fun _ => rh_f k11 hb hx ?_⟩
    rw [k7]
    refine rb_block (k := 10) (by omega) k2 k4 k11 hxv he hs9 (fun S' g1 g2 g3 g4 => ?_)
    rw [nI_1]
    refine ih (k + 1) (bs ++ [(10, [x, env])]) (.inr (hsz bs)) (rm_pf S' 50 (cw s0 (.inr (hsz bs)))) ⟨(g3 43 (by omega)).trans k1, (g3 45 (by omega)).trans k2, k3, g2, (g3 47 (by omega)).trans k5, (g3 49 (by omega)).trans k6, rfl, (g3 51 (by omega)).trans k8, ?_, (g3 53 (by omega)).trans k10, g1, ?_⟩ wv_top (bk_app hb) (fun c y hc => by rw [show k + 1 + c = k + (c + 1) by omega]; exact hl (c + 1) y hc) (by omega) (by rw [hsz_app]; show hsz bs + (1 + 2) + 3 * t.length ≤ N; omega) (fun S2 z1 z2 z3' z4 => hK S2 z1 (rg.trans (rg_f ⟨fun j hj => g3 j (by omega), fun j hj => g4 j (by omega)⟩ (by omega)) z2) (z3'.trans (g3 54 (by omega))) (z4.trans (g3 55 (by omega))))
    · show skr s0 (S'.2 52) st
      rw [g4 52 (by omega)]; exact k9
    · show cd_l (S'.2 38) C
      rw [g4 38 (by omega)]; exact k12
end RD
