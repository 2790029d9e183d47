/-! WHAT A COLLECTION LEAVES: the same machine, its words in other places -/
def dn2 : g2_T → aw_T
  | .inl w => .inl w
  | .inr (.inl p) => .inr p
  | .inr (.inr q) => .inr q
def trw (mv : Nat → Option Nat) : aw_T → aw_T
  | .inl w => .inl w
  | .inr p => match mv p with
    | some q => .inr q
    | none => .inr p
theorem dn2_tr {mv : Nat → Option Nat} {x : aw_T} : dn2 (tr mv x) = trw mv x := by
  cases x with
  | inl w => rfl
  | inr p => cases h : mv p <;> simp only [tr, trw, h] <;> rfl
theorem trw_some {mv : Nat → Option Nat} {p q : Nat} (h : mv p = some q) : trw mv (.inr p) = .inr q := by unfold trw; simp only [h]
def ag_st (bs : List hb_T) : List aw_T → gs_T → gs_T
  | [], s => s
  | x :: t, s => ag_st bs t (ag_cp bs s (up2 x)).2
def ag_root (bs : List hb_T) (acc env : aw_T) (st : List aw_T) : gs_T := ag_st bs st.reverse (ag_cp bs (ag_cp bs ([], fun _ => none) (up2 acc)).2 (up2 env)).2
def ag_all (bs : List hb_T) (N : Nat) (acc env : aw_T) (st : List aw_T) : gs_T := ag_out bs N 0 (ag_root bs acc env st)
def ag_bs (s : gs_T) : List hb_T := s.1.map (fun b => (b.1, b.2.map dn2))
theorem mle_cp {bs : List hb_T} {s : gs_T} {w : g2_T} : mle s (ag_cp bs s w).2 := by
  intro p q h
  unfold ag_cp
  split
  · exact h
  · exact h
  · next p' =>
    cases hm : s.2 p' with
    | some q' => exact h
    | none =>
      cases hb : bk bs p' with
      | some b =>
        show (if p = p' then _ else s.2 p) = _
        rw [if_neg (show ¬ p = p' from fun e => by rw [e, hm] at h; cases h)]; exact h
      | none => exact h
theorem mle_tr {s s1 s2 : gs_T} (h : mle s s1) (h2 : mle s1 s2) : mle s s2 := fun p q h9 => h2 p q (h p q h9)
theorem mle_in {bs : List hb_T} {i : Nat} : ∀ (r j : Nat) (s : gs_T), mle s (ag_in bs i r j s) := by
  intro r
  induction r with
  | zero => intro j s p q h; exact h
  | succ r ih =>
    intro j s
    simp only [ag_in]
    split
    · split
      · exact mle_tr (s1 := (setw _ i j _, _)) (mle_cp (bs := bs) (s := s)) (ih _ _)
      · exact fun p q h => h
    · exact fun p q h => h
theorem mle_out {bs : List hb_T} : ∀ (r i : Nat) (s : gs_T), mle s (ag_out bs r i s) := by
  intro r
  induction r with
  | zero => intro i s p q h; exact h
  | succ r ih =>
    intro i s
    simp only [ag_out]
    split
    · exact mle_tr (mle_in _ _ _) (ih _ _)
    · exact fun p q h => h
theorem mvd_mle {s s' : gs_T} (h : mle s s') {x : aw_T} (hx : mvd s.2 x) : mvd s'.2 x := (tr_mle h hx).2
theorem ag_st_ok {bs : List hb_T} : ∀ (l : List aw_T) (s : gs_T), GI bs 0 0 s → (∀ x ∈ l, wv bs x) → GI bs 0 0 (ag_st bs l s) ∧ mle s (ag_st bs l s) ∧ ∀ x ∈ l, mvd (ag_st bs l s).2 x := by
  intro l
  induction l with
  | nil => intro s h _; exact ⟨h, fun _ _ h => h, fun x hx => absurd hx List.not_mem_nil⟩
  | cons y t ih =>
    intro s h hl
    obtain ⟨g1, _, g3, g4, _⟩ := ag_cp_ok h (hl y List.mem_cons_self)
    obtain ⟨k1, k2, k3⟩ := ih _ g1 (fun x hx => hl x (List.mem_cons_of_mem _ hx))
    refine ⟨k1, mle_tr g4 k2, fun x hx => ?_⟩
    rcases List.mem_cons.mp hx with rfl | hx
    · exact mvd_mle k2 g3
    · exact k3 x hx
theorem GI_0 {bs : List hb_T} : GI bs 0 0 ([], fun _ => none) := by
  refine ⟨[], rfl, List.nodup_nil, Or.inr ⟨Nat.le_refl _, rfl⟩, ?_, fun p q => ⟨fun h => (by cases h), fun ⟨a, h, _⟩ => (by simp at h)⟩, fun a p h => (by simp at h)⟩
  show 0 + um bs 0 (fun _ => none) = hsz bs
  rw [um_all]; omega
theorem ag_root_ok {bs : List hb_T} {acc env : aw_T} {st : List aw_T} (ha : wv bs acc) (he : wv bs env) (hs : ∀ x ∈ st, wv bs x) : GI bs 0 0 (ag_root bs acc env st) ∧ mvd (ag_root bs acc env st).2 acc ∧ mvd (ag_root bs acc env st).2 env ∧ ∀ x ∈ st, mvd (ag_root bs acc env st).2 x := by
  obtain ⟨a1, _, a3, a4, _⟩ := ag_cp_ok GI_0 ha
  obtain ⟨b1, _, b3, b4, _⟩ := ag_cp_ok a1 he
  obtain ⟨c1, c2, c3⟩ := ag_st_ok st.reverse _ b1 (fun x hx => hs x (List.mem_reverse.mp hx))
  exact ⟨c1, mvd_mle c2 (mvd_mle b4 a3), mvd_mle c2 b3, fun x hx => c3 x (List.mem_reverse.mpr hx)⟩
theorem bk_take {α : Type} : ∀ {A : List (Nat × List α)} {a : Nat} {b : Nat × List α}, A[a]? = some b → bk A (hsz (A.take a)) = some b := by
  intro A
  induction A with
  | nil => intro a b h; simp at h
  | cons x t ih =>
    intro a b h
    cases a with
    | zero =>
      have e : x = b := by simpa using h
      subst e; rfl
    | succ a =>
      have h : t[a]? = some b := by simpa using h
      show (if 1 + x.2.length + hsz (t.take a) = 0 then some x else if 1 + x.2.length + hsz (t.take a) < 1 + x.2.length then none else bk t (1 + x.2.length + hsz (t.take a) - (1 + x.2.length))) = some b
      rw [if_neg (by omega), if_neg (by omega), show 1 + x.2.length + hsz (t.take a) - (1 + x.2.length) = hsz (t.take a) by omega]
      exact ih h
theorem bk_map {α β : Type} {g : α → β} : ∀ {A : List (Nat × List α)} {p : Nat}, bk (A.map (fun b => (b.1, b.2.map g))) p = (bk A p).map (fun b => (b.1, b.2.map g)) := by
  intro A
  induction A with
  | nil => intro p; rfl
  | cons x t ih =>
    intro p
    show (if p = 0 then some (x.1, x.2.map g) else if p < 1 + (x.2.map g).length then none else bk (t.map (fun b => (b.1, b.2.map g))) (p - (1 + (x.2.map g).length))) = Option.map _ (if p = 0 then some x else if p < 1 + x.2.length then none else bk t (p - (1 + x.2.length)))
    rw [List.length_map]
    by_cases h0 : p = 0
    · rw [if_pos h0, if_pos h0]; rfl
    · rw [if_neg h0, if_neg h0]
      by_cases h1 : p < 1 + x.2.length
      · rw [if_pos h1, if_pos h1]; rfl
      · rw [if_neg h1, if_neg h1]; exact ih
theorem hsz_map {α β : Type} {g : α → β} : ∀ {A : List (Nat × List α)}, hsz (A.map (fun b => (b.1, b.2.map g))) = hsz A := by
  intro A
  induction A with
  | nil => rfl
  | cons x t ih => show 1 + (x.2.map g).length + hsz (t.map _) = 1 + x.2.length + hsz t; rw [List.length_map, ih]
section GR
variable {bs : List hb_T} {n : Nat} {s : gs_T}
/-- all has been copied -/
def GF (bs : List hb_T) (s : gs_T) : Prop := GI bs s.1.length 0 s
theorem gf_bk (h : GF bs s) {p q : Nat} (hm : s.2 p = some q) : ∃ b : hb_T, bk bs p = some b ∧ bk (ag_bs s) q = some (b.1, b.2.map (trw s.2)) ∧ ∀ x ∈ b.2, mvd s.2 x := by
  obtain ⟨og, o1, o2, o3, o4, o5, o6⟩ := h
  obtain ⟨a, a1, a2⟩ := (o5 p q).mp hm
  obtain ⟨b, b2, k1, k2, k3, k4, k5⟩ := o6 a p a1
  have hal := (List.getElem?_eq_some_iff.mp k2).1
  have hsc : ∀ c, scd s.1.length 0 a c := fun c => Or.inl hal
  have hb2 : (b2.1, b2.2.map dn2) = (b.1, b.2.map (trw s.2)) := by
    rw [k3]
    refine Prod.ext rfl (List.ext_getElem? (fun c => ?_))
    show (b2.2.map dn2)[c]? = (b.2.map (trw s.2))[c]?
    rw [List.getElem?_map, List.getElem?_map]
    by_cases hc : c < b.2.length
    · have hx : b.2[c]? = some b.2[c] := List.getElem?_eq_getElem hc
      rw [((k5 c _ hx).1 (hsc c)).1, hx]
      show some (dn2 (tr s.2 b.2[c])) = some (trw s.2 b.2[c])
      rw [dn2_tr]
    · rw [List.getElem?_eq_none (by omega), List.getElem?_eq_none (by omega)]; rfl
  refine ⟨b, k1, ?_, fun x hx => ?_⟩
  · unfold ag_bs
    rw [bk_map, a2, bk_take k2, ← hb2]; rfl
  · obtain ⟨c, hc⟩ := List.getElem?_of_mem hx
    exact ((k5 c x hc).1 (hsc c)).2
theorem gf_wv (h : GF bs s) {x : aw_T} (hw : wv bs x) (hx : mvd s.2 x) : wv (ag_bs s) (trw s.2 x) := by
  cases x with
  | inl w => exact hw
  | inr p =>
    obtain ⟨q, hq⟩ := hx
    obtain ⟨b, _, h2, _⟩ := gf_bk h hq
    rw [trw_some hq]; exact ⟨_, h2⟩
theorem gf_vv (h : GF bs s) {x : aw_T} (hw : vv bs x) (hx : mvd s.2 x) : vv (ag_bs s) (trw s.2 x) := by
  cases x with
  | inl w => exact hw
  | inr p =>
    obtain ⟨q, hq⟩ := hx
    obtain ⟨b0, w1, w2⟩ := hw
    obtain ⟨b, h1, h2, _⟩ := gf_bk h hq
    rw [w1] at h1
    have e : b0 = b := Option.some.inj h1
    subst e
    rw [trw_some hq]; exact ⟨_, h2, w2⟩
theorem gf_ev (h : GF bs s) : ∀ {e : Nat} {x : aw_T}, ev bs e x → mvd s.2 x → ev (ag_bs s) e (trw s.2 x) := by
  intro e
  induction e with
  | zero => intro x hv hx; exact gf_wv h hv hx
  | succ e ih =>
    intro x hv hx
    obtain ⟨p, y, w', rfl, h2, h3⟩ := hv
    obtain ⟨q, hq⟩ := hx
    obtain ⟨b, k1, k2, k3⟩ := gf_bk h hq
    rw [h2] at k1
    have eb : (10, [y, w']) = b := Option.some.inj k1
    subst eb
    rw [trw_some hq]
    exact ⟨q, trw s.2 y, trw s.2 w', rfl, k2, ih h3 (k3 w' (by simp))⟩
theorem gf_orig (h : GF bs s) {b' : hb_T} (hb : b' ∈ ag_bs s) : ∃ (p q : Nat) (b : hb_T), s.2 p = some q ∧ bk bs p = some b ∧ b' = (b.1, b.2.map (trw s.2)) ∧ ∀ x ∈ b.2, mvd s.2 x := by
  have h' := h
  obtain ⟨og, o1, o2, o3, o4, o5, o6⟩ := h'
  obtain ⟨b2, h1, h2⟩ := List.mem_map.mp hb
  obtain ⟨a, ha⟩ := List.getElem?_of_mem h1
  have hal := (List.getElem?_eq_some_iff.mp ha).1
  have hog : og[a]? = some og[a] := List.getElem?_eq_getElem (by omega)
  have hm := (o5 og[a] (hsz (s.1.take a))).mpr ⟨a, hog, rfl⟩
  obtain ⟨b, k1, k2, k3⟩ := gf_bk h hm
  refine ⟨_, _, b, hm, k1, ?_, k3⟩
  unfold ag_bs at k2
  rw [bk_map, bk_take ha] at k2
  rw [← h2]
  exact Option.some.inj k2
theorem gf_bv (h : GF bs s) (hv : bv bs) : bv (ag_bs s) := by
  intro b' hb'
  obtain ⟨p, q, b, _, k1, rfl, k3⟩ := gf_orig h hb'
  obtain ⟨a1, a2, a3⟩ := hv b (bk_lt k1).2
  refine ⟨a1, by show (b.2.map (trw s.2)).length < 4; rw [List.length_map]; exact a2, fun w hw => ?_⟩
  obtain ⟨x, hx, rfl⟩ := List.mem_map.mp hw
  exact gf_wv h (a3 x hx) (k3 x hx)
theorem gf_bty {C : List fr_C} {T : Nat → lb_T} (h : GF bs s) (ht : ∀ b ∈ bs, bty C T bs b) : ∀ b ∈ ag_bs s, bty C T (ag_bs s) b := by
  intro b' hb'
  obtain ⟨p, q, b, _, k1, rfl, k3⟩ := gf_orig h hb'
  rcases ht b (bk_lt k1).2 with ⟨a1, a2, a3, a9⟩ | ⟨a1, a, e, w, a2, a3, a4⟩ | ⟨a1, a, e, w, a2, a3, a4⟩ | ⟨a1, a2, a9⟩
  · exact Or.inl ⟨a1, a2, by show (b.2.map (trw s.2)).length = _; rw [List.length_map]; exact a3, fun y hy => by
      obtain ⟨x, hx, rfl⟩ := List.mem_map.mp hy
      exact gf_vv h (a9 x hx) (k3 x hx)⟩
  · refine Or.inr (Or.inl ⟨a1, a, e, trw s.2 w, ?_, a3, gf_ev h a4 (k3 w (by rw [a2]; simp))⟩)
    show b.2.map (trw s.2) = _
    rw [a2]; rfl
  · refine Or.inr (Or.inr (Or.inl ⟨a1, a, e, trw s.2 w, ?_, a3, gf_ev h a4 (k3 w (by rw [a2]; simp))⟩))
    show b.2.map (trw s.2) = _
    rw [a2]; rfl
  · exact Or.inr (Or.inr (Or.inr ⟨a1, by show (b.2.map (trw s.2)).length = _; rw [List.length_map]; exact a2, fun y hy => by
      have hy : (b.2.map (trw s.2))[0]? = some y := hy
      rw [List.getElem?_map] at hy
      cases hx : b.2[0]? with
      | none => rw [hx] at hy; cases hy
      | some x =>
        rw [hx] at hy
        have e : trw s.2 x = y := Option.some.inj hy
        subst e
        exact gf_vv h (a9 x hx) (k3 x (List.mem_of_getElem? hx))⟩))
theorem gf_sv {C : List fr_C} {T : Nat → lb_T} (h : GF bs s) : ∀ (m : Nat) (st : List aw_T), st.length ≤ m → (∀ x ∈ st, mvd s.2 x) → ∀ fn k : Nat, sv C T bs st fn k → sv C T (ag_bs s) (st.map (trw s.2)) fn k := by
  intro m
  induction m with
  | zero =>
    intro st hs _ fn k hv
    cases st with
    | nil => exact hv
    | cons w t => exact absurd hs (by simp)
  | succ m ih =>
    intro st hs hm fn k hv
    match st, hs, hm, hv with
    | [], _, _, hv => exact hv
    | [w], _, hm, hv => exact ⟨hv.1, gf_vv h hv.2.1 (hm w (by simp)), hv.2.2⟩
    | w :: x :: t, hs, hm, hv =>
      have hs : t.length + 1 + 1 ≤ m + 1 := hs
      rcases hv with ⟨h1, h2, h3⟩ | ⟨h1, h2, a, fn', e', k', rfl, h4, h5, h6⟩
      · exact Or.inl ⟨h1, gf_vv h h2 (hm w (by simp)), ih (x :: t) (by show t.length + 1 ≤ m; omega) (fun y hy => hm y (List.mem_cons_of_mem _ hy)) fn (k - 1) h3⟩
      · exact Or.inr ⟨h1, h2, a, fn', e', k', rfl, h4, gf_ev h h5 (hm x (by simp)), ih t (by omega) (fun y hy => hm y (List.mem_cons_of_mem _ (List.mem_cons_of_mem _ hy))) fn' k' h6⟩
end GR
theorem int_odd {a : Nat} : nI (2 * a + 1) &&& 1 = 1 := by
  refine Int32.toBitVec_inj.mp ?_
  rw [Int32.toBitVec_and]
  refine BitVec.eq_of_toNat_eq ?_
  show (BitVec.ofNat 32 (2 * a + 1) &&& BitVec.ofNat 32 1).toNat = (BitVec.ofNat 32 1).toNat
  rw [BitVec.toNat_and, BitVec.toNat_ofNat, BitVec.toNat_ofNat]
  rw [Nat.mod_eq_of_lt (show 1 < 2 ^ 32 by decide), Nat.and_one_is_mod]; omega
theorem sv_wv {C : List fr_C} {T : Nat → lb_T} {bs : List hb_T} : ∀ (m : Nat) (st : List aw_T), st.length ≤ m → ∀ fn k : Nat, sv C T bs st fn k → ∀ x ∈ st, wv bs x := by
  intro m
  induction m with
  | zero =>
    intro st hs fn k _
    cases st with
    | nil => intro x hx; exact absurd hx List.not_mem_nil
    | cons w t => exact absurd hs (by simp)
  | succ m ih =>
    intro st hs fn k hv
    match st, hs, hv with
    | [], _, _ => intro x hx; exact absurd hx List.not_mem_nil
    | [w], _, hv => intro x hx; rw [List.mem_singleton] at hx; subst hx; exact vv_wv hv.2.1
    | w :: y :: t, hs, hv =>
      have hs : t.length + 1 + 1 ≤ m + 1 := hs
      intro x hx
      rcases hv with ⟨h1, h2, h3⟩ | ⟨h1, h2, a, fn', e', k', rfl, h4, h5, h6⟩
      · rcases List.mem_cons.mp hx with rfl | hx
        · exact vv_wv h2
        · exact ih (y :: t) (by show t.length + 1 ≤ m; omega) fn (k - 1) h3 x hx
      · rcases List.mem_cons.mp hx with rfl | hx
        · exact odd_np _ int_odd
        · rcases List.mem_cons.mp hx with rfl | hx
          · exact ev_wv h5
          · exact ih t (by omega) fn' k' h6 x hx
/-- a collection keeps the machine's state -/
theorem mi_gc {C : List fr_C} {T : Nat → lb_T} {bs : List hb_T} {acc env : aw_T} {st : List aw_T} {pc N : Nat} (h : MI C T bs acc env st pc) (hN : hsz bs ≤ N) : GF bs (ag_all bs N acc env st) ∧ mvd (ag_all bs N acc env st).2 acc ∧ mvd (ag_all bs N acc env st).2 env ∧ (∀ x ∈ st, mvd (ag_all bs N acc env st).2 x) ∧ MI C T (ag_bs (ag_all bs N acc env st)) (trw (ag_all bs N acc env st).2 acc) (trw (ag_all bs N acc env st).2 env) (st.map (trw (ag_all bs N acc env st).2)) pc := by
  obtain ⟨h1, h2, h3, h4, h5, h6, h7, h8⟩ := h
  obtain ⟨r1, r2, r3, r4⟩ := ag_root_ok h3 (ev_wv h5) (sv_wv _ st (Nat.le_refl _) _ _ h6)
  obtain ⟨n, g1, g2⟩ := ag_out_ok h1 N 0 _ r1 (by omega)
  have hGF : GF bs (ag_all bs N acc env st) := by
    unfold GF ag_all; rw [g2] at g1; exact g1
  have hml : mle (ag_root bs acc env st) (ag_all bs N acc env st) := mle_out _ _ _
  have ma := mvd_mle hml r2
  have me := mvd_mle hml r3
  have ms : ∀ x ∈ st, mvd (ag_all bs N acc env st).2 x := fun x hx => mvd_mle hml (r4 x hx)
  refine ⟨hGF, ma, me, ms, gf_bv hGF h1, gf_bty hGF h2, gf_wv hGF h3 ma, h4, gf_ev hGF h5 me, gf_sv hGF _ st (Nat.le_refl _) ms _ _ h6, fun a ha9 ha => ?_, gf_vv hGF h8 ma⟩
  obtain ⟨p, b, e1, e2, e3, e4⟩ := h7 a ha9 ha
  subst e1
  obtain ⟨q, hq⟩ := ma
  obtain ⟨b', k1, k2, _⟩ := gf_bk hGF hq
  rw [e2] at k1
  have eb : b = b' := Option.some.inj k1
  subst eb
  rw [trw_some hq]
  exact ⟨q, _, rfl, k2, e3, by show (b.2.map _).length = a; rw [List.length_map]; exact e4⟩
