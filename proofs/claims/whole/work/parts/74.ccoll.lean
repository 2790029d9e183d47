/-! THE CLASS'S COLLECTION is the abstract one -/
def cw2 (s d : Nat) : g2_T → Int32
  | .inl w => w
  | .inr (.inl p) => nI (4 * (p + s))
  | .inr (.inr q) => nI (4 * (q + d))
theorem cw2_up {s d : Nat} {x : aw_T} : cw2 s d (up2 x) = cw s x := by
  cases x <;> rfl
def mvw (d : Nat) : Option Nat → Int32
  | some q => nI (q + d)
  | none => -1
theorem lay_up {α : Type} {g : Nat → Int32} {c : α → Int32} {A : List (Nat × List α)} {s k : Nat} {x : Int32} (h : lay g c s A) (hk : k < s ∨ s + hsz A ≤ k) : lay (upd g k x) c s A := lay_eq h (fun i i1 i2 => upd_n (by omega))
theorem lay_set {α : Type} {g : Nat → Int32} {c : α → Int32} {w : α} {j : Nat} {b : Nat × List α} : ∀ {A : List (Nat × List α)} {s i : Nat}, lay g c s A → A[i]? = some b → j < b.2.length → lay (upd g (s + hsz (A.take i) + 1 + j) (c w)) c s (A.set i (b.1, b.2.set j w)) := by
  intro A
  induction A with
  | nil => intro s i _ h; simp at h
  | cons x t ih =>
    intro s i hl h hj
    cases i with
    | zero =>
      have e : x = b := by simpa using h
      subst e
      rw [show s + hsz ((x :: t).take 0) + 1 + j = s + 1 + j from rfl]
      have e2 : (x :: t).set 0 (x.1, x.2.set j w) = (x.1, x.2.set j w) :: t := rfl
      rw [e2]
      refine ⟨?_, fun j' y hj' => ?_, ?_⟩
      · rw [upd_n (by omega)]; show g s = nI (16 * (x.2.set j w).length + x.1); rw [List.length_set]; exact hl.1
      · have hj' : (x.2.set j w)[j']? = some y := hj'
        by_cases ej : j' = j
        · subst ej
          rw [List.getElem?_set_self hj] at hj'
          have : w = y := Option.some.inj hj'
          subst this
          exact upd_s
        · rw [List.getElem?_set_ne (Ne.symm ej)] at hj'
          rw [upd_n (by omega)]; exact hl.2.1 j' y hj'
      · show lay _ c (s + 1 + (x.2.set j w).length) t
        rw [List.length_set]
        exact lay_up hl.2.2 (Or.inl (by omega))
    | succ i =>
      have h : t[i]? = some b := by simpa using h
      have e1 : hsz ((x :: t).take (i + 1)) = 1 + x.2.length + hsz (t.take i) := rfl
      have e2 : (x :: t).set (i + 1) (b.1, b.2.set j w) = x :: t.set i (b.1, b.2.set j w) := rfl
      rw [e1, e2]
      refine ⟨?_, fun j' y hj' => ?_, ?_⟩
      · rw [upd_n (by omega)]; exact hl.1
      · have := (List.getElem?_eq_some_iff.mp hj').1
        rw [upd_n (by omega)]; exact hl.2.1 j' y hj'
      · have := ih (s := s + 1 + x.2.length) hl.2.2 h hj
        rw [show s + 1 + x.2.length + hsz (t.take i) + 1 + j = s + (1 + x.2.length + hsz (t.take i)) + 1 + j by omega] at this
        exact this
theorem take_lt {α : Type} : ∀ {A : List (Nat × List α)} {i : Nat} {b : Nat × List α}, A[i]? = some b → hsz (A.take i) + 1 + b.2.length ≤ hsz A ∧ hsz (A.take (i + 1)) = hsz (A.take i) + 1 + b.2.length := by
  intro A
  induction A with
  | nil => intro i b h; simp at h
  | cons x t ih =>
    intro i b h
    cases i with
    | zero =>
      have e : x = b := by simpa using h
      subst e
      refine ⟨by show 0 + 1 + x.2.length ≤ 1 + x.2.length + hsz t; omega, ?_⟩
      show 1 + x.2.length + hsz (t.take 0) = 0 + 1 + x.2.length
      rw [List.take_zero]; show 1 + x.2.length + 0 = _; omega
    | succ i =>
      have h : t[i]? = some b := by simpa using h
      obtain ⟨h1, h2⟩ := ih h
      refine ⟨by show 1 + x.2.length + hsz (t.take i) + 1 + b.2.length ≤ 1 + x.2.length + hsz t; omega, ?_⟩
      show 1 + x.2.length + hsz (t.take (i + 1)) = 1 + x.2.length + hsz (t.take i) + 1 + b.2.length
      omega
/-- where the copies lie -/
theorem gi_q {bs : List hb_T} {i j : Nat} {s : gs_T} (h : GI bs i j s) {p q : Nat} (hq : s.2 p = some q) : q < hsz s.1 := by
  obtain ⟨og, o1, o2, o3, o4, o5, o6⟩ := h
  obtain ⟨a, a1, a2⟩ := (o5 p q).mp hq
  obtain ⟨b, b2, _, k2, _⟩ := o6 a p a1
  have := (take_lt k2).1
  omega
/-- sizes of what lies in front are kept -/
theorem tk_cp {bs : List hb_T} {s : gs_T} {w : g2_T} {a : Nat} (ha : a ≤ s.1.length) : s.1.length ≤ (ag_cp bs s w).2.1.length ∧ hsz ((ag_cp bs s w).2.1.take a) = hsz (s.1.take a) := by
  unfold ag_cp
  split
  · exact ⟨Nat.le_refl _, rfl⟩
  · exact ⟨Nat.le_refl _, rfl⟩
  · next p' =>
    cases hm : s.2 p' with
    | some q' => exact ⟨Nat.le_refl _, rfl⟩
    | none =>
      cases hb : bk bs p' with
      | some b =>
        refine ⟨by show _ ≤ (s.1 ++ [_]).length; rw [List.length_append]; exact Nat.le_add_right _ _, ?_⟩
        show hsz ((s.1 ++ [_]).take a) = _
        rw [List.take_append_of_le_length ha]
      | none => exact ⟨Nat.le_refl _, rfl⟩
theorem tk_set {nb : List (Nat × List g2_T)} {i j a : Nat} {w : g2_T} : (setw nb i j w).length = nb.length ∧ hsz ((setw nb i j w).take a) = hsz (nb.take a) := by
  unfold setw
  cases hb : nb[i]? with
  | none => exact ⟨rfl, rfl⟩
  | some b =>
    refine ⟨List.length_set .., hsz_cong ?_⟩
    rw [List.map_take, List.map_take, set_map hb (List.length_set ..)]
theorem tk_in {bs : List hb_T} {i : Nat} : ∀ (r j : Nat) (s : gs_T) (a : Nat), a ≤ s.1.length → s.1.length ≤ (ag_in bs i r j s).1.length ∧ hsz ((ag_in bs i r j s).1.take a) = hsz (s.1.take a) := by
  intro r
  induction r with
  | zero => intro j s a _; exact ⟨Nat.le_refl _, rfl⟩
  | succ r ih =>
    intro j s a ha
    simp only [ag_in]
    split
    · split
      · next b _ w _ =>
        obtain ⟨c1, c2⟩ := tk_cp (bs := bs) (s := s) (w := w) ha
        obtain ⟨d1, d2⟩ := tk_set (nb := (ag_cp bs s w).2.1) (i := i) (j := j) (a := a) (w := (ag_cp bs s w).1)
        obtain ⟨e1, e2⟩ := ih (j + 1) (setw (ag_cp bs s w).2.1 i j (ag_cp bs s w).1, (ag_cp bs s w).2.2) a (by show a ≤ (setw _ i j _).length; rw [d1]; omega)
        refine ⟨?_, e2.trans (d2.trans c2)⟩
        have e1 : (setw (ag_cp bs s w).2.1 i j (ag_cp bs s w).1).length ≤ _ := e1
        omega
      · exact ⟨Nat.le_refl _, rfl⟩
    · exact ⟨Nat.le_refl _, rfl⟩
def CG (s : gc_S) (a : gs_T) : Prop := lay s.1 (cw2 0 0) 0 a.1 ∧ s.2.2 = hsz a.1 ∧ ∀ p, s.2.1 p = mvw 0 (a.2 p)
section CC
variable {f : Nat → Int32} {t N : Nat} {bs : List hb_T} {i j : Nat} {s : gc_S} {a : gs_T}
theorem cc_pn {p : Nat} (hp : p < 400) : gc_pn (nI (4 * p)) = p := by
  unfold gc_pn; rw [ptr_shr p hp, nI_clamp (by omega)]
theorem cg_cp {x : aw_T} (hf : hc f t bs) (ht : t ≤ N) (hN : N ≤ 200) (hg : GI bs i j a) (hx : wv bs x) (h : CG s a) : (gc_cp N f t s (cw 0 x)).1 = cw2 0 0 (ag_cp bs a (up2 x)).1 ∧ CG (gc_cp N f t s (cw 0 x)).2 (ag_cp bs a (up2 x)).2 := by
  cases x with
  | inl w =>
    have e : gc_cp N f t s w = (w, s) := by unfold gc_cp; rw [hc_np (t := t) hx]; exact if_neg (by decide)
    show (gc_cp N f t s w).1 = w ∧ CG (gc_cp N f t s w).2 a
    rw [e]; exact ⟨rfl, h⟩
  | inr p =>
    obtain ⟨b, hb⟩ := hx
    have hlt := (bk_lt hb).1
    have htz := hf.2.1
    have hbv := hf.2.2.1 b (bk_lt hb).2
    have hL := lay_bk hf.1 hb
    rw [Nat.zero_add] at hL
    have ei : hp_isp (nI t) (nI (4 * p)) = true := hc_isp hf hb
    have epn : gc_pn (nI (4 * p)) = p := cc_pn (by omega)
    obtain ⟨g1, g2, g3⟩ := h
    have hlen := (GI_len hg).2
    cases hm : a.2 p with
    | some q =>
      have hq := gi_q hg hm
      have e : gc_cp N f t s (nI (4 * p)) = (4 * nI q, s) := by
        unfold gc_cp
        rw [if_pos ei, epn, g3 p, hm]
        exact if_neg (fun h9 => m1_ne (t := q) (by omega) h9.symm)
      have e2 : ag_cp bs a (up2 (.inr p)) = (.inr (.inr q), a) := by
        show (match a.2 p with | some q => _ | none => _) = _
        rw [hm]
      show (gc_cp N f t s (nI (4 * p))).1 = _ ∧ CG (gc_cp N f t s (nI (4 * p))).2 _
      rw [e, e2]
      exact ⟨nI_4, g1, g2, g3⟩
    | none =>
      have e2 : ag_cp bs a (up2 (.inr p)) = (.inr (.inr (hsz a.1)), (a.1 ++ [(b.1, b.2.map up2)], fun j => if j = p then some (hsz a.1) else a.2 j)) := by
        show (match a.2 p with | some q => _ | none => (match bk bs p with | some b => _ | none => _)) = _
        rw [hm, hb]
      have hroom : hsz a.1 + (1 + b.2.length) ≤ N := by
        obtain ⟨og, o1, o2, o3, o4, _⟩ := hg
        have := um_set (q := 0) hm bs 0 (Nat.zero_le _) (by rw [Nat.sub_zero]; exact hb)
        omega
      have eq : gc_q f (nI (4 * p)) = nI (1 + b.2.length) := by
        unfold gc_q
        rw [epn, hL.1, hdr_shr _ hbv.2.1 _ hbv.1]; exact nI_add 1 _
      have ek : gc_ok N f t s.2.2 (nI (4 * p)) = true := by
        unfold gc_ok
        rw [eq, ptr_shr p (by omega), nI_add, nI_add, g2]
        simp only [Bool.and_eq_true, decide_eq_true_eq]
        exact ⟨nI_nlt (b := 1) (by omega) (by omega), nI_nlt (by omega) (by omega), nI_le (by omega) (by omega)⟩
      have e : gc_cp N f t s (nI (4 * p)) = (4 * nI s.2.2, (va_cpy f s.1 p s.2.2 (1 + b.2.length), upd s.2.1 p (nI s.2.2), s.2.2 + (1 + b.2.length))) := by
        unfold gc_cp
        rw [if_pos ei, epn, g3 p, hm, eq, nI_clamp (by omega)]
        rw [if_pos (show mvw 0 none = -1 from rfl), if_pos ek]
      show (gc_cp N f t s (nI (4 * p))).1 = _ ∧ CG (gc_cp N f t s (nI (4 * p))).2 _
      rw [e, e2, g2]
      refine ⟨nI_4, ?_, ?_, fun p' => ?_⟩
      · show lay (va_cpy f s.1 p (hsz a.1) (1 + b.2.length)) (cw2 0 0) 0 (a.1 ++ [(b.1, b.2.map up2)])
        have hin : ∀ k, k < 1 + b.2.length → va_cpy f s.1 p (hsz a.1) (1 + b.2.length) (hsz a.1 + k) = f (p + k) := fun k hk => by
          unfold va_cpy
          rw [if_pos ⟨by omega, by omega⟩, show hsz a.1 + k - hsz a.1 = k by omega]
        refine lay_app (lay_eq g1 (fun k k1 k2 => ?_)) ?_ (fun k y hk => ?_)
        · unfold va_cpy; rw [if_neg (by omega)]
        · rw [Nat.zero_add]
          have := hin 0 (by omega)
          rw [Nat.add_zero, Nat.add_zero] at this
          rw [this, hL.1]
          show _ = nI (16 * (b.2.map up2).length + b.1)
          rw [List.length_map]
        · have hk : (b.2.map up2)[k]? = some y := hk
          rw [List.getElem?_map] at hk
          cases hbk : b.2[k]? with
          | none => rw [hbk] at hk; cases hk
          | some x =>
            rw [hbk] at hk
            have ey : up2 x = y := Option.some.inj hk
            have hkl := (List.getElem?_eq_some_iff.mp hbk).1
            rw [Nat.zero_add, show hsz a.1 + 1 + k = hsz a.1 + (1 + k) by omega, hin (1 + k) (by omega), ← ey, cw2_up, show p + (1 + k) = p + 1 + k by omega]
            exact hL.2 k x hbk
      · show hsz a.1 + (1 + b.2.length) = hsz (a.1 ++ [(b.1, b.2.map up2)])
        rw [hsz_app]; show _ = hsz a.1 + (1 + (b.2.map up2).length); rw [List.length_map]
      · show upd s.2.1 p (nI (hsz a.1)) p' = mvw 0 (if p' = p then some (hsz a.1) else a.2 p')
        by_cases ep : p' = p
        · rw [ep, upd_s, if_pos rfl]; rfl
        · rw [upd_n ep, if_neg ep]; exact g3 p'
/-- the words of a block -/
theorem cg_in (hf : hc f t bs) (ht : t ≤ N) (hN : N ≤ 200) : ∀ (m j r : Nat) (s : gc_S) (a : gs_T) (b2 : Nat × List g2_T), GI bs i j a → CG s a → a.1[i]? = some b2 → j + m = b2.2.length → m ≤ r → CG (gc_in N f t (hsz (a.1.take i) + 1 + b2.2.length) r (hsz (a.1.take i) + 1 + j) s) (ag_in bs i m j a) := by
  intro m
  induction m with
  | zero =>
    intro j r s a b2 hg h hi hj hr
    have e : gc_in N f t (hsz (a.1.take i) + 1 + b2.2.length) r (hsz (a.1.take i) + 1 + j) s = s := by
      cases r with
      | zero => rfl
      | succ r => show (if _ then _ else s) = s; rw [if_neg (by omega)]
    rw [e]; exact h
  | succ m ih =>
    intro j r s a b2 hg h hi hj hr
    cases r with
    | zero => omega
    | succ r =>
      have hjl : j < b2.2.length := by omega
      have hw : b2.2[j]? = some b2.2[j] := List.getElem?_eq_getElem hjl
      have hg' := hg
      obtain ⟨og, o1, o2, o3, o4, o5, o6⟩ := hg'
      have hil := (List.getElem?_eq_some_iff.mp hi).1
      have hog : og[i]? = some og[i] := List.getElem?_eq_getElem (by omega)
      obtain ⟨b, b2', k1, k2, k3, k4, k5⟩ := o6 i _ hog
      rw [hi] at k2
      have e2 : b2 = b2' := Option.some.inj k2
      subst e2
      have hx : b.2[j]? = some b.2[j] := List.getElem?_eq_getElem (by omega)
      have hns : ¬ scd i j i j := fun h9 => by rcases h9 with h9 | h9 <;> omega
      have hw2 := (k5 j _ hx).2 hns
      rw [hw] at hw2
      have ew : b2.2[j] = up2 b.2[j] := Option.some.inj hw2
      have hv : wv bs b.2[j] := (hf.2.2.1 b (bk_lt k1).2).2.2 _ (List.getElem_mem _)
      have hpos : s.1 (hsz (a.1.take i) + 1 + j) = cw 0 b.2[j] := by
        have := (lay_bk h.1 (bk_take hi)).2 j _ hw
        rw [Nat.zero_add, ew, cw2_up] at this; exact this
      obtain ⟨c1, c2⟩ := cg_cp hf ht hN hg hv h
      obtain ⟨g1, b3, g2, g3⟩ := ag_in_step hf.2.2.1 hg hi hw
      have hcp := ag_cp_ok hg hv
      obtain ⟨_, _, _, _, e9, hap⟩ := hcp
      have ein : ag_in bs i (m + 1) j a = ag_in bs i m (j + 1) (setw (ag_cp bs a b2.2[j]).2.1 i j (ag_cp bs a b2.2[j]).1, (ag_cp bs a b2.2[j]).2.2) := by
        simp only [ag_in, hi, hw]
      have egc : gc_in N f t (hsz (a.1.take i) + 1 + b2.2.length) (r + 1) (hsz (a.1.take i) + 1 + j) s = gc_in N f t (hsz (a.1.take i) + 1 + b2.2.length) r (hsz (a.1.take i) + 1 + j + 1) (upd (gc_cp N f t s (cw 0 b.2[j])).2.1 (hsz (a.1.take i) + 1 + j) (gc_cp N f t s (cw 0 b.2[j])).1, (gc_cp N f t s (cw 0 b.2[j])).2.2.1, (gc_cp N f t s (cw 0 b.2[j])).2.2.2) := by
        show (if _ then _ else s) = _
        rw [if_pos (by omega), hpos]
      rw [ein, egc]
      rw [ew] at g1 g2 ⊢
      have hi1 : (ag_cp bs a (up2 b.2[j])).2.1[i]? = some b2 := by rw [hap, List.getElem?_append_left hil]; exact hi
      have htk : hsz ((ag_cp bs a (up2 b.2[j])).2.1.take i) = hsz (a.1.take i) := by rw [hap, List.take_append_of_le_length (by omega)]
      have htk2 : hsz ((setw (ag_cp bs a (up2 b.2[j])).2.1 i j (ag_cp bs a (up2 b.2[j])).1).take i) = hsz (a.1.take i) := by rw [tk_set.2, htk]
      have hcg : CG (upd (gc_cp N f t s (cw 0 b.2[j])).2.1 (hsz (a.1.take i) + 1 + j) (gc_cp N f t s (cw 0 b.2[j])).1, (gc_cp N f t s (cw 0 b.2[j])).2.2.1, (gc_cp N f t s (cw 0 b.2[j])).2.2.2) (setw (ag_cp bs a (up2 b.2[j])).2.1 i j (ag_cp bs a (up2 b.2[j])).1, (ag_cp bs a (up2 b.2[j])).2.2) := by
        obtain ⟨d1, d2, d3⟩ := c2
        refine ⟨?_, ?_, d3⟩
        · have := lay_set (w := (ag_cp bs a (up2 b.2[j])).1) d1 hi1 hjl
          rw [htk, Nat.zero_add] at this
          show lay (upd (gc_cp N f t s (cw 0 b.2[j])).2.1 (hsz (a.1.take i) + 1 + j) (gc_cp N f t s (cw 0 b.2[j])).1) (cw2 0 0) 0 (setw (ag_cp bs a (up2 b.2[j])).2.1 i j (ag_cp bs a (up2 b.2[j])).1)
          rw [setw_eq hi1, c1]; exact this
        · show (gc_cp N f t s (cw 0 b.2[j])).2.2.2 = hsz (setw _ i j _)
          rw [setw_eq hi1, hsz_cong (set_map hi1 (List.length_set ..))]; exact d2
      have := ih (j + 1) r _ _ b3 g1 hcg g2 (by omega) (by omega)
      have hb3 : b3.2.length = b2.2.length := g3
      rw [htk2, hb3, show hsz (a.1.take i) + 1 + (j + 1) = hsz (a.1.take i) + 1 + j + 1 by omega] at this
      exact this
theorem cg_out (hf : hc f t bs) (ht : t ≤ N) (hN : N ≤ 200) : ∀ (r i : Nat) (s : gc_S) (a : gs_T), GI bs i 0 a → CG s a → CG (gc_out N f t r (hsz (a.1.take i)) s) (ag_out bs r i a) := by
  intro r
  induction r with
  | zero => intro i s a _ h; exact h
  | succ r ih =>
    intro i s a hg h
    have hlen := (GI_len hg).2
    have htz := hf.2.1
    cases hi : a.1[i]? with
    | none =>
      have e : ag_out bs (r + 1) i a = a := by simp only [ag_out, hi]
      have hil := List.getElem?_eq_none_iff.mp hi
      have e2 : gc_out N f t (r + 1) (hsz (a.1.take i)) s = s := by
        show (if _ then _ else s) = s
        rw [List.take_of_length_le hil, if_neg]
        rw [h.2.1]; omega
      rw [e, e2]; exact h
    | some b2 =>
      have e : ag_out bs (r + 1) i a = ag_out bs r (i + 1) (ag_in bs i b2.2.length 0 a) := by simp only [ag_out, hi]
      obtain ⟨t1, t2⟩ := take_lt hi
      have hdr := (lay_bk h.1 (bk_take hi)).1
      rw [Nat.zero_add] at hdr
      have hb16 : b2.1 < 16 ∧ b2.2.length < 4 := by
        have hg' := hg
        obtain ⟨og, o1, o2, o3, o4, o5, o6⟩ := hg'
        have hil := (List.getElem?_eq_some_iff.mp hi).1
        obtain ⟨b, b2', k1, k2, k3, k4, _⟩ := o6 i _ (List.getElem?_eq_getElem (l := og) (i := i) (by omega))
        rw [hi] at k2
        have e2 : b2 = b2' := Option.some.inj k2
        subst e2
        have := hf.2.2.1 b (bk_lt k1).2
        rw [k3, k4]; exact ⟨this.1, this.2.1⟩
      have hbh : gc_bh s.1 (hsz (a.1.take i)) = hsz (a.1.take i) + 1 + b2.2.length := by
        unfold gc_bh
        rw [hdr, hdr_shr _ hb16.2 _ hb16.1, nI_clamp (by omega)]
      have e2 : gc_out N f t (r + 1) (hsz (a.1.take i)) s = gc_out N f t r (hsz (a.1.take i) + 1 + b2.2.length) (gc_in N f t (hsz (a.1.take i) + 1 + b2.2.length) (N - (hsz (a.1.take i) + 1)) (hsz (a.1.take i) + 1) s) := by
        show (if _ then _ else s) = _
        rw [if_pos (by rw [h.2.1]; omega), hbh]
      rw [e, e2]
      obtain ⟨g1, b3, g2, g3⟩ := ag_in_ok hf.2.2.1 b2.2.length 0 a b2 hg hi (by omega)
      have hc1 := cg_in hf ht hN b2.2.length 0 (N - (hsz (a.1.take i) + 1)) s a b2 hg h hi (by omega) (by omega)
      have hil := (List.getElem?_eq_some_iff.mp hi).1
      have htk := (tk_in (bs := bs) (i := i) b2.2.length 0 a (i + 1) (by omega)).2
      have := ih (i + 1) _ _ (GI_next g1 g2 (by omega)) hc1
      rw [htk, t2] at this; exact this
theorem cg_st {sf : Nat → Int32} (hf : hc f t bs) (ht : t ≤ N) (hN : N ≤ 200) : ∀ (l : List aw_T) (k : Nat) (s : gc_S) (a : gs_T), GI bs 0 0 a → CG s a → (∀ x ∈ l, wv bs x) → (∀ (c : Nat) (x : aw_T), l[c]? = some x → sf (k + c) = cw 0 x) → CG (gc_st N f t sf l.length k s) (ag_st bs l a) := by
  intro l
  induction l with
  | nil => intro k s a _ h _ _; exact h
  | cons y u ih =>
    intro k s a hg h hl hs
    have hy := hl y List.mem_cons_self
    obtain ⟨c1, c2⟩ := cg_cp hf ht hN hg hy h
    have e0 : sf k = cw 0 y := hs 0 y rfl
    show CG (gc_st N f t sf u.length (k + 1) (gc_cp N f t s (sf k)).2) (ag_st bs u (ag_cp bs a (up2 y)).2)
    rw [e0]
    exact ih (k + 1) _ _ (ag_cp_ok hg hy).1 c2 (fun x hx => hl x (List.mem_cons_of_mem _ hx)) (fun c x hc => by
      rw [show k + 1 + c = k + (c + 1) by omega]; exact hs (c + 1) x hc)
end CC
theorem lay_map {α β : Type} {g : Nat → Int32} {c : α → Int32} {c' : β → Int32} {h : α → β} : ∀ {A : List (Nat × List α)} {s : Nat}, lay g c s A → (∀ b ∈ A, ∀ w ∈ b.2, c w = c' (h w)) → lay g c' s (A.map (fun b => (b.1, b.2.map h))) := by
  intro A
  induction A with
  | nil => intro s _ _; trivial
  | cons x t ih =>
    intro s hl hh
    refine ⟨?_, fun j y hj => ?_, ?_⟩
    · show g s = nI (16 * (x.2.map h).length + x.1); rw [List.length_map]; exact hl.1
    · have hj : (x.2.map h)[j]? = some y := hj
      rw [List.getElem?_map] at hj
      cases hx : x.2[j]? with
      | none => rw [hx] at hj; cases hj
      | some w =>
        rw [hx] at hj
        have ey : h w = y := Option.some.inj hj
        rw [hl.2.1 j w hx, ← ey]
        exact hh x List.mem_cons_self w (List.mem_of_getElem? hx)
    · show lay g c' (s + 1 + (x.2.map h).length) _
      rw [List.length_map]
      exact ih hl.2.2 (fun b hb => hh b (List.mem_cons_of_mem _ hb))
section CD
variable {f : Nat → Int32} {t N : Nat} {bs : List hb_T} {s : gc_S} {a : gs_T}
theorem cw2_dn {w : g2_T} : cw2 0 0 w = cw 0 (dn2 w) := by
  rcases w with w | p | q <;> rfl
/-- what has been copied already -/
theorem cg_mv {x : aw_T} {i j : Nat} (hf : hc f t bs) (ht : t ≤ N) (hN : N ≤ 200) (hg : GI bs i j a) (hx : wv bs x) (hm : mvd a.2 x) (h : CG s a) : gc_cp N f t s (cw 0 x) = (cw 0 (trw a.2 x), s) := by
  cases x with
  | inl w => show gc_cp N f t s w = (w, s); unfold gc_cp; rw [hc_np (t := t) hx]; exact if_neg (by decide)
  | inr p =>
    obtain ⟨b, hb⟩ := hx
    obtain ⟨q, hq⟩ := hm
    have hlt := (bk_lt hb).1
    have htz := hf.2.1
    have hlen := (GI_len hg).2
    have hq9 := gi_q hg hq
    show gc_cp N f t s (nI (4 * p)) = _
    unfold gc_cp
    rw [if_pos (hc_isp hf hb), cc_pn (by omega), h.2.2 p, hq, trw_some hq]
    rw [if_neg (show ¬ mvw 0 (some q) = -1 from fun h9 => m1_ne (t := q) (by omega) h9.symm)]
    show ((4 : Int32) * nI (q + 0), s) = (nI (4 * (q + 0)), s)
    rw [nI_4]
theorem cg_sm {i j : Nat} (hf : hc f t bs) (ht : t ≤ N) (hN : N ≤ 200) (hg : GI bs i j a) (h : CG s a) : ∀ (l : List aw_T) (k : Nat) (sf : Nat → Int32), (∀ x ∈ l, wv bs x ∧ mvd a.2 x) → (∀ (c : Nat) (x : aw_T), l[c]? = some x → sf (k + c) = cw 0 x) → (gc_sm N f t l.length k sf s).2 = s ∧ (∀ (c : Nat) (x : aw_T), l[c]? = some x → (gc_sm N f t l.length k sf s).1 (k + c) = cw 0 (trw a.2 x)) ∧ ∀ c, c < k → (gc_sm N f t l.length k sf s).1 c = sf c := by
  intro l
  induction l with
  | nil => intro k sf _ _; exact ⟨rfl, fun c x hc => (by simp at hc), fun _ _ => rfl⟩
  | cons y u ih =>
    intro k sf hl hs
    obtain ⟨hy, hm⟩ := hl y List.mem_cons_self
    have e0 : sf k = cw 0 y := hs 0 y rfl
    have ecp := cg_mv hf ht hN hg hy hm h
    have e1 : gc_sm N f t (y :: u).length k sf s = gc_sm N f t u.length (k + 1) (upd sf k (cw 0 (trw a.2 y))) s := by
      show gc_sm N f t u.length (k + 1) (upd sf k (gc_cp N f t s (sf k)).1) (gc_cp N f t s (sf k)).2 = _
      rw [e0, ecp]
    rw [e1]
    obtain ⟨r1, r2, r3⟩ := ih (k + 1) (upd sf k (cw 0 (trw a.2 y))) (fun x hx => hl x (List.mem_cons_of_mem _ hx)) (fun c x hc => by
      rw [upd_n (by omega), show k + 1 + c = k + (c + 1) by omega]; exact hs (c + 1) x hc)
    refine ⟨r1, fun c x hc => ?_, fun c hc => ?_⟩
    · cases c with
      | zero =>
        have ey : y = x := by simpa using hc
        subst ey
        have := r3 k (by omega)
        rw [upd_s] at this; exact this
      | succ c =>
        have hc : u[c]? = some x := by simpa using hc
        have := r2 c x hc
        rw [show k + 1 + c = k + (c + 1) by omega] at this; exact this
    · rw [r3 c (by omega), upd_n (by omega)]
end CD
/-- the stack in its array -/
def skr (s0 : Nat) (sf : Nat → Int32) (st : List aw_T) : Prop := ∀ (c : Nat) (x : aw_T), st.reverse[c]? = some x → sf c = cw s0 x
section CE
variable {f g : Nat → Int32} {t N : Nat} {A : am_T} {C : List fr_C} {T : Nat → lb_T} {sf : Nat → Int32}
theorem cg_all (hA : GA N A) (hf : hc f t A.1) (hN : N ≤ 200) (hs : skr 0 sf A.2.2.2.1) : CG (gc_all N f t (cw 0 A.2.1) (cw 0 A.2.2.1) sf A.2.2.2.1.length g) (ag_all A.1 N A.2.1 A.2.2.1 A.2.2.2.1) := by
  obtain ⟨h1, hwa, hwe, hws, h2, h3, _⟩ := hA
  have hwa := vv_wv hwa
  have ht : t ≤ N := by rw [hf.2.1]; exact h3
  have c0 : CG (g, fun _ => -1, 0) ([], fun _ => none) := ⟨trivial, rfl, fun _ => rfl⟩
  obtain ⟨_, c1⟩ := cg_cp hf ht hN GI_0 hwa c0
  obtain ⟨g1, _⟩ := ag_cp_ok GI_0 hwa
  obtain ⟨_, c2⟩ := cg_cp hf ht hN g1 hwe c1
  obtain ⟨g2, _⟩ := ag_cp_ok g1 hwe
  have c3 := cg_st (sf := sf) hf ht hN A.2.2.2.1.reverse 0 _ _ g2 c2 (fun x hx => hws x (List.mem_reverse.mp hx)) (fun c x hc => by rw [Nat.zero_add]; exact hs c x hc)
  obtain ⟨g3, _⟩ := ag_st_ok A.2.2.2.1.reverse _ g2 (fun x hx => hws x (List.mem_reverse.mp hx))
  rw [List.length_reverse] at c3
  have c4 := cg_out hf ht hN N 0 _ _ g3 c3
  rw [List.take_zero] at c4
  exact c4
/-- the state behind the class's collection -/
theorem cg_col (hA : MIA C T N A) (hf : hc f t A.1) (hN : N ≤ 200) (hs : skr 0 sf A.2.2.2.1) : (gc_col N f t (cw 0 A.2.1) (cw 0 A.2.2.1) sf A.2.2.2.1.length g).1 = cw 0 (ag_A N A).2.1 ∧ (gc_col N f t (cw 0 A.2.1) (cw 0 A.2.2.1) sf A.2.2.2.1.length g).2.1 = cw 0 (ag_A N A).2.2.1 ∧ skr 0 (gc_col N f t (cw 0 A.2.1) (cw 0 A.2.2.1) sf A.2.2.2.1.length g).2.2.1 (ag_A N A).2.2.2.1 ∧ hc (gc_col N f t (cw 0 A.2.1) (cw 0 A.2.2.1) sf A.2.2.2.1.length g).2.2.2.1 (gc_col N f t (cw 0 A.2.1) (cw 0 A.2.2.1) sf A.2.2.2.1.length g).2.2.2.2.2 (ag_A N A).1 := by
  have hall := cg_all (g := g) (mia_ga hA) hf hN hs
  obtain ⟨m1, m2, m3, m4⟩ := mia_gc hA
  have hA' := hA
  obtain ⟨h1, h2, h3⟩ := hA'
  obtain ⟨_, _, me, ms, _⟩ := mi_gc h1 h3
  have ht : t ≤ N := by rw [hf.2.1]; exact h3
  have hwe := ev_wv h1.2.2.2.2.1
  have hws := sv_wv _ A.2.2.2.1 (Nat.le_refl _) _ _ h1.2.2.2.2.2.1
  have e1 := cg_mv hf ht hN m2 h1.2.2.1 m3 hall
  have e2 := cg_mv hf ht hN m2 hwe me hall
  obtain ⟨s1, s2, s3⟩ := cg_sm hf ht hN m2 hall A.2.2.2.1.reverse 0 sf (fun x hx => ⟨hws x (List.mem_reverse.mp hx), ms x (List.mem_reverse.mp hx)⟩) (fun c x hc => by rw [Nat.zero_add]; exact hs c x hc)
  rw [List.length_reverse] at s1 s2
  unfold gc_col
  simp only [e1, e2]
  refine ⟨rfl, rfl, fun c x hc => ?_, ?_, ?_, m1.1.1, ?_⟩
  · have hc : (A.2.2.2.1.map (trw (ag_all A.1 N A.2.1 A.2.2.1 A.2.2.2.1).2)).reverse[c]? = some x := hc
    rw [← List.map_reverse, List.getElem?_map] at hc
    cases hx : A.2.2.2.1.reverse[c]? with
    | none => rw [hx] at hc; cases hc
    | some y =>
      rw [hx] at hc
      have ey : trw _ y = x := Option.some.inj hc
      have := s2 c y hx
      rw [Nat.zero_add] at this
      rw [this, ← ey]
  · rw [s1]
    exact lay_map hall.1 (fun b _ w _ => cw2_dn)
  · rw [s1, hall.2.1]
    show _ = hsz (ag_bs _)
    unfold ag_bs; rw [hsz_map]
  · rw [s1, hall.2.1]
    have := (GI_len m2).2
    omega
end CE
