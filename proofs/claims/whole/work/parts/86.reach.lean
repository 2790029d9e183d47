/-! LIVE: what is marked is what is moved -/
/-- P holds of what the roots point to, and of what its blocks point to -/
def clo (bs : List hb_T) (P : Nat → Prop) : Prop := ∀ (p : Nat) (b : hb_T), P p → bk bs p = some b → ∀ q : Nat, .inr q ∈ b.2 → P q
def pw (P : Nat → Prop) (x : aw_T) : Prop := ∀ p : Nat, x = .inr p → P p
def MN (P : Nat → Prop) (s : gs_T) : Prop := (∀ p q : Nat, s.2 p = some q → P p) ∧ ∀ b2 ∈ s.1, ∀ p : Nat, .inr (.inl p) ∈ b2.2 → P p
section MNS
variable {P : Nat → Prop} {bs : List hb_T} {s : gs_T}
theorem mn_cp (hc : clo bs P) (h : MN P s) {w : g2_T} (hw : ∀ p : Nat, w = .inr (.inl p) → P p) : MN P (ag_cp bs s w).2 ∧ ∀ p : Nat, (ag_cp bs s w).1 = .inr (.inl p) → P p := by
  match w, hw with
  | .inl x, _ => exact ⟨h, fun p hp => by cases hp⟩
  | .inr (.inr q), _ => exact ⟨h, fun p hp => by cases hp⟩
  | .inr (.inl p), hw =>
    cases h1 : s.2 p with
    | some q =>
      have e : ag_cp bs s (.inr (.inl p)) = (.inr (.inr q), s) := by
        show (match s.2 p with | some q => _ | none => _) = _
        rw [h1]
      rw [e]; exact ⟨h, fun p hp => by cases hp⟩
    | none =>
      cases h2 : bk bs p with
      | none =>
        have e : ag_cp bs s (.inr (.inl p)) = (.inr (.inl p), s) := by
          show (match s.2 p with | some q => _ | none => (match bk bs p with | some b => _ | none => _)) = _
          rw [h1, h2]
        rw [e]; exact ⟨h, fun p' hp => hw p' hp⟩
      | some b =>
        have e : ag_cp bs s (.inr (.inl p)) = (.inr (.inr (hsz s.1)), (s.1 ++ [(b.1, b.2.map up2)], fun j => if j = p then some (hsz s.1) else s.2 j)) := by
          show (match s.2 p with | some q => _ | none => (match bk bs p with | some b => _ | none => _)) = _
          rw [h1, h2]
        rw [e]
        refine ⟨⟨fun p' q hp => ?_, fun b2 hb p' hp => ?_⟩, fun p hp => by cases hp⟩
        · have hp : (if p' = p then some (hsz s.1) else s.2 p') = some q := hp
          by_cases e9 : p' = p
          · rw [e9]; exact hw p rfl
          · rw [if_neg e9] at hp; exact h.1 p' q hp
        · rcases List.mem_append.mp hb with hb | hb
          · exact h.2 b2 hb p' hp
          · rw [List.mem_singleton] at hb; subst hb
            obtain ⟨x, hx, ex⟩ := List.mem_map.mp hp
            cases x with
            | inl w => cases ex
            | inr q =>
              have e9 : q = p' := Sum.inl.inj (Sum.inr.inj ex)
              subst e9
              exact hc p b (hw p rfl) h2 q hx
theorem mn_in (hc : clo bs P) {i : Nat} : ∀ (r j : Nat) (s : gs_T), MN P s → MN P (ag_in bs i r j s) := by
  intro r
  induction r with
  | zero => intro j s h; exact h
  | succ r ih =>
    intro j s h
    unfold ag_in
    cases h1 : s.1[i]? with
    | none => exact h
    | some b =>
      show MN P (match b.2[j]? with | some w => _ | none => s)
      cases h2 : b.2[j]? with
      | none => exact h
      | some w =>
        refine ih _ _ ?_
        obtain ⟨g1, g2⟩ := mn_cp hc h (w := w) (fun p hp => h.2 b (List.mem_of_getElem? h1) p (by rw [← hp]; exact List.mem_of_getElem? h2))
        refine ⟨g1.1, fun b2 hb p hp => ?_⟩
        have hb : b2 ∈ setw (ag_cp bs s w).2.1 i j (ag_cp bs s w).1 := hb
        unfold setw at hb
        cases h3 : (ag_cp bs s w).2.1[i]? with
        | none => rw [h3] at hb; exact g1.2 b2 hb p hp
        | some b3 =>
          rw [h3] at hb
          rcases List.mem_or_eq_of_mem_set hb with hb | hb
          · exact g1.2 b2 hb p hp
          · subst hb
            rcases List.mem_or_eq_of_mem_set hp with hp | hp
            · exact g1.2 b3 (List.mem_of_getElem? h3) p hp
            · exact g2 p hp.symm
theorem mn_out (hc : clo bs P) : ∀ (r i : Nat) (s : gs_T), MN P s → MN P (ag_out bs r i s) := by
  intro r
  induction r with
  | zero => intro i s h; exact h
  | succ r ih =>
    intro i s h
    unfold ag_out
    cases h1 : s.1[i]? with
    | none => exact h
    | some b => exact ih _ _ (mn_in hc _ _ _ h)
theorem mn_st (hc : clo bs P) : ∀ (l : List aw_T) (s : gs_T), (∀ x ∈ l, pw P x) → MN P s → MN P (ag_st bs l s) := by
  intro l
  induction l with
  | nil => intro s _ h; exact h
  | cons y t ih =>
    intro s hl h
    refine ih _ (fun x hx => hl x (List.mem_cons_of_mem _ hx)) (mn_cp hc h (fun p hp => ?_)).1
    cases y with
    | inl w => cases hp
    | inr q =>
      have e9 : q = p := Sum.inl.inj (Sum.inr.inj hp)
      subst e9; exact hl _ List.mem_cons_self q rfl
theorem up_pw {x : aw_T} (h : pw P x) : ∀ p : Nat, up2 x = .inr (.inl p) → P p := fun p hp => by
  cases x with
  | inl w => cases hp
  | inr q =>
    have e9 : q = p := Sum.inl.inj (Sum.inr.inj hp)
    subst e9; exact h q rfl
/-- what is moved is reached -/
theorem mn_all {N : Nat} {acc env : aw_T} {st : List aw_T} (hc : clo bs P) (ha : pw P acc) (he : pw P env) (hs : ∀ x ∈ st, pw P x) : ∀ p q : Nat, (ag_all bs N acc env st).2 p = some q → P p := by
  refine (mn_out hc N 0 _ (mn_st hc _ _ (fun x hx => hs x (List.mem_reverse.mp hx)) (mn_cp hc (mn_cp hc ⟨fun p q h => (by cases h), fun b2 hb => absurd hb List.not_mem_nil⟩ (up_pw ha)).1 (up_pw he)).1)).1
end MNS
/-- the words that are not marked, by a mark for each place -/
theorem um_cong {m1 m2 : Nat → Option Nat} : ∀ (t : List hb_T) (o : Nat), (∀ (p : Nat) (b : hb_T), bk t p = some b → (m1 (o + p) = none ↔ m2 (o + p) = none)) → um t o m1 = um t o m2 := by
  intro t
  induction t with
  | nil => intro o _; rfl
  | cons b t ih =>
    intro o h
    have h0 := h 0 b (by unfold bk; rw [if_pos rfl])
    rw [Nat.add_zero] at h0
    show (if m1 o = none then 1 + b.2.length else 0) + um t (o + (1 + b.2.length)) m1 = (if m2 o = none then 1 + b.2.length else 0) + um t (o + (1 + b.2.length)) m2
    rw [ih (o + (1 + b.2.length)) (fun p b' hb => by
      have := h (1 + b.2.length + p) b' (by unfold bk; rw [if_neg (by omega), if_neg (by omega), show 1 + b.2.length + p - (1 + b.2.length) = p by omega]; exact hb)
      rw [show o + (1 + b.2.length) + p = o + (1 + b.2.length + p) by omega]; exact this)]
    by_cases e : m1 o = none
    · rw [if_pos e, if_pos (h0.mp e)]
    · rw [if_neg e, if_neg (fun h9 => e (h0.mpr h9))]
