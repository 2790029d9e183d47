/-! A STEP OF THE ABSTRACT MACHINE, with its collection -/
section GK
variable {C : List fr_C} {T : Nat → lb_T} {bs : List hb_T} {s : gs_T}
theorem gk_knd (h : GF bs s) {x : aw_T} (hx : mvd s.2 x) : knd (ag_bs s) (trw s.2 x) = knd bs x := by
  cases x with
  | inl w => rfl
  | inr p =>
    obtain ⟨q, hq⟩ := hx
    obtain ⟨b, k1, k2, _⟩ := gf_bk h hq
    rw [trw_some hq]
    simp only [knd, k1, k2]
theorem gk_co (h : GF bs s) {x : aw_T} (hx : mvd s.2 x) : co (ag_bs s) (trw s.2 x) = co bs x := by
  cases x with
  | inl w => rfl
  | inr p =>
    obtain ⟨q, hq⟩ := hx
    obtain ⟨b, k1, k2, _⟩ := gf_bk h hq
    rw [trw_some hq]
    simp only [co, k1, k2]
theorem gk_aod {mv : Nat → Option Nat} {x : aw_T} (hx : aod x) : aod (trw mv x) := by
  obtain ⟨w, rfl, h⟩ := hx; exact ⟨w, rfl, h⟩
theorem gk_WR {acc : aw_T} {st : List aw_T} {pc : Nat} (h : GF bs s) (ha : mvd s.2 acc) (hw : WR C (ag_bs s) (trw s.2 acc) (st.map (trw s.2)) pc) : WR C bs acc st pc := by
  rcases hw with ⟨o, x, st', h1, h2, h3, h4, h5⟩ | ⟨h1, h2⟩ | ⟨n, h1, h2, h3, h4⟩
  · cases st with
    | nil => cases h4
    | cons y t =>
      have e1 : trw s.2 y = x := (List.cons.inj h4).1
      refine Or.inl ⟨o, y, t, h1, h2, h3, rfl, fun h9 => h5 ⟨?_, gk_aod h9.2⟩⟩
      rw [← e1]; exact gk_aod h9.1
  · refine Or.inr (Or.inl ⟨h1, fun h9 => h2 ?_⟩)
    unfold fnw at h9 ⊢
    rw [gk_knd h ha]; exact h9
  · rw [gk_co h ha] at h4
    exact Or.inr (Or.inr ⟨n, h1, h2, h3, h4⟩)
end GK
def MIA (C : List fr_C) (T : Nat → lb_T) (N : Nat) (A : am_T) : Prop := MI C T A.1 A.2.1 A.2.2.1 A.2.2.2.1 A.2.2.2.2.1 ∧ A.2.2.2.1.length ≤ 40 ∧ hsz A.1 ≤ N
/-- the state behind a collection -/
def ag_A (N : Nat) (A : am_T) : am_T := (ag_bs (ag_all A.1 N A.2.1 A.2.2.1 A.2.2.2.1), trw (ag_all A.1 N A.2.1 A.2.2.1 A.2.2.2.1).2 A.2.1, trw (ag_all A.1 N A.2.1 A.2.2.1 A.2.2.2.1).2 A.2.2.1, A.2.2.2.1.map (trw (ag_all A.1 N A.2.1 A.2.2.1 A.2.2.2.1).2), A.2.2.2.2.1, A.2.2.2.2.2 + 1)
def GS (N w : Nat) (A A1 : am_T) : Prop := (hsz A.1 + w ≤ N ∧ A1 = A) ∨ (N < hsz A.1 + w ∧ A1 = ag_A N A)
def a_WR (C : List fr_C) (A : am_T) : Prop := WR C A.1 A.2.1 A.2.2.2.1 A.2.2.2.2.1
def a_DP (C : List fr_C) (A : am_T) : Prop := DP C A.2.2.2.1 A.2.2.2.2.1
def a_PF (C : List fr_C) (N : Nat) (A A' : am_T) : Prop := PF C N A.1 A.2.1 A.2.2.1 A.2.2.2.1 A.2.2.2.2.1 A.2.2.2.2.2 A'
def a_i (C : List fr_C) (A : am_T) : fr_C := C.getD A.2.2.2.2.1 z3
def a_w (C : List fr_C) (A : am_T) : Nat := wmf (a_i C A) (knd A.1 A.2.1)
/-- r: 0 done, 1 .. 3 why not, 4 halted -/
def ST (C : List fr_C) (N : Nat) (A : am_T) (r : Nat) (A' : am_T) : Prop :=
  (r = 4 ∧ (a_i C A).1 = 0 ∧ A' = A) ∨ (r = 1 ∧ ¬ (a_i C A).1 = 0 ∧ a_WR C A ∧ A' = A) ∨ (r = 3 ∧ ¬ (a_i C A).1 = 0 ∧ ¬ a_WR C A ∧ a_DP C A ∧ A' = A)
  ∨ (¬ (a_i C A).1 = 0 ∧ ¬ a_WR C A ∧ ¬ a_DP C A ∧ ∃ A1 : am_T, GS N (a_w C A) A A1 ∧ ((r = 2 ∧ A' = A1 ∧ N < hsz A1.1 + a_w C A) ∨ (r = 0 ∧ hsz A1.1 + a_w C A ≤ N ∧ a_PF C N A1 A')))
section AS
variable {C : List fr_C} {T : Nat → lb_T} {N : Nat} {A A' : am_T}
/-- a collection keeps what it must -/
theorem mia_gc (h : MIA C T N A) : MIA C T N (ag_A N A) ∧ GF A.1 (ag_all A.1 N A.2.1 A.2.2.1 A.2.2.2.1) ∧ mvd (ag_all A.1 N A.2.1 A.2.2.1 A.2.2.2.1).2 A.2.1 ∧ hsz (ag_A N A).1 ≤ hsz A.1 := by
  obtain ⟨h1, h2, h3⟩ := h
  obtain ⟨g1, g2, g3, g4, g5⟩ := mi_gc h1 h3
  have hle : hsz (ag_A N A).1 ≤ hsz A.1 := by
    show hsz (ag_bs _) ≤ _
    unfold ag_bs
    rw [hsz_map]
    exact (GI_len g1).2
  exact ⟨⟨g5, by show (A.2.2.2.1.map _).length ≤ 40; rw [List.length_map]; exact h2, by omega⟩, g1, g2, hle⟩
theorem am_step (hC : C.length ≤ 120) (hcok : ∀ i, i < C.length → cok C T i) (h : MIA C T N A) : ∃ (r : Nat) (A' : am_T), ST C N A r A' ∧ MIA C T N A' ∧ r ≤ 4 := by
  have hck := hcok _ h.1.2.2.2.1
  by_cases h0 : (a_i C A).1 = 0
  · exact ⟨4, A, Or.inl ⟨rfl, h0, rfl⟩, h, by omega⟩
  by_cases hw : a_WR C A
  · exact ⟨1, A, Or.inr (Or.inl ⟨rfl, h0, hw, rfl⟩), h, by omega⟩
  by_cases hd : a_DP C A
  · exact ⟨3, A, Or.inr (Or.inr (Or.inl ⟨rfl, h0, hw, hd, rfl⟩)), h, by omega⟩
  by_cases hr : hsz A.1 + a_w C A ≤ N
  · obtain ⟨A', p1, p2, p3, p4⟩ := do_ok (tn := A.2.2.2.2.2) hC h.1 hck hw hd h0 h.2.1 hr
    exact ⟨0, A', Or.inr (Or.inr (Or.inr ⟨h0, hw, hd, A, Or.inl ⟨hr, rfl⟩, Or.inr ⟨rfl, hr, p1⟩⟩)), ⟨p2, p3, p4⟩, by omega⟩
  · obtain ⟨g1, g2, g3, g4⟩ := mia_gc h
    have hgs : GS N (a_w C A) A (ag_A N A) := Or.inr ⟨by omega, rfl⟩
    by_cases hr2 : hsz (ag_A N A).1 + a_w C A ≤ N
    · have hk : knd (ag_A N A).1 (ag_A N A).2.1 = knd A.1 A.2.1 := gk_knd g2 g3
      obtain ⟨A', p1, p2, p3, p4⟩ := do_ok (tn := (ag_A N A).2.2.2.2.2) hC g1.1 hck (fun h9 => hw (gk_WR g2 g3 h9)) (fun h9 => hd ⟨by have := h9.1; rw [show (ag_A N A).2.2.2.1 = A.2.2.2.1.map (trw (ag_all A.1 N A.2.1 A.2.2.1 A.2.2.2.1).2) from rfl, List.length_map] at this; exact this, h9.2⟩) h0 g1.2.1 (by rw [hk]; exact hr2)
      exact ⟨0, A', Or.inr (Or.inr (Or.inr ⟨h0, hw, hd, _, hgs, Or.inr ⟨rfl, hr2, p1⟩⟩)), ⟨p2, p3, p4⟩, by omega⟩
    · exact ⟨2, _, Or.inr (Or.inr (Or.inr ⟨h0, hw, hd, _, hgs, Or.inl ⟨rfl, rfl, by omega⟩⟩)), g1, by omega⟩
end AS
/-- up to n steps: how many were done, and how it ended (0: they are done, 4: halted, 1 .. 3: hindered) -/
def RU (C : List fr_C) (T : Nat → lb_T) (N : Nat) : Nat → am_T → Nat → Nat → am_T → Prop
  | 0, A, d, r, A' => d = 0 ∧ r = 0 ∧ A' = A
  | n + 1, A, d, r, A' => ∃ (r1 : Nat) (A1 : am_T), ST C N A r1 A1 ∧ MIA C T N A1 ∧ ((r1 = 0 ∧ ∃ d1 : Nat, d = d1 + 1 ∧ RU C T N n A1 d1 r A') ∨ (r1 = 4 ∧ d = 1 ∧ r = 4 ∧ A' = A1) ∨ (1 ≤ r1 ∧ r1 ≤ 3 ∧ d = 0 ∧ r = r1 ∧ A' = A1))
theorem am_run {C : List fr_C} {T : Nat → lb_T} {N : Nat} (hC : C.length ≤ 120) (hcok : ∀ i, i < C.length → cok C T i) : ∀ (n : Nat) (A : am_T), MIA C T N A → ∃ (d r : Nat) (A' : am_T), RU C T N n A d r A' ∧ MIA C T N A' ∧ d ≤ n ∧ r ≤ 4 := by
  intro n
  induction n with
  | zero => intro A h; exact ⟨0, 0, A, ⟨rfl, rfl, rfl⟩, h, by omega, by omega⟩
  | succ n ih =>
    intro A h
    obtain ⟨r1, A1, s1, s2, s3⟩ := am_step hC hcok h
    by_cases e0 : r1 = 0
    · obtain ⟨d, r, A', q1, q2, q3, q4⟩ := ih A1 s2
      exact ⟨d + 1, r, A', ⟨r1, A1, s1, s2, Or.inl ⟨e0, d, rfl, q1⟩⟩, q2, by omega, q4⟩
    · by_cases e4 : r1 = 4
      · exact ⟨1, 4, A1, ⟨r1, A1, s1, s2, Or.inr (Or.inl ⟨e4, rfl, rfl, rfl⟩)⟩, s2, by omega, by omega⟩
      · exact ⟨0, r1, A1, ⟨r1, A1, s1, s2, Or.inr (Or.inr ⟨by omega, by omega, rfl, rfl, rfl⟩)⟩, s2, by omega, s3⟩
/-! what holds of every state, also where there is no code -/
def GA (N : Nat) (A : am_T) : Prop := bv A.1 ∧ vv A.1 A.2.1 ∧ wv A.1 A.2.2.1 ∧ (∀ x ∈ A.2.2.2.1, wv A.1 x) ∧ A.2.2.2.1.length ≤ 40 ∧ hsz A.1 ≤ N ∧ ∀ b ∈ A.1, (b.1 < 8 ∧ 0 < b.1 % 4 ∧ b.2.length = b.1 % 4 ∧ ∀ x ∈ b.2, vv A.1 x) ∨ ((b.1 = 8 ∨ b.1 = 9) ∧ ∃ (a : Nat) (w : aw_T), b.2 = [.inl (nI (2 * a + 1)), w]) ∨ b.1 = 10
def am0 : am_T := ([], .inl 1, .inl 1, [], 0, 0)
section GAS
variable {C : List fr_C} {T : Nat → lb_T} {N : Nat} {A : am_T}
theorem mia_ga (h : MIA C T N A) : GA N A := by
  obtain ⟨h1, h2, h3⟩ := h
  obtain ⟨i1, i2, i3, i4, i5, i6, i7, i8⟩ := h1
  refine ⟨i1, i8, ev_wv i5, sv_wv _ _ (Nat.le_refl _) _ _ i6, h2, h3, fun b hb => ?_⟩
  rcases i2 b hb with h9 | ⟨h9, a, e, w, h8, _⟩ | ⟨h9, a, e, w, h8, _⟩ | ⟨h9, _⟩
  · exact Or.inl h9
  · exact Or.inr (Or.inl ⟨Or.inl h9, a, w, h8⟩)
  · exact Or.inr (Or.inl ⟨Or.inr h9, a, w, h8⟩)
  · exact Or.inr (Or.inr h9)
theorem ga_0 : GA N am0 := ⟨fun b hb => absurd hb List.not_mem_nil, Or.inl (by decide), Or.inl (by decide), fun x hx => absurd hx List.not_mem_nil, by decide, Nat.zero_le _, fun b hb => absurd hb List.not_mem_nil⟩
theorem mia_0 (h0 : T 0 = (0, 0, 0)) (hC : 0 < C.length) (h20 : ¬ (C.getD 0 z3).1 = 20) : MIA C T N am0 := by
  refine ⟨⟨fun b hb => absurd hb List.not_mem_nil, fun b hb => absurd hb List.not_mem_nil, Or.inl (by decide), hC, ?_, ?_, fun a _ ha => absurd ?_ h20, Or.inl (by decide)⟩, by decide, Nat.zero_le _⟩
  · show ev [] (T 0).2.1 (.inl 1)
    rw [h0]; exact Or.inl (by decide)
  · show sv C T [] [] (T 0).1 (T 0).2.2
    rw [h0]; exact ⟨rfl, rfl⟩
  · have ha : C.getD 0 z3 = (20, nI a, 0) := ha
    rw [ha]
theorem ga_gc (h : GA N A) : GF A.1 (ag_all A.1 N A.2.1 A.2.2.1 A.2.2.2.1) ∧ mvd (ag_all A.1 N A.2.1 A.2.2.1 A.2.2.2.1).2 A.2.1 ∧ mvd (ag_all A.1 N A.2.1 A.2.2.1 A.2.2.2.1).2 A.2.2.1 ∧ ∀ x ∈ A.2.2.2.1, mvd (ag_all A.1 N A.2.1 A.2.2.1 A.2.2.2.1).2 x := by
  obtain ⟨h1, h2, h3, h4, h5, h6, _⟩ := h
  obtain ⟨r1, r2, r3, r4⟩ := ag_root_ok (vv_wv h2) h3 h4
  obtain ⟨n, g1, g2⟩ := ag_out_ok h1 N 0 _ r1 (by omega)
  have hGF : GF A.1 (ag_all A.1 N A.2.1 A.2.2.1 A.2.2.2.1) := by
    unfold GF ag_all; rw [g2] at g1; exact g1
  have hml : mle (ag_root A.1 A.2.1 A.2.2.1 A.2.2.2.1) (ag_all A.1 N A.2.1 A.2.2.1 A.2.2.2.1) := mle_out _ _ _
  exact ⟨hGF, mvd_mle hml r2, mvd_mle hml r3, fun x hx => mvd_mle hml (r4 x hx)⟩
end GAS
