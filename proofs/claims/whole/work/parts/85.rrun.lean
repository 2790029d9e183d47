/-! THE REFERENCE'S RUN -/
theorem aw_lt {C : List fr_C} {T : Nat → lb_T} {pc kn : Nat} (hck : cok C T pc) : wmf (C.getD pc z3) kn < 1000 := by
  unfold wmf
  split
  · omega
  · split
    · split <;> omega
    · split
      · omega
      · split
        · rename_i h20
          rcases hck with ⟨c0, _⟩ | ⟨v, cv, c0, c1, cn⟩ | ⟨a, ca, ca9, c0, c1, cn⟩ | ⟨c0, cn⟩ | ⟨o, o4, o8, c0, k, ck, cn⟩ | ⟨a, c0, c1, ca, cn⟩ | ⟨a, c0, c1, ca, cn⟩ | ⟨a, c0, c1, cn⟩ | ⟨c0, cf, ck⟩ | ⟨c0, k, ck, cn⟩ | ⟨c0, cn⟩ | ⟨a, e, ce, ca, c0, c1, cn⟩ | ⟨t, ct, ct4, c0, c1, cn⟩ | ⟨t, k, ct, ct4, ck, c0, c1, cn⟩ | ⟨n, cn8, c0, c1, cs⟩ | ⟨c0, c2⟩ | ⟨a, ca0, ca, c0, c1, c2, cn⟩
          case inr.inr.inr.inr.inl =>
            rw [c0] at h20
            have : o = 20 := (nI_eq (b := 20) (by omega) (by omega)).mp h20
            omega
          case inr.inr.inr.inr.inr.inr.inr.inr.inr.inr.inr.inr.inr.inr.inr.inr =>
            rw [c1, nI_clamp (by omega)]; omega
          all_goals (rw [c0] at h20; exact absurd h20 (by decide))
        · omega
theorem aw_0 {C : List fr_C} {pc kn : Nat} (h : (C.getD pc z3).1 = 0) : wmf (C.getD pc z3) kn = 0 := by unfold wmf; rw [h]; rfl
section RF
variable {N : Nat} {C : List fr_C} {T : Nat → lb_T} {A A' : am_T} {s0 r : Nat} {S S' : rm_S} {Q : Int32 → rm_S → Prop}
def e_54 (r : Nat) (x : Int32) : Int32 := if r = 4 then 2 else if r = 0 then x else 3
def e_55 (r : Nat) (x : Int32) : Int32 := if 1 ≤ r ∧ r ≤ 3 then nI r else x
theorem gs_u {w : Nat} {A1 A2 : am_T} (h1 : GS N w A A1) (h2 : GS N w A A2) : A1 = A2 := by
  rcases h1 with ⟨a1, a2⟩ | ⟨a1, a2⟩ <;> rcases h2 with ⟨b1, b2⟩ | ⟨b1, b2⟩
  · rw [a2, b2]
  · omega
  · omega
  · rw [a2, b2]
theorem r_one (hN : N ≤ 200) (hN0 : 0 < N) (hC : C.length ≤ 120) (hcok : ∀ i, i < C.length → cok C T i) (h : MIA C T N A) (hk : RK N C A s0 S) (hs : ST C N A r A') (h' : MIA C T N A') (hQ : ∀ (s1 : Nat) (S' : rm_S), RK N C A' s1 S' → rg S S' → S'.1 54 = e_54 r (S.1 54) → S'.1 55 = e_55 r (S.1 55) → Q (if r = 4 then 0 else nI r) S') : wp_one S Q := by
  have hpc : A.2.2.2.2.1 < C.length := h.1.2.2.2.1
  have hck := hcok _ hpc
  have hk' := hk
  obtain ⟨k1, k2, k3, k4, k5, k6, k7, k8, k9, k10, k11, k12⟩ := hk'
  have e3 : 3 * S.1 53 = nI (3 * A.2.2.2.2.1) := by rw [k10, nI_m3]
  have hop : S.2 38 (3 * S.1 53).toNatClampNeg = (a_i C A).1 := by
    rw [e3, nI_clamp (by omega), (k12 _ hpc (by omega)).1]; rfl
  rw [wp_one_eq, hop]
  refine ⟨by rw [e3]; exact nI_vp (by omega) (by omega), ?_⟩
  have hstop : ∀ (S1 : rm_S) (r1 : Nat), 1 ≤ r1 → r1 ≤ 3 → r = r1 → ∀ s1, RK N C A' s1 S1 → rg S S1 → wp_stop S1 (nI r1) Q := fun S1 r1 r1a r1b e s1 g1 g2 => by
    subst e
    have := hQ s1 (rm_pf (rm_pf S1 54 3) 55 (nI r)) g1 (rg_f (rg_f g2 (by omega)) (by omega)) (by unfold e_54; rw [if_neg (by omega), if_neg (by omega)]; rfl) (by unfold e_55; rw [if_pos ⟨r1a, r1b⟩]; rfl)
    rw [if_neg (by omega)] at this; exact this
  refine r_wrong hC h hck hk (fun hw => ⟨fun h9 => absurd h9 (by decide), fun _ => ?_⟩) (fun hw hd => ⟨fun h9 => absurd h9 (by decide), fun _ => ?_⟩) (fun hw hd => ⟨fun _ => r_room hC h hck hk hw ⟨fun hx => ?_, fun hx => ?_⟩, fun h9 => absurd rfl h9⟩)
  · rcases hs with ⟨rfl, s1, s2⟩ | ⟨rfl, s1, s2, rfl⟩ | ⟨rfl, s1, s2, _⟩ | ⟨s1, s2, _⟩
    · exact absurd hw (no_WR (k := 0) (by omega) s1 (by omega) (by omega) (by omega))
    · exact hstop S 1 (by omega) (by omega) rfl s0 hk rg.rf
    · exact absurd hw s2
    · exact absurd hw s2
  · rcases hs with ⟨rfl, s1, s2⟩ | ⟨rfl, s1, s2, rfl⟩ | ⟨rfl, s1, s2, s3, rfl⟩ | ⟨s1, s2, s3, _⟩
    · rcases hd.2 with h9 | h9
      · have s1 : (C.getD A.2.2.2.2.1 z3).1 = 0 := s1
        rw [s1] at h9; exact absurd h9 (by decide)
      · have s1 : (C.getD A.2.2.2.2.1 z3).1 = 0 := s1
        rw [s1] at h9; exact absurd h9 (by decide)
    · exact absurd s2 hw
    · exact hstop S 3 (by omega) (by omega) rfl s0 hk rg.rf
    · exact absurd hd s3
  · have hlt : a_w C A < 1000 := aw_lt hck
    have hw0 : a_w C A = 0 := Classical.byContradiction (fun h9 => absurd hx (nI_ge (a := 0) (by omega) (by omega)))
    rcases hs with ⟨rfl, s1, rfl⟩ | ⟨rfl, s1, s2, rfl⟩ | ⟨rfl, s1, s2, s3, rfl⟩ | ⟨s1, s2, s3, A1, s4, s5⟩
    · rw [s1]
      refine ⟨fun h9 => absurd rfl h9, fun _ => ?_⟩
      exact hQ s0 (rm_pf S 54 2) hk (rg_f rg.rf (by omega)) rfl rfl
    · exact absurd s2 hw
    · exact absurd s3 hd
    · have eA : A1 = A := by
        rcases s4 with ⟨_, e⟩ | ⟨e, _⟩
        · exact e
        · have := h.2.2; omega
      subst eA
      rcases s5 with ⟨_, _, s6⟩ | ⟨rfl, s6, s7⟩
      · have := h.2.2; omega
      · exact r_disp hN hC h h' hk s7 (fun S' g1 g2 g3 g4 => hQ s0 S' g1 g2 g3 g4)
  · have hlt : a_w C A < 1000 := aw_lt hck
    rcases hs with ⟨rfl, s1, rfl⟩ | ⟨rfl, s1, s2, rfl⟩ | ⟨rfl, s1, s2, s3, rfl⟩ | ⟨s1, s2, s3, A1, s4, s5⟩
    · exact absurd (by rw [show a_w C A' = 0 from aw_0 s1]; decide) hx
    · exact absurd s2 hw
    · exact absurd s3 hd
    · refine r_has hN hN0 hlt h hk (fun A2 s9 S2 g1 g2 g3 g4 g5 => ?_)
      have eA := gs_u g1 s4
      subst eA
      have hm1 : MIA C T N A2 := by
        rcases s4 with ⟨_, rfl⟩ | ⟨_, rfl⟩
        · exact h
        · exact (mia_gc h).1
      have hi : a_i C A2 = a_i C A := by
        rcases s4 with ⟨_, rfl⟩ | ⟨_, rfl⟩
        · rfl
        · rfl
      rcases s5 with ⟨rfl, rfl, s6⟩ | ⟨rfl, s6, s7⟩
      · rw [if_neg (by omega)]
        exact ⟨fun h9 => absurd rfl h9, fun _ => hstop S2 2 (by omega) (by omega) rfl s9 g2 g3⟩
      · rw [if_pos s6]
        refine ⟨fun _ => ?_, fun h9 => absurd h9 (by decide)⟩
        rw [← hi]
        exact r_disp hN hC hm1 h' g2 s7 (fun S' f1 f2 f3 f4 => hQ s9 S' f1 (rg.trans g3 f2) (f3.trans g4) (f4.trans g5))
/-- up to n steps -/
theorem r_loop {q : Nat} {K : Int32 → rm_S → Prop} (hN : N ≤ 200) (hN0 : 0 < N) (hC : C.length ≤ 120) (hcok : ∀ i, i < C.length → cok C T i) (hq : q ≤ 500) : ∀ (m c d r s0 : Nat) (A A' : am_T) (S : rm_S), c + m = q → RU C T N m A d r A' → MIA C T N A → RK N C A s0 S → S.1 54 = 1 → (∀ (s1 : Nat) (S' : rm_S), RK N C A' s1 S' → rg S S' → S'.1 54 = e_54 r 1 → S'.1 55 = e_55 r (S.1 55) → ((r = 0 ∨ r = 4) → K (nI (c + d)) S') ∧ ((1 ≤ r ∧ r ≤ 3) → Q 0 (rm_pf S' 0 3))) → wl_run_38 (nI q) Q K (m + 1) (nI c) S := by
  intro m
  induction m with
  | zero =>
    intro c d r s0 A A' S hc hr h hk h54 hQ
    obtain ⟨rfl, rfl, rfl⟩ := hr
    have e : c = q := by omega
    subst e
    exact ⟨fun _ => (hQ s0 S hk rg.rf h54 rfl).1 (Or.inl rfl), fun h9 => absurd (nI_le (Nat.le_refl _) (by omega)) h9⟩
  | succ m ih =>
    intro c d r s0 A A' S hc hr h hk h54 hQ
    obtain ⟨r1, A1, z1, z2, z3⟩ := hr
    refine ⟨fun h9 => absurd h9 (nI_ge (by omega) (by omega)), fun _ => ⟨fun h9 => absurd h54 h9, fun _ => ?_⟩⟩
    refine r_one hN hN0 hC hcok h hk z1 z2 (fun s1 S' g1 g2 g3 g4 => ?_)
    rw [h54] at g3
    rcases z3 with ⟨rfl, d1, rfl, z4⟩ | ⟨rfl, rfl, rfl, rfl⟩ | ⟨z5, z6, rfl, rfl, rfl⟩
    · refine ⟨fun _ => ?_, fun h9 => absurd (by rfl) h9⟩
      rw [nI_1]
      refine ih (c + 1) d1 r s1 A1 A' S' (by omega) z4 z2 g1 g3 (fun s2 S2 f1 f2 f3 f4 => ?_)
      have := hQ s2 S2 f1 (rg.trans g2 f2) f3 (by rw [f4, g4]; rfl)
      rw [show c + (d1 + 1) = c + 1 + d1 by omega] at this
      exact this
    · refine ⟨fun _ => ?_, fun h9 => absurd (by rfl) h9⟩
      have := (hQ s1 S' g1 g2 g3 g4).1 (Or.inr rfl)
      rw [nI_1]
      have g3 : S'.1 54 = 2 := g3
      cases m with
      | zero => exact ⟨fun _ => this, fun _ => ⟨fun _ => this, fun h9 => absurd (g3.symm.trans h9) (by decide)⟩⟩
      | succ m => exact ⟨fun _ => this, fun _ => ⟨fun _ => this, fun h9 => absurd (g3.symm.trans h9) (by decide)⟩⟩
    · rw [if_neg (by omega)]
      refine ⟨fun h9 => ?_, fun _ => (hQ s1 S' g1 g2 g3 g4).2 ⟨z5, z6⟩⟩
      have := (nI_eq (b := 0) (by omega) (by omega)).mp h9
      omega
theorem r_run {q d : Nat} (hN : N ≤ 200) (hN0 : 0 < N) (hC : C.length ≤ 120) (hcok : ∀ i, i < C.length → cok C T i) (hq : q ≤ 500) (h : MIA C T N A) (hk : RK N C A s0 S) (h54 : S.1 54 = 1) (hr : RU C T N q A d r A') (hr4 : r ≤ 4) (hQ : ∀ (s1 : Nat) (S' : rm_S), RK N C A' s1 S' → rg (rm_pf S 0 0) S' → S'.1 54 = e_54 r 1 → S'.1 55 = e_55 r (S.1 55) → ((r = 0 ∨ r = 4) → Q (nI d) S') ∧ ((1 ≤ r ∧ r ≤ 3) → Q 0 (rm_pf S' 0 3))) : wp_run S (nI q) Q := by
  refine ⟨fun h9 => absurd h9 (nI_pos (by omega)), fun _ => ⟨fun _ => ⟨fun _ => ⟨q + 1, ?_⟩, fun h9 => absurd h54 h9⟩, fun h9 => absurd (nI_le (b := 500) hq (by omega)) h9⟩⟩
  refine r_loop hN hN0 hC hcok hq q 0 d r s0 A A' (rm_pf S 0 0) (by omega) hr h hk h54 (fun s1 S' g1 g2 g3 g4 => ?_)
  have := hQ s1 S' g1 g2 g3 g4
  rw [Nat.zero_add]; exact this
theorem r_run_i {a1 : Int32} (h : a1 < 0 ∨ ¬ a1 ≤ 500) (hQ : Q 0 (rm_pf (rm_pf S 0 0) 0 1)) : wp_run S a1 Q := by
  refine ⟨fun _ => hQ, fun h1 => ⟨fun h2 => ?_, fun _ => hQ⟩⟩
  rcases h with h | h
  · exact absurd h h1
  · exact absurd h2 h
theorem r_run_s {a1 : Int32} (h1 : ¬ a1 < 0) (h2 : a1 ≤ 500) (h54 : ¬ S.1 54 = 1) (hQ : Q 0 (rm_pf (rm_pf S 0 0) 0 2)) : wp_run S a1 Q := ⟨fun h9 => absurd h9 h1, fun _ => ⟨fun _ => ⟨fun h9 => absurd h9 h54, fun _ => hQ⟩, fun h9 => absurd h2 h9⟩⟩
end RF
