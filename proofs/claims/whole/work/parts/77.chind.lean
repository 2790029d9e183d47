/-! THE CLASS RUNS -/
def CM (m pg pa o sk a0 b0 c N : Nat) (C : List fr_C) (A : am_T) (hl rs : Int32) (G : cj_G) : Prop := ∃ (a b : Nat) (f g mv sf pf : Nat → Int32) (cp9 : Int32), ((a = a0 ∧ b = b0) ∨ (a = b0 ∧ b = a0)) ∧ CK m pg pa o sk a b c N f g mv sf pf cp9 C A hl rs G
theorem fr_ab {m sk o a b c a0 b0 : Nat} {G G' : cj_G} (hab : (a = a0 ∧ b = b0) ∨ (a = b0 ∧ b = a0)) (h : cj_fr [m, o, a, b, c, sk] G G') : cj_fr [m, o, a0, b0, c, sk] G G' := by
  refine h.mono (fun q hq => ?_)
  simp only [List.mem_cons, List.not_mem_nil, or_false] at hq ⊢
  rcases hab with ⟨rfl, rfl⟩ | ⟨rfl, rfl⟩
  · exact hq
  · rcases hq with h | h | h | h | h | h <;> simp [h]
section CR
variable {m pg pa o sk a0 b0 c N : Nat} {hl rs : Int32} {C : List fr_C} {T : Nat → lb_T} {A A' : am_T} {G G' : cj_G}
theorem dp_iff (h2 : A.2.2.2.1.length ≤ 40) : 40 < nI A.2.2.2.1.length + ch_b ((a_i C A).1 = 3 ∨ (a_i C A).1 = 13) ↔ a_DP C A := by
  unfold a_DP DP
  by_cases h : (a_i C A).1 = 3 ∨ (a_i C A).1 = 13
  · rw [ch_b1.mpr h, nI_1]
    constructor
    · intro h9
      have := (nI_ltI (a := 40) (by omega) (by omega)).mp h9
      exact ⟨by omega, h⟩
    · rintro ⟨h9, _⟩
      exact nI_lt (a := 40) (by omega) (by omega)
  · rw [ch_bz h]
    constructor
    · intro h9
      have h9 : nI 40 < nI A.2.2.2.1.length + nI 0 := h9
      rw [nI_add] at h9
      have := (nI_ltI (a := 40) (by omega) (by omega)).mp h9
      omega
    · rintro ⟨_, h9⟩; exact absurd h9 h
set_option maxHeartbeats 4000000 in
theorem cl_hind {r : Nat} (hN : N ≤ 200) (hC : C.length ≤ 120) (hcok : ∀ i, i < C.length → cok C T i) (h : MIA C T N A) (hs : ST C N A r A') (hk : CM m pg pa o sk a0 b0 c N C A hl rs G) : cj_T mX2_hindrance 5 0 0 [.ref m, .int (a_i C A).1, .int (a_i C A).2.1] G (fun v G' => v = some (.int (if r = 4 then 0 else nI r)) ∧ ∃ A1 : am_T, (r = 0 → a_PF C N A1 A') ∧ (¬ r = 0 → A1 = A') ∧ MIA C T N A1 ∧ A1.2.2.2.2.1 = A.2.2.2.2.1 ∧ CM m pg pa o sk a0 b0 c N C A1 hl rs G' ∧ cj_fr [m, o, a0, b0, c, sk] G G') cj_no := by
  obtain ⟨a, b, f, g, mv, sf, pf, cp9, hab, hk⟩ := hk
  have hck := hcok _ h.1.2.2.2.1
  obtain ⟨⟨wr, w1, w2⟩, w3, w4⟩ := cl_wrong hN hC h hck hk
  have hk' := hk
  obtain ⟨k1, k2, k3, k4, k5, k6, k7, k8, k9, k10, k11, n1, n2, n3, n4, n5, n6, n7, n8, n9, n10⟩ := hk'
  have h2 := h.2.1
  have h3 := h.2.2
  have stay : ∀ (v : Option Value) (G9 : cj_G) (x : Int32), cj_rd G x v G9 → v = some (.int x) ∧ CM m pg pa o sk a0 b0 c N C A hl rs G9 ∧ cj_fr [m, o, a0, b0, c, sk] G G9 := fun v G9 x q => ⟨q.1, by rw [q.2]; exact ⟨a, b, f, g, mv, sf, pf, cp9, hab, hk⟩, by rw [q.2]; exact cj_fr.rf⟩
  have hlt := GI_len (mia_gc h).2.1
  rcases hs with ⟨rfl, s0, rfl⟩ | ⟨rfl, s0, s1, rfl⟩ | ⟨rfl, s0, s1, s2, rfl⟩ | ⟨s0, s1, s2, A1, hgs, hs⟩
  · have hnw : ¬ a_WR C A' := no_WR (k := 0) (by omega) s0 (by omega) (by omega) (by omega)
    have hnd : ¬ a_DP C A' := by
      rintro ⟨_, h9 | h9⟩
      · exact absurd (s0.symm.trans h9) (by decide)
      · exact absurd (s0.symm.trans h9) (by decide)
    have hw0 : a_w C A' = 0 := by unfold a_w wmf; rw [s0]; rfl
    refine cj_T.mono (t_hind_0 k1 k3 k6 k2 k4 k5 n1 n2 n3 n4 n5 n6 hN h3 h2 w1 (w2.mpr hnw) (fun h9 => hnd ((dp_iff h2).mp h9)) w3 w4 (by rw [hw0]; omega)) (fun v G9 q => ?_) (fun _ _ h9 => h9)
    obtain ⟨q1, q2, q3⟩ := stay v G9 0 q
    exact ⟨q1, A', fun h9 => absurd h9 (by omega), fun _ => rfl, h, rfl, q2, q3⟩
  · refine cj_T.mono (t_hind_1 (wm := 0) k1 k3 k6 k2 k4 k5 n1 n2 n3 n4 n5 n6 hN h3 h2 w1 (fun h9 => (w2.mp h9) s1)) (fun v G9 q => ?_) (fun _ _ h9 => h9)
    obtain ⟨q1, q2, q3⟩ := stay v G9 1 q
    exact ⟨q1, A', fun h9 => absurd h9 (by omega), fun _ => rfl, h, rfl, q2, q3⟩
  · refine cj_T.mono (t_hind_3 (wm := 0) k1 k3 k6 k2 k4 k5 n1 n2 n3 n4 n5 n6 hN h3 h2 w1 (w2.mpr s1) ((dp_iff h2).mpr s2)) (fun v G9 q => ?_) (fun _ _ h9 => h9)
    obtain ⟨q1, q2, q3⟩ := stay v G9 3 q
    exact ⟨q1, A', fun h9 => absurd h9 (by omega), fun _ => rfl, h, rfl, q2, q3⟩
  · rcases hgs with ⟨g1, rfl⟩ | ⟨g1, rfl⟩
    · rcases hs with ⟨_, _, hs3⟩ | ⟨rfl, hs2, hs3⟩
      · omega
      · refine cj_T.mono (t_hind_0 k1 k3 k6 k2 k4 k5 n1 n2 n3 n4 n5 n6 hN h3 h2 w1 (w2.mpr s1) (fun h9 => s2 ((dp_iff h2).mp h9)) w3 w4 (by omega)) (fun v G9 q => ?_) (fun _ _ h9 => h9)
        obtain ⟨q1, q2, q3⟩ := stay v G9 0 q
        exact ⟨q1, A1, fun _ => hs3, fun h9 => absurd rfl h9, h, rfl, q2, q3⟩
    · obtain ⟨c1, c2, c3, c4⟩ := cg_col (g := g) h k9 hN k10
      obtain ⟨m1, m2, m3, m4⟩ := mia_gc h
      have ecp := c4.2.1
      have hlen : (ag_A N A).2.2.2.1.length = A.2.2.2.1.length := List.length_map _
      have build : ∀ G9 : cj_G, G9 m = some (.inr (2, [.ref pg, .ref o, .ref sk, .int (nI A.2.2.2.1.length), .int (gc_col N f (hsz A.1) (cw 0 A.2.1) (cw 0 A.2.2.1) sf A.2.2.2.1.length g).1, .int (gc_col N f (hsz A.1) (cw 0 A.2.1) (cw 0 A.2.2.1) sf A.2.2.2.1.length g).2.1, .int (nI A.2.2.2.2.1), .int hl, .int rs])) → G9 o = some (.inr (1, [.ref b, .ref a, .ref c, .int (nI (gc_col N f (hsz A.1) (cw 0 A.2.1) (cw 0 A.2.2.1) sf A.2.2.2.1.length g).2.2.2.2.2), .int (nI (gc_col N f (hsz A.1) (cw 0 A.2.1) (cw 0 A.2.2.1) sf A.2.2.2.1.length g).2.2.2.2.2), .int (A.2.2.2.2.2 + 1)])) → G9 b = some (.inl (0, N, .inl (gc_col N f (hsz A.1) (cw 0 A.2.1) (cw 0 A.2.2.1) sf A.2.2.2.1.length g).2.2.2.1)) → G9 c = some (.inl (0, N, .inl (gc_col N f (hsz A.1) (cw 0 A.2.1) (cw 0 A.2.2.1) sf A.2.2.2.1.length g).2.2.2.2.1)) → G9 sk = some (.inl (0, 40, .inl (gc_col N f (hsz A.1) (cw 0 A.2.1) (cw 0 A.2.2.1) sf A.2.2.2.1.length g).2.2.1)) → cj_fr [m, o, b, c, sk] G G9 → CM m pg pa o sk a0 b0 c N C (ag_A N A) hl rs G9 ∧ cj_fr [m, o, a0, b0, c, sk] G G9 := fun G9 p1 p2 p3 p4 p5 p6 => by
        refine ⟨⟨b, a, (gc_col N f (hsz A.1) (cw 0 A.2.1) (cw 0 A.2.2.1) sf A.2.2.2.1.length g).2.2.2.1, f, (gc_col N f (hsz A.1) (cw 0 A.2.1) (cw 0 A.2.2.1) sf A.2.2.2.1.length g).2.2.2.2.1, (gc_col N f (hsz A.1) (cw 0 A.2.1) (cw 0 A.2.2.1) sf A.2.2.2.1.length g).2.2.1, pf, nI (gc_col N f (hsz A.1) (cw 0 A.2.1) (cw 0 A.2.2.1) sf A.2.2.2.1.length g).2.2.2.2.2, ?_, ?_⟩, ?_⟩
        · rcases hab with ⟨x1, x2⟩ | ⟨x1, x2⟩
          · exact Or.inr ⟨x2, x1⟩
          · exact Or.inl ⟨x2, x1⟩
        · refine ⟨?_, ?_, p3, p6 a _ (cj_ni5 (cj_nao k3 k1) (cj_nao k3 k2) n1 n2 n4.symm) k3, p4, p5, p6 pg _ (cj_ni5 (cj_noo k7 k1 (by omega)) (cj_noo k7 k2 (by omega)) (cj_noa k7 k4) (cj_noa k7 k5) (cj_noa k7 k6)) k7, p6 pa _ (cj_ni5 (cj_nao k8 k1) (cj_nao k8 k2) n8 n9 n10) k8, ?_, c3, k11, n1.symm, n3, n2, n5, n4, n6, n8, n7, n9, n10⟩
          · rw [p1, c1, c2, hlen]; rfl
          · rw [p2, ecp]; rfl
          · rw [← ecp]; exact c4
        · exact fr_ab hab (p6.mono (fun q hq => by
            simp only [List.mem_cons, List.not_mem_nil, or_false] at hq ⊢
            rcases hq with h | h | h | h | h <;> simp [h]))
      have hct : (gc_col N f (hsz A.1) (cw 0 A.2.1) (cw 0 A.2.2.1) sf A.2.2.2.1.length g).2.2.2.2.2 ≤ N := by rw [ecp]; exact m1.2.2
      rcases hs with ⟨rfl, rfl, hs3⟩ | ⟨rfl, hs2, hs3⟩
      · refine cj_T.mono (t_hind_gc2 k1 k3 k6 k2 k4 k5 n1 n2 n3 n4 n5 n6 hN h3 h2 w1 (w2.mpr s1) (fun h9 => s2 ((dp_iff h2).mp h9)) w3 w4 (by omega) hct (by rw [ecp]; omega)) (fun v G9 q => ?_) (fun _ _ h9 => h9)
        obtain ⟨q0, q1, q2, q3, q4, q5, q6⟩ := q
        obtain ⟨b1, b2⟩ := build G9 q1 q2 q3 q4 q5 q6
        exact ⟨q0, _, fun h9 => absurd h9 (by omega), fun _ => rfl, m1, rfl, b1, b2⟩
      · refine cj_T.mono (t_hind_gc0 k1 k3 k6 k2 k4 k5 n1 n2 n3 n4 n5 n6 hN h3 h2 w1 (w2.mpr s1) (fun h9 => s2 ((dp_iff h2).mp h9)) w3 w4 (by omega) hct (by rw [ecp]; omega)) (fun v G9 q => ?_) (fun _ _ h9 => h9)
        obtain ⟨q0, q1, q2, q3, q4, q5, q6⟩ := q
        obtain ⟨b1, b2⟩ := build G9 q1 q2 q3 q4 q5 q6
        exact ⟨q0, _, fun _ => hs3, fun h9 => absurd rfl h9, m1, rfl, b1, b2⟩
end CR
