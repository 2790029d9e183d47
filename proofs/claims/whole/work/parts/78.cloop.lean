/-! THE CLASS'S RUN -/
section CU
variable {m pg pa o sk a0 b0 c N : Nat} {hl rs : Int32} {C : List fr_C} {T : Nat → lb_T} {A A' : am_T} {G G' : cj_G}
theorem cm_rs {rs' : Int32} (hk : CM m pg pa o sk a0 b0 c N C A hl rs G) : CM m pg pa o sk a0 b0 c N C A hl rs' (cj_up G m (.inr (2, [.ref pg, .ref o, .ref sk, .int (nI A.2.2.2.1.length), .int (cw 0 A.2.1), .int (cw 0 A.2.2.1), .int (nI A.2.2.2.2.1), .int hl, .int rs']))) := by
  obtain ⟨a, b, f, g, mv, sf, pf, cp9, hab, k1, k2, k3, k4, k5, k6, k7, k8, k9⟩ := hk
  refine ⟨a, b, f, g, mv, sf, pf, cp9, hab, cj_up_s, ?_, ?_, ?_, ?_, ?_, ?_, ?_, k9⟩
  · rw [cj_up_n (cj_noo k2 k1 (by omega))]; exact k2
  · rw [cj_up_n (cj_nao k3 k1)]; exact k3
  · rw [cj_up_n (cj_nao k4 k1)]; exact k4
  · rw [cj_up_n (cj_nao k5 k1)]; exact k5
  · rw [cj_up_n (cj_nao k6 k1)]; exact k6
  · rw [cj_up_n (cj_noo k7 k1 (by omega))]; exact k7
  · rw [cj_up_n (cj_nao k8 k1)]; exact k8
theorem cl_halt (hN : N ≤ 200) (hC : C.length ≤ 120) (h : MIA C T N A) (h0 : (a_i C A).1 = 0) (hk : CM m pg pa o sk a0 b0 c N C A hl rs G) : cj_T mX2_perform 6 0 0 [.ref m, .int (a_i C A).1, .int (a_i C A).2.1] G (fun v G' => v = none ∧ CM m pg pa o sk a0 b0 c N C A 1 rs G' ∧ cj_fr [m, o, a0, b0, c, sk] G G') cj_no := by
  obtain ⟨a, b, f, g, mv, sf, pf, cp9, hab, hk⟩ := hk
  have hk' := hk
  obtain ⟨k1, k2, k3, k4, k5, k6, k7, k8, k9, k10, k11, n1, n2, n3, n4, n5, n6, n7, n8, n9, n10⟩ := hk'
  rw [h0]
  refine cj_T.mono (t_perform_0 (q := 0) k1 k6 k2 k3 hN k7 k8 hC n4 n7 n10 h.2.1 h.2.2 (by omega)) (fun v9 G9 q9 => ?_) (fun _ _ h9 => h9)
  obtain ⟨r0, r1, r2, r3, r4, r5⟩ := q9
  refine ⟨r0, ⟨a, b, _, g, mv, _, pf, cp9, hab, ck_up (A' := A) hk r1 r2 r3 r4 r5 rfl rfl rfl rfl rfl rfl k9 k10⟩, fr_ab hab (r5.mono (fun q hq => ?_))⟩
  simp only [List.mem_cons, List.not_mem_nil, or_false] at hq ⊢
  rcases hq with h | h | h | h <;> simp [h]
theorem cl_do (hN : N ≤ 200) (hC : C.length ≤ 120) (h : MIA C T N A) (h' : MIA C T N A') (hp : a_PF C N A A') (hk : CM m pg pa o sk a0 b0 c N C A hl rs G) : cj_T mX2_perform 6 0 0 [.ref m, .int (a_i C A).1, .int (a_i C A).2.1] G (fun v G' => v = none ∧ CM m pg pa o sk a0 b0 c N C A' hl rs G' ∧ cj_fr [m, o, a0, b0, c, sk] G G') cj_no := by
  obtain ⟨a, b, f, g, mv, sf, pf, cp9, hab, hk⟩ := hk
  refine cj_T.mono (cl_perf hN hC h h' hp hk) (fun v9 G9 q9 => ?_) (fun _ _ h9 => h9)
  obtain ⟨r0, f', sf', r1, r5⟩ := q9
  refine ⟨r0, ⟨a, b, f', g, mv, sf', pf, cp9, hab, r1⟩, fr_ab hab (r5.mono (fun q hq => ?_))⟩
  simp only [List.mem_cons, List.not_mem_nil, or_false] at hq ⊢
  rcases hq with h | h | h | h <;> simp [h]
def e_hl (r : Nat) : Int32 := if r = 4 then 1 else 0
def e_rs (r : Nat) : Int32 := if r = 4 then 0 else nI r
set_option maxHeartbeats 4000000 in
theorem cl_loop {d k n1 : Nat} {Qr : Option Value → cj_G → Prop} {Qx : String → cj_G → Prop} (hd : 7 ≤ d) (hN : N ≤ 200) (hC : C.length ≤ 120) (hcok : ∀ i, i < C.length → cok C T i) : ∀ (n i : Nat) (A : am_T) (G : cj_G) (k n1 dn r : Nat) (A' : am_T), i + n < 1000 → RU C T N n A dn r A' → MIA C T N A → CM m pg pa o sk a0 b0 c N C A 0 0 G → (∀ G' : cj_G, CM m pg pa o sk a0 b0 c N C A' (e_hl r) (e_rs r) G' → cj_fr [m, o, a0, b0, c, sk] G G' → Qr (some (.int (nI (i + dn)))) G') → wk_X2_doUpTo_2 d m (nI (i + n)) Qr Qx (fun w39 G36 k37 n38 => Qr (some (.int w39)) G36) (n + 1) (nI i) G k n1 := by
  intro n
  induction n with
  | zero =>
    intro i A G k n1 dn r A' hi hr h hk hQ
    obtain ⟨rfl, rfl, rfl⟩ := hr
    refine ⟨fun _ => hQ G hk cj_fr.rf, fun h9 => absurd (nI_le (by omega) (by omega)) h9⟩
  | succ n ih =>
    intro i A G k n1 dn r A' hi hr h hk hQ
    obtain ⟨r1, A1, hs, hA1, hr⟩ := hr
    refine ⟨fun h9 => absurd h9 (nI_ge (by omega) (by omega)), fun _ => ?_⟩
    have hk' := hk
    obtain ⟨a, b, f, g, mv, sf, pf, cp9, hab, k1, k2, k3, k4, k5, k6, k7, k8, k9, k10, k11, kn⟩ := hk'
    have hpc : A.2.2.2.2.1 < C.length := h.1.2.2.2.1
    obtain ⟨p0, p1, p2⟩ := cd_part k11 hC hpc
    have tp0 : cj_T mX0_part 0 0 0 [.ref pg, .int (nI A.2.2.2.2.1), .int 0] G (cj_rd G (a_i C A).1) cj_no := by
      have := t_part (x := nI A.2.2.2.2.1) (y := 0) k7 k8 hC
      rw [p0] at this; exact this
    have tp1 : cj_T mX0_part 0 0 0 [.ref pg, .int (nI A.2.2.2.2.1), .int 1] G (cj_rd G (a_i C A).2.1) cj_no := by
      have := t_part (x := nI A.2.2.2.2.1) (y := 1) k7 k8 hC
      rw [p1] at this; exact this
    refine ⟨_, 0, k1, rfl, fun h9 => absurd rfl h9, fun _ => ?_⟩
    refine ⟨_, pg, k1, rfl, _, nI A.2.2.2.2.1, k1, rfl, ⟨_, k7⟩, sk_pure tp0 (by omega) ?_⟩
    refine ⟨_, pg, k1, rfl, _, nI A.2.2.2.2.1, k1, rfl, ⟨_, k7⟩, sk_pure tp1 (by omega) ?_⟩
    refine ⟨⟨_, k1⟩, 5, 0, 0, _, _, by omega, Nat.zero_le _, Nat.zero_le _, cl_hind hN hC hcok h hs hk, fun _ _ h9 => absurd h9 id, fun v G2 q => ?_⟩
    obtain ⟨q0, A2, q1, q2, q3, q4, q5, q6⟩ := q
    refine ⟨_, q0, ?_⟩
    have q5' := q5
    obtain ⟨a', b', f', g', mv', sf', pf', cp9', hab', j1, _⟩ := q5'
    have hi2 : a_i C A2 = a_i C A := by unfold a_i; rw [q4]
    refine ⟨_, j1, by show 8 < 9; omega, ?_⟩
    have hk3 := cm_rs (rs' := if r1 = 4 then 0 else nI r1) q5
    have fr3 : cj_fr [m, o, a0, b0, c, sk] G (cj_up G2 m (.inr (2, [.ref pg, .ref o, .ref sk, .int (nI A2.2.2.2.1.length), .int (cw 0 A2.2.1), .int (cw 0 A2.2.2.1), .int (nI A2.2.2.2.2.1), .int 0, .int (if r1 = 4 then 0 else nI r1)]))) := q6.up (by simp)
    refine ⟨_, if r1 = 4 then 0 else nI r1, cj_up_s, rfl, fun hz => ?_, fun hz => ?_⟩
    · refine ⟨⟨_, cj_up_s⟩, ?_⟩
      have hz' : (if r1 = 4 then (0 : Int32) else nI r1) = 0 := hz
      rcases hr with ⟨rfl, d1, rfl, hr⟩ | ⟨rfl, rfl, rfl, rfl⟩ | ⟨g1, g2, rfl, rfl, rfl⟩
      · have hT := cl_do (rs := if (0 : Nat) = 4 then 0 else nI 0) hN hC q3 hA1 (q1 rfl) hk3
        rw [hi2] at hT
        refine ⟨6, 0, 0, _, _, by omega, Nat.zero_le _, Nat.zero_le _, hT, fun _ _ h9 => absurd h9 id, fun v9 G9 q9 => ⟨q9.1, ?_⟩⟩
        have e1 : nI (i + (n + 1)) = nI (i + 1 + n) := by rw [show i + (n + 1) = i + 1 + n by omega]
        rw [e1, nI_1]
        refine ih (i + 1) A1 G9 _ _ d1 r A' (by omega) hr hA1 q9.2.1 (fun G' z1 z2 => ?_)
        rw [show i + 1 + d1 = i + (d1 + 1) by omega] at *
        exact hQ G' z1 ((fr3.trans q9.2.2).trans z2)
      · have h0 : (a_i C A).1 = 0 := by
          rcases hs with ⟨_, s0, _⟩ | ⟨e, _⟩ | ⟨e, _⟩ | ⟨_, _, _, _, _, ⟨e, _⟩ | ⟨e, _⟩⟩
          · exact s0
          · omega
          · omega
          · omega
          · omega
        have hT := cl_halt (rs := if (4 : Nat) = 4 then 0 else nI 4) hN hC q3 (by rw [hi2]; exact h0) hk3
        rw [hi2] at hT
        refine ⟨6, 0, 0, _, _, by omega, Nat.zero_le _, Nat.zero_le _, hT, fun _ _ h9 => absurd h9 id, fun v9 G9 q9 => ⟨q9.1, ?_⟩⟩
        have hfin : Qr (some (.int (nI i + 1))) G9 := by
          rw [nI_1]
          refine hQ G9 ?_ (fr3.trans q9.2.2)
          have := q9.2.1
          rw [q2 (by omega)] at this; exact this
        cases n with
        | zero => exact ⟨fun _ => hfin, fun h9 => absurd (by rw [nI_1]; exact nI_le (by omega) (by omega)) h9⟩
        | succ n =>
          refine ⟨fun _ => hfin, fun _ => ?_⟩
          obtain ⟨a9, b9, f9, g9, mv9, sf9, pf9, cp99, hab9, l1, _⟩ := q9.2.1
          exact ⟨_, 1, l1, rfl, fun _ => hfin, fun h9 => absurd h9 (by decide)⟩
      · rw [if_neg (by omega)] at hz'
        exact absurd hz' (nI_ne0 (by omega) (by omega))
    · rcases hr with ⟨rfl, d1, rfl, hr⟩ | ⟨rfl, rfl, rfl, rfl⟩ | ⟨g1, g2, rfl, rfl, rfl⟩
      · exact absurd rfl hz
      · exact absurd rfl hz
      · refine hQ _ ?_ fr3
        have e1 : e_hl r = 0 := by unfold e_hl; rw [if_neg (by omega)]
        rw [e1, ← q2 (by omega)]; exact hk3
end CU
