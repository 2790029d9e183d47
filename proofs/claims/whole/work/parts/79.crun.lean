/-! run of the class -/
section CV
variable {x wt rd ct m pg pa o sk a0 b0 c N : Nat} {hl rs a1 : Int32} {C : List fr_C} {T : Nat → lb_T} {A A' : am_T} {G : cj_G}
theorem cm_x {G' : cj_G} {S : List Nat} {fs : List Value} (hx : G x = some (.inr (6, fs))) (hk : CM m pg pa o sk a0 b0 c N C A hl rs G) (hf : cj_fr [m, o, a0, b0, c, sk] G G') : G' x = some (.inr (6, fs)) := by
  obtain ⟨a, b, f, g, mv, sf, pf, cp9, hab, k1, k2, k3, k4, k5, k6, k7, k8, k9⟩ := hk
  refine hf x _ ?_ hx
  rcases hab with ⟨rfl, rfl⟩ | ⟨rfl, rfl⟩
  · exact cj_ni6 (cj_noo hx k1 (by omega)) (cj_noo hx k2 (by omega)) (cj_noa hx k3) (cj_noa hx k4) (cj_noa hx k5) (cj_noa hx k6)
  · exact cj_ni6 (cj_noo hx k1 (by omega)) (cj_noo hx k2 (by omega)) (cj_noa hx k4) (cj_noa hx k3) (cj_noa hx k5) (cj_noa hx k6)
theorem cm_cond (hC : C.length ≤ 120) (hk : CM m pg pa o sk a0 b0 c N C A hl rs G) : cj_T mX2_condition 0 0 0 [.ref m] G (cj_rd G (mc_cond C.length hl rs)) cj_no := by
  obtain ⟨a, b, f, g, mv, sf, pf, cp9, hab, k1, k2, k3, k4, k5, k6, k7, k8, k9⟩ := hk
  exact t_condition k1 k7 hC
theorem cm_m {hl rs : Int32} (hk : CM m pg pa o sk a0 b0 c N C A hl rs G) : sk_V G m 2 := by
  obtain ⟨a, b, f, g, mv, sf, pf, cp9, hab, k1, _⟩ := hk
  exact ⟨_, k1⟩
/-- out of range -/
theorem t_run_i (h : a1 < 0 ∨ ¬ a1 ≤ 500) : cj_T mX6_run 8 1 6 [.ref x, .int a1] G (fun _ _ => False) (fun E G' => E = "java/lang/IllegalArgumentException" ∧ G' = G) := by
  refine tq_X6_run (by omega) ⟨fun _ => ⟨by omega, by omega, rfl, rfl⟩, fun h1 => ⟨fun h2 => ?_, fun _ => ⟨by omega, by omega, rfl, rfl⟩⟩⟩
  rcases h with h | h
  · exact absurd h h1
  · exact absurd h2 h
/-- not going -/
theorem t_run_s (h1 : ¬ a1 < 0) (h2 : a1 ≤ 500) (hx : G x = some (.inr (6, [.ref wt, .int (nI ct), .ref rd, .ref pg, .ref m]))) (hC : C.length ≤ 120) (hk : CM m pg pa o sk a0 b0 c N C A hl rs G) (hn : ¬ mc_cond C.length hl rs = 1) : cj_T mX6_run 8 1 6 [.ref x, .int a1] G (fun _ _ => False) (fun E G' => E = "java/lang/IllegalStateException" ∧ G' = G) := by
  refine tq_X6_run (by omega) ⟨fun h => absurd h h1, fun _ => ⟨fun _ => ?_, fun h => absurd h2 h⟩⟩
  refine ⟨_, m, hx, rfl, cm_m hk, sk_pure (cm_cond hC hk) (by omega) ?_⟩
  exact ⟨fun h => absurd h hn, fun _ => ⟨by omega, by omega, rfl, rfl⟩⟩
theorem t_run_g {q dn r : Nat} (hN : N ≤ 200) (hq : q ≤ 500) (hx : G x = some (.inr (6, [.ref wt, .int (nI ct), .ref rd, .ref pg, .ref m]))) (hC : C.length ≤ 120) (hcok : ∀ i, i < C.length → cok C T i) (h : MIA C T N A) (hk : CM m pg pa o sk a0 b0 c N C A 0 0 G) (hr : RU C T N q A dn r A') (hr4 : r ≤ 4) : cj_T mX6_run 8 1 6 [.ref x, .int (nI q)] G (fun v G' => (r = 0 ∨ r = 4) ∧ v = some (.int (nI dn)) ∧ CM m pg pa o sk a0 b0 c N C A' (e_hl r) (e_rs r) G' ∧ cj_fr [m, o, a0, b0, c, sk] G G') (fun E G' => (1 ≤ r ∧ r ≤ 3) ∧ E = "java/lang/UnsupportedOperationException" ∧ CM m pg pa o sk a0 b0 c N C A' (e_hl r) (e_rs r) G' ∧ cj_fr [m, o, a0, b0, c, sk] G G') := by
  have h0 : 0 < C.length := by have := h.1.2.2.2.1; omega
  refine tq_X6_run (by omega) ⟨fun h9 => absurd h9 (nI_pos (by omega)), fun _ => ⟨fun _ => ?_, fun h9 => absurd (nI_le (b := 500) hq (by omega)) h9⟩⟩
  refine ⟨_, m, hx, rfl, cm_m hk, sk_pure (cm_cond hC hk) (by omega) ?_⟩
  have e1 : mc_cond C.length 0 0 = 1 := by unfold mc_cond; rw [if_neg (by omega)]; rfl
  refine ⟨fun _ => ?_, fun h9 => absurd e1 h9⟩
  refine ⟨_, m, hx, rfl, cm_m hk, 7, 0, 0, (fun v G' => v = some (.int (nI dn)) ∧ CM m pg pa o sk a0 b0 c N C A' (e_hl r) (e_rs r) G' ∧ cj_fr [m, o, a0, b0, c, sk] G G'), cj_no, by omega, Nat.zero_le _, Nat.zero_le _, ?_, fun _ _ h9 => absurd h9 id, fun v G2 q2 => ?_⟩
  · refine tq_X2_doUpTo (by omega) ⟨q + 1, ?_⟩
    have := cl_loop (m := m) (pg := pg) (pa := pa) (o := o) (sk := sk) (a0 := a0) (b0 := b0) (c := c) (Qr := fun v G' => v = some (.int (nI dn)) ∧ CM m pg pa o sk a0 b0 c N C A' (e_hl r) (e_rs r) G' ∧ cj_fr [m, o, a0, b0, c, sk] G G') (Qx := cj_no) (d := 7) (k := 0) (n1 := 0) (by omega) hN hC hcok q 0 A G 0 0 dn r A' (by omega) hr h hk (fun G' z1 z2 => ⟨by rw [Nat.zero_add], z1, z2⟩)
    rw [Nat.zero_add] at this
    exact this
  · obtain ⟨z0, z1, z2⟩ := q2
    refine ⟨_, z0, ?_⟩
    have hx2 := cm_x (S := []) hx hk z2
    refine ⟨_, m, hx2, rfl, cm_m z1, sk_pure (cm_cond hC z1) (by omega) ?_⟩
    have hcond : mc_cond C.length (e_hl r) (e_rs r) = 3 ↔ (1 ≤ r ∧ r ≤ 3) := by
      unfold mc_cond
      rw [if_neg (by omega)]
      have hrr : r = 0 ∨ r = 1 ∨ r = 2 ∨ r = 3 ∨ r = 4 := by omega
      rcases hrr with rfl | rfl | rfl | rfl | rfl <;> decide
    refine ⟨fun h9 => ⟨?_, rfl, z1, z2⟩, fun h9 => ⟨by omega, by omega, hcond.mp h9, rfl, z1, z2⟩⟩
    have : ¬ (1 ≤ r ∧ r ≤ 3) := fun h8 => h9 (hcond.mpr h8)
    omega
end CV
