/-! THE LAW'S STATE. I: addresses: 0 the class's object, 1 text, 2 reader, 3 its row, 4 its names, 5 code, 6 parts, 7 machine, 8 heap, 9 stack, 10 11 halves, 12 moved, 13 the reference, 14 the long -/
def ID (I : Nat → Nat) (ad : Nat → Nat) : Prop := (∀ i j, i < 15 → j < 15 → I i = I j → i = j) ∧ (∀ i, i < 15 → ∀ j ∈ rm_js, ad j ≠ I i) ∧ rm_A (I 13) ad
theorem ID.ne {I ad : Nat → Nat} (h : ID I ad) {i j : Nat} (hi : i < 15) (hj : j < 15) (hij : i ≠ j) : I i ≠ I j := fun e => hij (h.1 i j hi hj e)
/-- what both know: number of characters, characters, code, machine, halted, reason, place -/
abbrev ls_T : Type := Nat × (Nat → Nat) × List fr_C × am_T × Int32 × Int32 × Int32
def CX (I : Nat → Nat) (N : Nat) (s : ls_T) (G : cj_G) : Prop :=
  G (I 0) = some (.inr (6, [.ref (I 1), .int (nI s.1), .ref (I 2), .ref (I 5), .ref (I 7)])) ∧ G (I 1) = some (.inl (1, 90, .inl (fun j => nI (s.2.1 j)))) ∧ (∃ rl ra rb9 : Int32, G (I 2) = some (.inr (3, [.ref (I 3), .int rl, .int ra, .ref (I 4), .int rb9, .int s.2.2.2.2.2.2]))) ∧ (∃ g : Nat → Nat, G (I 3) = some (.inl (1, 90, .inl (fun j => nI (g j)))) ∧ ∀ j, g j < 65536) ∧ (∃ g : Nat → Nat, G (I 4) = some (.inl (1, 90, .inl (fun j => nI (g j)))) ∧ ∀ j, g j < 65536) ∧ CM (I 7) (I 5) (I 6) (I 8) (I 9) (I 10) (I 11) (I 12) N s.2.2.1 s.2.2.2.1 s.2.2.2.2.1 s.2.2.2.2.2.1 G
def AX (N : Nat) (s : ls_T) : Prop := s.1 ≤ 90 ∧ (∀ j, s.2.1 j < 65536) ∧ s.2.2.1.length ≤ 120 ∧ ((s.2.2.1 = [] ∧ s.2.2.2.1 = am0) ∨ ∃ T : Nat → lb_T, MIA s.2.2.1 T N s.2.2.2.1 ∧ ∀ i, i < s.2.2.1.length → cok s.2.2.1 T i)
def RX (N : Nat) (s : ls_T) (S : rm_S) : Prop := S.1 1 = nI s.1 ∧ (∀ j, j < s.1 → S.2 2 j = nI (s.2.1 j)) ∧ S.1 7 = s.2.2.2.2.2.2 ∧ S.1 37 = nI s.2.2.1.length ∧ (∃ s0 : Nat, RK N s.2.2.1 s.2.2.2.1 s0 S) ∧ S.1 54 = mc_cond s.2.2.1.length s.2.2.2.2.1 s.2.2.2.2.2.1 ∧ S.1 55 = s.2.2.2.2.2.1
def LWP (I ad : Nat → Nat) (N : Nat) (s : ls_T) (S : rm_S) (G : cj_G) : Prop := CX I N s G ∧ RMD (I 13) ad S G ∧ ∃ f : Nat → Int64, G (I 14) = some (.inl (3, 1, .inr (.inl f)))
theorem ax_ga {N : Nat} {s : ls_T} (h : AX N s) : GA N s.2.2.2.1 := by
  rcases h.2.2.2 with ⟨_, h9⟩ | ⟨T, h9, _⟩
  · rw [h9]; exact ga_0
  · exact mia_ga h9
section LPS
variable {I ad : Nat → Nat} {N : Nat} {s s' : ls_T} {S S' : rm_S} {G G' : cj_G}
/-- the class has done something: the reference and the long are where they were -/
theorem lp_cls {F : List Nat} (hI : ID I ad) (hF : ∀ z ∈ F, ∃ i, i < 13 ∧ z = I i) (hf : cj_fr F G G') (h : LWP I ad N s S G) (hc : CX I N s' G') : LWP I ad N s' S G' := by
  obtain ⟨_, ⟨h1, h2⟩, f, h3⟩ := h
  refine ⟨hc, ⟨hf _ _ (fun h9 => ?_) h1, fun j hj t n ht => hf _ _ (fun h9 => ?_) (h2 j hj t n ht)⟩, f, hf _ _ (fun h9 => ?_) h3⟩
  · obtain ⟨i, i1, i2⟩ := hF _ h9
    exact hI.ne (by omega) (by omega) (by omega) i2
  · obtain ⟨i, i1, i2⟩ := hF _ h9
    exact hI.2.1 i (by omega) j hj i2
  · obtain ⟨i, i1, i2⟩ := hF _ h9
    exact hI.ne (by omega) (by omega) (by omega) i2
theorem cm_fr {m pg pa o sk a0 b0 c : Nat} {C : List fr_C} {A : am_T} {hl rs : Int32} (h : CM m pg pa o sk a0 b0 c N C A hl rs G) (he : ∀ (z : Nat) (v : cj_E), z ∈ [m, pg, pa, o, sk, a0, b0, c] → G z = some v → G' z = some v) : CM m pg pa o sk a0 b0 c N C A hl rs G' := by
  obtain ⟨a, b, f, g, mv, sf, pf, cp9, hab, k1, k2, k3, k4, k5, k6, k7, k8, k9⟩ := h
  refine ⟨a, b, f, g, mv, sf, pf, cp9, hab, he _ _ (by simp) k1, he _ _ (by simp) k2, he _ _ ?_ k3, he _ _ ?_ k4, he _ _ (by simp) k5, he _ _ (by simp) k6, he _ _ (by simp) k7, he _ _ (by simp) k8, k9⟩
  · rcases hab with ⟨rfl, _⟩ | ⟨rfl, _⟩ <;> simp
  · rcases hab with ⟨_, rfl⟩ | ⟨_, rfl⟩ <;> simp
theorem cx_keep (h : CX I N s G) (he : ∀ (i : Nat) (v : cj_E), i < 13 → G (I i) = some v → G' (I i) = some v) : CX I N s G' := by
  obtain ⟨h1, h2, ⟨rl, ra, rb, h3⟩, ⟨g, h4, h5⟩, ⟨g', h6, h7⟩, h8⟩ := h
  refine ⟨he 0 _ (by omega) h1, he 1 _ (by omega) h2, ⟨rl, ra, rb, he 2 _ (by omega) h3⟩, ⟨g, he 3 _ (by omega) h4, h5⟩, ⟨g', he 4 _ (by omega) h6, h7⟩, cm_fr h8 (fun z v hz hv => ?_)⟩
  simp only [List.mem_cons, List.not_mem_nil, or_false] at hz
  rcases hz with rfl | rfl | rfl | rfl | rfl | rfl | rfl | rfl
  · exact he 7 _ (by omega) hv
  · exact he 5 _ (by omega) hv
  · exact he 6 _ (by omega) hv
  · exact he 8 _ (by omega) hv
  · exact he 9 _ (by omega) hv
  · exact he 10 _ (by omega) hv
  · exact he 11 _ (by omega) hv
  · exact he 12 _ (by omega) hv
/-- the reference has done something -/
theorem lp_ref (hI : ID I ad) (h : LWP I ad N s S G) : G = rm_md (I 13) ad S G ∧ ∀ S' : rm_S, LWP I ad N s S' (rm_md (I 13) ad S' G) ∧ rm_md (I 13) ad S' G (I 14) = G (I 14) := by
  obtain ⟨hc, ⟨h1, h2⟩, f, h3⟩ := h
  have el : ∀ (i : Nat) (S' : rm_S), i < 15 → i ≠ 13 → rm_md (I 13) ad S' G (I i) = G (I i) := fun i S' h1 h2 => rm_else (hI.ne h1 (by omega) h2) (fun j hj => hI.2.1 i h1 j hj)
  refine ⟨rm_self h1 h2, fun S' => ⟨⟨cx_keep hc (fun i v hi hv => by rw [el i S' (by omega) (by omega)]; exact hv), ⟨rm_mo, fun j hj t n ht => rm_at hI.2.2 ht⟩, f, by rw [el 14 S' (by omega) (by omega)]; exact h3⟩, el 14 S' (by omega) (by omega)⟩⟩
/-- a call of the reference -/
theorem lr_call {M : cj_M} {d k n : Nat} {av : List Value} {Q : Int32 → rm_S → Prop} (hI : ID I ad) (h : LWP I ad N s S G) (hT : cj_T M d k n av (rm_md (I 13) ad S G) (rm_posti (I 13) ad G Q) cj_no) : cj_T M d k n av G (fun v G' => ∃ (z : Int32) (S' : rm_S), v = some (.int z) ∧ Q z S' ∧ LWP I ad N s S' G' ∧ G' (I 14) = G (I 14)) cj_no := by
  obtain ⟨e, h2⟩ := lp_ref hI h
  rw [← e] at hT
  refine cj_T.mono hT (fun v G' q => ?_) (fun _ _ h => h)
  obtain ⟨z, S', e1, e2, e3⟩ := q
  exact ⟨z, S', e1, e3, by rw [e2]; exact (h2 S').1, by rw [e2]; exact (h2 S').2⟩
theorem lp_long {f : Nat → Int64} (hI : ID I ad) (h : LWP I ad N s S G) : LWP I ad N s S (cj_up G (I 14) (.inl (3, 1, .inr (.inl f)))) := by
  obtain ⟨hc, ⟨h1, h2⟩, _⟩ := h
  exact ⟨cx_keep hc (fun i v hi hv => by rw [cj_up_n (hI.ne (by omega) (by omega) (by omega))]; exact hv), ⟨by rw [cj_up_n (hI.ne (by omega) (by omega) (by omega))]; exact h1, fun j hj t n ht => by rw [cj_up_n (hI.2.1 14 (by omega) j hj)]; exact h2 j hj t n ht⟩, f, cj_up_s⟩
theorem lp_x (h : LWP I ad N s S G) : ∃ fs : List Value, G (I 0) = some (.inr (6, fs)) := ⟨_, h.1.1⟩
theorem lp_q (h : LWP I ad N s S G) : ∃ fs : List Value, G (I 13) = some (.inr (7, fs)) := ⟨_, h.2.1.1⟩
/-- what the class only reads -/
theorem lc_rd {M : cj_M} {d k n : Nat} {av : List Value} {V : Int32} (h : LWP I ad N s S G) (hT : cj_T M d k n av G (cj_rd G V) cj_no) : cj_T M d k n av G (fun v G' => v = some (.int V) ∧ LWP I ad N s S G') cj_no := cj_T.mono hT (fun v G' q => ⟨q.1, by rw [q.2]; exact h⟩) (fun _ _ h => h)
theorem lc_place (h : LWP I ad N s S G) : cj_T mX6_place 0 0 0 [.ref (I 0)] G (fun v G' => v = some (.int s.2.2.2.2.2.2) ∧ LWP I ad N s S G') cj_no := by
  obtain ⟨h1, h2, ⟨rl, ra, rb, h3⟩, _⟩ := h.1
  exact lc_rd h (t_place (pa := 0) (o := 0) (sk := 0) (ht := 0) (ln := 0) (a := 0) (b := 0) (c := 0) (N := 0) (t := 0) (f := fun _ => 0) (sf := fun _ => 0) (pf := fun _ => 0) (w := 0) (z := 0) (acc := 0) (env := 0) (at9 := 0) (hl := 0) (rs := 0) (cp9 := 0) (tn9 := 0) h1 h3)
theorem lc_state (hA : AX N s) (h : LWP I ad N s S G) : cj_T mX6_state 1 0 0 [.ref (I 0)] G (fun v G' => v = some (.int (mc_cond s.2.2.1.length s.2.2.2.2.1 s.2.2.2.2.2.1)) ∧ LWP I ad N s S G') cj_no := by
  obtain ⟨h1, h2, _, _, _, a, b, f, g, mv, sf, pf, cp9, hab, k1, k2, k3, k4, k5, k6, k7, k8, k9⟩ := h.1
  exact lc_rd h (t_state (a := 0) (b := 0) (c := 0) (N := 0) (t := 0) (rt := 0) (nb := 0) (f := fun _ => 0) (sf := fun _ => 0) (pf := fun _ => 0) (w := 0) (z := 0) (cp9 := 0) (tn9 := 0) (rl := 0) (ra := 0) (rb := 0) (ri := 0) h1 k1 k7 hA.2.2.1)
theorem lc_why (h : LWP I ad N s S G) : cj_T mX6_why 0 0 0 [.ref (I 0)] G (fun v G' => v = some (.int s.2.2.2.2.2.1) ∧ LWP I ad N s S G') cj_no := by
  obtain ⟨h1, h2, _, _, _, a, b, f, g, mv, sf, pf, cp9, hab, k1, k2, k3, k4, k5, k6, k7, k8, k9⟩ := h.1
  exact lc_rd h (t_why (pa := 0) (ln := 0) (a := 0) (b := 0) (c := 0) (N := 0) (t := 0) (rt := 0) (nb := 0) (f := fun _ => 0) (sf := fun _ => 0) (pf := fun _ => 0) (w := 0) (z := 0) (cp9 := 0) (tn9 := 0) (rl := 0) (ra := 0) (rb := 0) (ri := 0) h1 k1)
theorem lc_next (h : LWP I ad N s S G) : cj_T mX6_next 0 0 0 [.ref (I 0)] G (fun v G' => v = some (.int (nI s.2.2.2.1.2.2.2.2.1)) ∧ LWP I ad N s S G') cj_no := by
  obtain ⟨h1, h2, _, _, _, a, b, f, g, mv, sf, pf, cp9, hab, k1, k2, k3, k4, k5, k6, k7, k8, k9⟩ := h.1
  exact lc_rd h (t_next (pa := 0) (ln := 0) (a := 0) (b := 0) (c := 0) (N := 0) (t := 0) (rt := 0) (nb := 0) (f := fun _ => 0) (sf := fun _ => 0) (pf := fun _ => 0) (w := 0) (z := 0) (cp9 := 0) (tn9 := 0) (rl := 0) (ra := 0) (rb := 0) (ri := 0) h1 k1)
theorem lc_depth (h : LWP I ad N s S G) : cj_T mX6_depth 0 0 0 [.ref (I 0)] G (fun v G' => v = some (.int (nI s.2.2.2.1.2.2.2.1.length)) ∧ LWP I ad N s S G') cj_no := by
  obtain ⟨h1, h2, _, _, _, a, b, f, g, mv, sf, pf, cp9, hab, k1, k2, k3, k4, k5, k6, k7, k8, k9⟩ := h.1
  exact lc_rd h (t_depth (pa := 0) (ln := 0) (a := 0) (b := 0) (c := 0) (N := 0) (t := 0) (rt := 0) (nb := 0) (f := fun _ => 0) (sf := fun _ => 0) (pf := fun _ => 0) (w := 0) (z := 0) (cp9 := 0) (tn9 := 0) (rl := 0) (ra := 0) (rb := 0) (ri := 0) h1 k1)
theorem lc_used (h : LWP I ad N s S G) : cj_T mX6_used 0 0 0 [.ref (I 0)] G (fun v G' => v = some (.int (nI (hsz s.2.2.2.1.1))) ∧ LWP I ad N s S G') cj_no := by
  obtain ⟨h1, h2, _, _, _, a, b, f, g, mv, sf, pf, cp9, hab, k1, k2, k3, k4, k5, k6, k7, k8, k9⟩ := h.1
  exact lc_rd h (t_used (pa := 0) (ln := 0) (N := 0) (rt := 0) (nb := 0) (f := fun _ => 0) (sf := fun _ => 0) (pf := fun _ => 0) (w := 0) (z := 0) (rl := 0) (ra := 0) (rb := 0) (ri := 0) h1 k1 k2)
theorem lc_collections (h : LWP I ad N s S G) : cj_T mX6_collections 0 0 0 [.ref (I 0)] G (fun v G' => v = some (.int s.2.2.2.1.2.2.2.2.2) ∧ LWP I ad N s S G') cj_no := by
  obtain ⟨h1, h2, _, _, _, a, b, f, g, mv, sf, pf, cp9, hab, k1, k2, k3, k4, k5, k6, k7, k8, k9⟩ := h.1
  exact lc_rd h (t_collections (pa := 0) (ln := 0) (N := 0) (rt := 0) (nb := 0) (f := fun _ => 0) (sf := fun _ => 0) (pf := fun _ => 0) (w := 0) (z := 0) (rl := 0) (ra := 0) (rb := 0) (ri := 0) h1 k1 k2)
theorem lc_code {a1 a2 : Int32} (hA : AX N s) (h : LWP I ad N s S G) : ∃ pf : Nat → Int32, cd_l pf s.2.2.1 ∧ cj_T mX6_code 1 0 0 [.ref (I 0), .int a1, .int a2] G (fun v G' => v = some (.int (mc_part pf s.2.2.1.length a1 a2)) ∧ LWP I ad N s S G') cj_no := by
  obtain ⟨h1, h2, _, _, _, a, b, f, g, mv, sf, pf, cp9, hab, k1, k2, k3, k4, k5, k6, k7, k8, k9, k10, k11, k12⟩ := h.1
  exact ⟨pf, k11, lc_rd h (t_code (o := 0) (sk := 0) (ht := 0) (a := 0) (b := 0) (c := 0) (N := 0) (t := 0) (rt := 0) (nb := 0) (f := fun _ => 0) (sf := fun _ => 0) (acc := 0) (env := 0) (at9 := 0) (hl := 0) (rs := 0) (cp9 := 0) (tn9 := 0) (rl := 0) (ra := 0) (rb := 0) (ri := 0) h1 k7 k8 hA.2.2.1)⟩
theorem lc_kind {a1 : Int32} (hN : N ≤ 200) (hA : AX N s) (h : LWP I ad N s S G) : ∃ f : Nat → Int32, hc f (hsz s.2.2.2.1.1) s.2.2.2.1.1 ∧ cj_T mX6_kind 5 0 0 [.ref (I 0), .int a1] G (fun v G' => v = some (.int (hp_so f (nI (hsz s.2.2.2.1.1)) (mc_wa f (hsz s.2.2.2.1.1) 16 (cw 0 s.2.2.2.1.2.1) a1))) ∧ LWP I ad N s S G') cj_no := by
  obtain ⟨h1, h2, _, _, _, a, b, f, g, mv, sf, pf, cp9, hab, k1, k2, k3, k4, k5, k6, k7, k8, k9, k10, k11, k12⟩ := h.1
  exact ⟨f, k9, lc_rd h (t_kind (pa := 0) (ln := 0) (rt := 0) (nb := 0) (sf := fun _ => 0) (pf := fun _ => 0) (z := 0) (rl := 0) (ra := 0) (rb := 0) (ri := 0) h1 k1 k2 k3 hN (ax_ga hA).2.2.2.2.2.1)⟩
theorem lc_value {a1 : Int32} (hN : N ≤ 200) (hA : AX N s) (h : LWP I ad N s S G) : ∃ f : Nat → Int32, hc f (hsz s.2.2.2.1.1) s.2.2.2.1.1 ∧ cj_T mX6_value 5 0 0 [.ref (I 0), .int a1] G (fun v G' => v = some (.int (hp_me f (nI (hsz s.2.2.2.1.1)) (mc_wa f (hsz s.2.2.2.1.1) 16 (cw 0 s.2.2.2.1.2.1) a1))) ∧ LWP I ad N s S G') cj_no := by
  obtain ⟨h1, h2, _, _, _, a, b, f, g, mv, sf, pf, cp9, hab, k1, k2, k3, k4, k5, k6, k7, k8, k9, k10, k11, k12⟩ := h.1
  exact ⟨f, k9, lc_rd h (t_value (pa := 0) (ln := 0) (rt := 0) (nb := 0) (sf := fun _ => 0) (pf := fun _ => 0) (z := 0) (rl := 0) (ra := 0) (rb := 0) (ri := 0) h1 k1 k2 k3 hN (ax_ga hA).2.2.2.2.2.1)⟩
/-- live: copies into the other half -/
theorem lc_live (hN : N ≤ 200) (hI : ID I ad) (hA : AX N s) (h : LWP I ad N s S G) : cj_T mX6_live 4 0 0 [.ref (I 0)] G (fun v G' => v = some (.int (nI (hsz (ag_all s.2.2.2.1.1 N s.2.2.2.1.2.1 s.2.2.2.1.2.2.1 s.2.2.2.1.2.2.2.1).1))) ∧ LWP I ad N s S G') cj_no := by
  have hga := ax_ga hA
  obtain ⟨h1, h2, ⟨rl, ra, rb, h3⟩, ⟨g3, h4, h5⟩, ⟨g4, h6, h7⟩, a, b, f, g, mv, sf, pf, cp9, hab, k1, k2, k3, k4, k5, k6, k7, k8, k9, k10, k11, k12⟩ := h.1
  have k12' := k12
  obtain ⟨n1, n2, n3, n4, n5, n6, n7, n8, n9, n10⟩ := k12'
  have hcg := cg_all (g := g) hga k9 hN k10
  refine cj_T.mono (t_live k1 k3 k6 k2 k4 k5 n1 n2 n3 n4 n5 n6 hN hga.2.2.2.2.2.1 hga.2.2.2.2.1 h1) (fun v G' q => ?_) (fun _ _ h => h)
  obtain ⟨e, p1, p2, p3, p4⟩ := q
  refine ⟨by rw [e, hcg.2.1], ?_⟩
  have hab' : ∃ i, (i = 10 ∨ i = 11) ∧ b = I i := by
    rcases hab with ⟨_, rfl⟩ | ⟨_, rfl⟩
    · exact ⟨11, Or.inr rfl, rfl⟩
    · exact ⟨10, Or.inl rfl, rfl⟩
  have nb9 : ∀ i, i < 10 → I i ≠ b := fun i hi => by
    obtain ⟨j, hj, rfl⟩ := hab'
    exact hI.ne (by omega) (by omega) (by omega)
  have keep : ∀ (i : Nat) (v : cj_E), i < 8 → G (I i) = some v → G' (I i) = some v := fun i v hi hv => p4 _ _ (cj_ni3 (hI.ne (by omega) (by omega) (by omega)) (nb9 i (by omega)) (hI.ne (by omega) (by omega) (by omega))) hv
  refine lp_cls hI (F := [I 8, b, I 12]) (fun z hz => ?_) p4 h ⟨keep 0 _ (by omega) h1, keep 1 _ (by omega) h2, ⟨rl, ra, rb, keep 2 _ (by omega) h3⟩, ⟨g3, keep 3 _ (by omega) h4, h5⟩, ⟨g4, keep 4 _ (by omega) h6, h7⟩, a, b, f, (gc_all N f (hsz s.2.2.2.1.1) (cw 0 s.2.2.2.1.2.1) (cw 0 s.2.2.2.1.2.2.1) sf s.2.2.2.1.2.2.2.1.length g).1, (gc_all N f (hsz s.2.2.2.1.1) (cw 0 s.2.2.2.1.2.1) (cw 0 s.2.2.2.1.2.2.1) sf s.2.2.2.1.2.2.2.1.length g).2.1, sf, pf, _, hab, keep 7 _ (by omega) k1, p1, p4 _ _ (cj_ni3 (cj_nao k3 k2) n1 n2) k3, p2, p3, p4 _ _ (cj_ni3 (cj_nao k6 k2) n5 n6) k6, keep 5 _ (by omega) k7, keep 6 _ (by omega) k8, k9, k10, k11, k12⟩
  simp only [List.mem_cons, List.not_mem_nil, or_false] at hz
  rcases hz with rfl | rfl | rfl
  · exact ⟨8, by omega, rfl⟩
  · obtain ⟨j, hj, e⟩ := hab'
    exact ⟨j, by omega, e⟩
  · exact ⟨12, by omega, rfl⟩
/-- write -/
theorem lc_write0 {a1 : Int32} (hA : AX N s) (h : LWP I ad N s S G) (hw : ¬ ch_wr s.1 a1 = true) : cj_T mX6_write 0 0 0 [.ref (I 0), .int a1] G (fun v G' => v = some (.int 0) ∧ LWP I ad N s S G') cj_no := lc_rd h (t_write_0 h.1.1 h.1.2.1 hA.1 hw)
def wr_s (s : ls_T) (a1 : Int32) : ls_T := (s.1 + 1, (fun j => if j = s.1 then a1.toNatClampNeg else s.2.1 j), s.2.2)
theorem wr_nI {a1 : Int32} (h1 : ¬ a1 < 32) (h2 : ¬ 126 < a1) : nI a1.toNatClampNeg = a1 ∧ a1.toNatClampNeg < 65536 := by
  have h3 : (32 : Int) ≤ a1.toInt := Int32.le_iff_toInt_le.mp (Int32.not_lt.mp h1)
  have h4 : a1.toInt ≤ (126 : Int) := Int32.le_iff_toInt_le.mp (Int32.not_lt.mp h2)
  have h5 : a1.toNatClampNeg = a1.toInt.toNat := rfl
  refine ⟨Int32.toInt_inj.mp ?_, by rw [h5]; omega⟩
  rw [h5, nI_toInt (by omega)]; omega
theorem lc_write1 {a1 : Int32} (hI : ID I ad) (hA : AX N s) (h : LWP I ad N s S G) (hw : ch_wr s.1 a1 = true) : cj_T mX6_write 0 0 0 [.ref (I 0), .int a1] G (fun v G' => v = some (.int 1) ∧ LWP I ad N (wr_s s a1) S G') cj_no := by
  have hw' := hw
  simp only [ch_wr, Bool.and_eq_true, decide_eq_true_eq] at hw'
  obtain ⟨w1, w2, w3⟩ := hw'
  have hn := wr_nI w1 w2
  obtain ⟨h1, h2, ⟨rl, ra, rb, h3⟩, ⟨g3, h4, h5⟩, ⟨g4, h6, h7⟩, h8⟩ := h.1
  refine cj_T.mono (t_write_1 h1 h2 hA.1 hw) (fun v G' q => ?_) (fun _ _ h => h)
  obtain ⟨e, p1, p2, p3⟩ := q
  refine ⟨e, ?_⟩
  have keep : ∀ (i : Nat) (v : cj_E), 2 ≤ i → i < 13 → G (I i) = some v → G' (I i) = some v := fun i v hi hi2 hv => p3 _ _ (cj_ni2 (hI.ne (by omega) (by omega) (by omega)) (hI.ne (by omega) (by omega) (by omega))) hv
  have ew : upd (fun j => nI (s.2.1 j)) s.1 a1 = fun j => nI ((wr_s s a1).2.1 j) := by
    funext j
    show (if j = s.1 then a1 else nI (s.2.1 j)) = nI (if j = s.1 then a1.toNatClampNeg else s.2.1 j)
    by_cases e9 : j = s.1
    · rw [if_pos e9, if_pos e9, hn.1]
    · rw [if_neg e9, if_neg e9]
  rw [ew] at p2
  refine lp_cls hI (F := [I 0, I 1]) (fun z hz => ?_) p3 h ⟨p1, p2, ⟨rl, ra, rb, keep 2 _ (by omega) (by omega) h3⟩, ⟨g3, keep 3 _ (by omega) (by omega) h4, h5⟩, ⟨g4, keep 4 _ (by omega) (by omega) h6, h7⟩, cm_fr h8 (fun z v hz hv => ?_)⟩
  · simp only [List.mem_cons, List.not_mem_nil, or_false] at hz
    rcases hz with rfl | rfl
    · exact ⟨0, by omega, rfl⟩
    · exact ⟨1, by omega, rfl⟩
  · simp only [List.mem_cons, List.not_mem_nil, or_false] at hz
    rcases hz with rfl | rfl | rfl | rfl | rfl | rfl | rfl | rfl
    · exact keep 7 _ (by omega) (by omega) hv
    · exact keep 5 _ (by omega) (by omega) hv
    · exact keep 6 _ (by omega) (by omega) hv
    · exact keep 8 _ (by omega) (by omega) hv
    · exact keep 9 _ (by omega) (by omega) hv
    · exact keep 10 _ (by omega) (by omega) hv
    · exact keep 11 _ (by omega) (by omega) hv
    · exact keep 12 _ (by omega) (by omega) hv
theorem ax_wr {a1 : Int32} (hA : AX N s) (hw : ch_wr s.1 a1 = true) : AX N (wr_s s a1) := by
  simp only [ch_wr, Bool.and_eq_true, decide_eq_true_eq] at hw
  obtain ⟨w1, w2, w3⟩ := hw
  refine ⟨by show s.1 + 1 ≤ 90; omega, fun j => ?_, hA.2.2⟩
  show (if j = s.1 then a1.toNatClampNeg else s.2.1 j) < 65536
  split
  · exact (wr_nI w1 w2).2
  · exact hA.2.1 j
end LPS
