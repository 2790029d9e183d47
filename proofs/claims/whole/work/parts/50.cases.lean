/-! MATCH -/
abbrev cz_T : Type := Nat × Nat × Nat × fr_F
def cz (N : Nat → nd_T) (w : Nat) : Nat → List cz_T → Nat → Prop
  | lo, [], hi => lo ≤ hi
  | lo, x :: t, hi => ∃ h1 : Nat, lo ≤ x.1 ∧ nq (N x.1) (9, nI x.2.1, [x.2.2.1], false, false) ∧ x.2.1 < 8 ∧ gen_is N (x.1 + 1) h1 x.2.2.1 x.2.2.2 w ∧ cz N w h1 t hi
def cz_F (cs : List cz_T) : List (Nat × fr_F) := cs.map (fun x => (x.2.1, fr_cb (x.2.1 % 4) x.2.2.2))
theorem cz_le {N : Nat → nd_T} {w : Nat} : ∀ {cs : List cz_T} {lo hi : Nat}, cz N w lo cs hi → lo ≤ hi := by
  intro cs
  induction cs with
  | nil => intro lo hi h; exact h
  | cons x t ih =>
    intro lo hi h
    obtain ⟨h1, a1, _, _, a4, a5⟩ := h
    have := ih a5
    have := a4.1
    have := a4.2.1
    omega
theorem cz_up {N : Nat → nd_T} {w w2 : Nat} (hw : w ≤ w2) : ∀ {cs : List cz_T} {lo hi hi2 : Nat}, cz N w lo cs hi → hi ≤ hi2 → cz N w2 lo cs hi2 := by
  intro cs
  induction cs with
  | nil => intro lo hi hi2 h h2; exact Nat.le_trans h h2
  | cons x t ih =>
    intro lo hi hi2 h h2
    obtain ⟨h1, a1, a2, a3, a4, a5⟩ := h
    exact ⟨h1, a1, a2, a3, gen_up a4 (Nat.le_refl _) (Nat.le_refl _) hw, ih a5 h2⟩
theorem cz_app {N : Nat → nd_T} {w : Nat} {x : cz_T} {h1 : Nat} : ∀ {cs : List cz_T} {lo : Nat}, cz N w lo cs x.1 → nq (N x.1) (9, nI x.2.1, [x.2.2.1], false, false) → x.2.1 < 8 → gen_is N (x.1 + 1) h1 x.2.2.1 x.2.2.2 w → cz N w lo (cs ++ [x]) h1 := by
  intro cs
  induction cs with
  | nil => intro lo h a2 a3 a4; exact ⟨h1, h, a2, a3, a4, Nat.le_refl _⟩
  | cons y t ih =>
    intro lo h a2 a3 a4
    obtain ⟨h2, b1, b2, b3, b4, b5⟩ := h
    exact ⟨h2, b1, b2, b3, b4, ih b5 a2 a3 a4⟩
theorem cz_N {N N1 : Nat → nd_T} {w : Nat} : ∀ {cs : List cz_T} {lo hi : Nat}, cz N w lo cs hi → (∀ i, lo ≤ i → i < hi → nq (N1 i) (N i)) → cz N1 w lo cs hi := by
  intro cs
  induction cs with
  | nil => intro lo hi h _; exact h
  | cons x t ih =>
    intro lo hi h hN
    obtain ⟨h1, a1, a2, a3, a4, a5⟩ := h
    have b1 := cz_le a5
    have b2 := a4.1
    have b3 := a4.2.1
    exact ⟨h1, a1, (hN x.1 a1 (by omega)).tr a2, a3, gen_N a4 (fun i c1 c2 => hN i (by omega) (by omega)), ih a5 (fun i c1 c2 => hN i (by omega) c2)⟩
/-! the bodies so far, the latest first: each ends with a jump that names the one before -/
def bq_j (t : List (List fr_C)) (s : Nat) : Int32 := match t with
  | [] => -1
  | X :: t => nI (s + (t.map (fun Y => Y.length + 1)).sum + X.length)
def bq : List (List fr_C) → Nat → List fr_C
  | [], _ => []
  | X :: t, s => bq t s ++ (X ++ [(11, bq_j t s, 0)])
def be (e : Int32) : List (List fr_C) → List fr_C
  | [] => []
  | X :: t => be e t ++ (X ++ [(11, e, 0)])
theorem bq_len : ∀ {t : List (List fr_C)} {s : Nat}, (bq t s).length = (t.map (fun Y => Y.length + 1)).sum := by
  intro t
  induction t with
  | nil => intro s; rfl
  | cons X t ih => intro s; simp only [bq, List.length_append, ih, List.map_cons, List.sum_cons, List.length_cons, List.length_nil]; omega
theorem be_len {e : Int32} : ∀ {t : List (List fr_C)}, (be e t).length = (t.map (fun Y => Y.length + 1)).sum := by
  intro t
  induction t with
  | nil => rfl
  | cons X t ih => simp only [be, List.length_append, ih, List.map_cons, List.sum_cons, List.length_cons, List.length_nil]; omega
section EM
variable {N : Nat → nd_T} {S0 : rm_S} {m : Nat} {WS : List (Int32 × Int32 × Int32)} {v1 : Int32} {P : List fr_C} {e : Int32}
theorem l_endMatch : ∀ (t : List (List fr_C)) (Z : List fr_C) (S : rm_S), S.1 35 = e → cg_at S0 N m WS (P ++ bq t P.length ++ Z) S → (P ++ bq t P.length).length ≤ 120 → ∃ S' : rm_S, cg_at S0 N m WS (P ++ be e t ++ Z) S' ∧ ∀ (Q : rm_S → Prop) (K : Int32 → rm_S → Prop), (∀ x, K x S') → wl_endMatch_7 v1 Q K (t.length + 1) (bq_j t P.length) S := by
  intro t
  induction t with
  | nil =>
    intro Z S _ hc _
    exact ⟨S, hc, fun Q K hK => ⟨fun _ => hK _, fun h9 => absurd (show (-1 : Int32) < 0 by decide) h9⟩⟩
  | cons X t ih =>
    intro Z S he hc hl
    have hj : bq_j (X :: t) P.length = nI (P.length + (bq t P.length).length + X.length) := by rw [bq_len]; rfl
    have hP : (P ++ bq t P.length ++ X).length = P.length + (bq t P.length).length + X.length := by simp only [List.length_append]
    have ec : P ++ bq (X :: t) P.length ++ Z = (P ++ bq t P.length ++ X) ++ (11, bq_j t P.length, 0) :: Z := by
      simp only [bq, List.append_assoc, List.cons_append, List.nil_append]
    have hl2 : P.length + (bq t P.length).length + X.length < 120 := by
      simp only [bq, List.length_append, List.length_cons, List.length_nil] at hl; omega
    rw [ec] at hc
    obtain ⟨S1, q1, c1⟩ := rg_set (j := (P ++ bq t P.length ++ X).length) (q := 1) (v := S.1 35) hc (by simp) (Or.inl rfl)
    rw [cd_s_at] at c1
    have h35 : S1.1 35 = e := by
      rw [c1.2.2.2.2.2.1, ← he, hc.2.2.2.2.2.1]; simp only [List.length_append, List.length_cons]
    have ec2 : (P ++ bq t P.length ++ X) ++ ((11 : Int32), S.1 35, (0 : Int32)) :: Z = P ++ bq t P.length ++ (X ++ (11, e, 0) :: Z) := by
      rw [he]; simp only [List.append_assoc]
    have c1 : cg_at S0 N m WS (P ++ bq t P.length ++ (X ++ (11, e, 0) :: Z)) S1 := by rw [← ec2]; exact c1
    obtain ⟨S2, c2, q2⟩ := ih _ S1 h35 c1 (by rw [List.length_append]; omega)
    refine ⟨S2, ?_, fun Q K hK => ?_⟩
    · have : P ++ be e (X :: t) ++ Z = P ++ be e t ++ (X ++ (11, e, 0) :: Z) := by
        simp only [be, List.append_assoc, List.cons_append, List.nil_append]
      rw [this]; exact c2
    · rw [hj]
      have e3 : 3 * nI (P.length + (bq t P.length).length + X.length) + 1 = nI (3 * (P.length + (bq t P.length).length + X.length) + 1) := by rw [nI_m3, nI_1]
      refine ⟨fun h9 => absurd h9 (nI_pos (by omega)), fun _ => ⟨fun h9 => absurd h9 (nI_ge (b := 121) (by omega) (by omega)), fun _ => ⟨?_, ?_⟩⟩⟩
      · rw [e3]; exact nI_vp (by omega) (by omega)
      · rw [e3, nI_clamp (by omega)]
        have g := (hc.2.2.2.2.2.2.2 (P.length + (bq t P.length).length + X.length) (by simp; omega) (by omega)).2.1
        rw [getD_app, if_neg (by omega), hP, Nat.sub_self] at g
        have g : S.2 36 (3 * (P.length + (bq t P.length).length + X.length) + 1) = bq_j t P.length := g
        rw [g, ← hP]
        exact q1 _ (q2 Q K hK)
end EM
/-! a node's number, or its mark, written anew -/
def nd_num (N : Nat → nd_T) (n : Nat) (v : Int32) : Nat → nd_T := fun i => if i = n then ((N n).1, v, (N n).2.2) else N i
theorem nd_num_s {N : Nat → nd_T} {n : Nat} {v : Int32} : nd_num N n v n = ((N n).1, v, (N n).2.2) := by unfold nd_num; rw [if_pos rfl]
theorem nd_num_n {N : Nat → nd_T} {n i : Nat} {v : Int32} (h : i ≠ n) : nd_num N n v i = N i := by unfold nd_num; rw [if_neg h]
theorem nd_num_c {N : Nat → nd_T} {n i : Nat} {v : Int32} : (nd_num N n v i).2.2 = (N i).2.2 := by
  by_cases e : i = n
  · subst e; rw [nd_num_s]
  · rw [nd_num_n e]
theorem nd_num_k {N : Nat → nd_T} {n i : Nat} {v : Int32} : (nd_num N n v i).1 = (N i).1 := by
  by_cases e : i = n
  · subst e; rw [nd_num_s]
  · rw [nd_num_n e]
theorem rn_num {N : Nat → nd_T} {m n : Nat} {S : rm_S} {v : Int32} (h : ns_at N m S) : ns_at (nd_num N n v) m (rm_pa S 10 n v) := by
  refine ⟨h.1, h.2.1, fun i hi => ?_, fun i j c hi hj h1 h2 => ?_⟩
  · obtain ⟨b1, b2, b3, b4, b5, b6, b7, b8, b9⟩ := h.2.2.1 i hi
    unfold nd_1
    rw [nd_num_c, nd_num_k]
    refine ⟨b1, ?_, b3, b4, b5, b6, b7, b8, fun c hc => ⟨(b9 c hc).1, by rw [nd_num_c]; exact (b9 c hc).2⟩⟩
    show upd (S.2 10) n v i = _
    by_cases e : i = n
    · subst e; rw [upd_s, nd_num_s]
    · rw [upd_n e, nd_num_n e]; exact b2
  · rw [nd_num_c] at h1 h2; exact h.2.2.2 i j c hi hj h1 h2
theorem rn_cl {N : Nat → nd_T} {m n : Nat} {S : rm_S} {c : Bool} (h : ns_at N m S) : ns_at (fun i => if i = n then ((N n).1, (N n).2.1, (N n).2.2.1, c, (N n).2.2.2.2) else N i) m (rm_pa S 14 n (if c = true then 1 else 0)) := by
  refine ⟨h.1, h.2.1, fun i hi => ?_, fun i j x hi hj h1 h2 => ?_⟩
  · obtain ⟨b1, b2, b3, b4, b5, b6, b7, b8, b9⟩ := h.2.2.1 i hi
    have hfl : ∀ j, (if j = n then ((N n).1, (N n).2.1, (N n).2.2.1, c, (N n).2.2.2.2) else N j).2.2.2.2 = (N j).2.2.2.2 := fun j => by
      by_cases e : j = n
      · subst e; rw [if_pos rfl]
      · rw [if_neg e]
    by_cases e : i = n
    · subst e
      unfold nd_1
      simp only [if_pos]
      exact ⟨b1, b2, b3, b4, b5, upd_s, b7, b8, fun x hx => ⟨(b9 x hx).1, by rw [hfl]; exact (b9 x hx).2⟩⟩
    · unfold nd_1
      simp only [if_neg e]
      exact ⟨b1, b2, b3, b4, b5, by show upd (S.2 14) n _ i = _; rw [upd_n e]; exact b6, b7, b8, fun x hx => ⟨(b9 x hx).1, by rw [hfl]; exact (b9 x hx).2⟩⟩
  · have hch : ∀ j, (if j = n then ((N n).1, (N n).2.1, (N n).2.2.1, c, (N n).2.2.2.2) else N j).2.2.1 = (N j).2.2.1 := fun j => by
      by_cases e : j = n
      · subst e; rw [if_pos rfl]
      · rw [if_neg e]
    simp only [hch] at h1 h2
    exact h.2.2.2 i j x hi hj h1 h2
