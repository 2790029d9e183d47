/-! THE REFERENCE'S QUESTIONS -/
section RQ
variable {N : Nat} {C : List fr_C} {T : Nat → lb_T} {A : am_T} {s0 : Nat} {S : rm_S} {Q : Int32 → rm_S → Prop} {x : aw_T} {bs : List hb_T}
theorem rq_int {P : Int32 → Prop} (hx : wv bs x) (hz : hsz bs + s0 ≤ 400) (h1 : aod x → P 1) (h0 : ¬ aod x → P 0) : wp_isInt (cw s0 x) P := ⟨fun h9 => h0 (fun h8 => h9 ((aod_iff hx hz).mp h8)), fun h9 => h1 ((aod_iff hx hz).mpr h9)⟩
theorem rq_fn (hh : rh s0 S bs) (hx : wv bs x) (h1 : fnw bs x → Q 1 S) (h0 : ¬ fnw bs x → Q 0 S) : wp_isFunction S (cw s0 x) Q := by
  cases x with
  | inl w =>
    refine ri_n hx ⟨fun _ => h0 ?_, fun h9 => absurd rfl h9⟩
    rintro (h9 | h9)
    · exact absurd h9 (by show ¬ 99 = 8; omega)
    · exact absurd h9 (by show ¬ 99 = 9; omega)
  | inr p =>
    obtain ⟨b, hb⟩ := hx
    have hlt := (bk_lt hb).1
    have hz := hh.2.2
    have hbv := (hh.2.1 b (bk_lt hb).2).1
    have ek : knd bs (.inr p) = b.1 := by simp only [knd, hb]
    have ec : cw s0 (.inr p) = nI (4 * (p + s0)) := rfl
    rw [ec]
    refine ri_p (by omega) ⟨fun h9 => absurd h9 (by decide), fun _ => rh_k hh hb ⟨fun h9 => h1 ?_, fun h9 => rh_k hh hb ⟨fun h8 => h0 ?_, fun h8 => h1 ?_⟩⟩⟩
    · exact Or.inl (by rw [ek]; exact (nI_eq (b := 8) (by omega) (by omega)).mp h9)
    · rintro (h7 | h7)
      · exact h9 (by rw [← ek, h7]; rfl)
      · exact h8 (by rw [← ek, h7]; rfl)
    · exact Or.inr (by rw [ek]; exact (nI_eq (b := 9) (by omega) (by omega)).mp h8)
/-- built or not, and its tag -/
theorem rq_built (hh : rh s0 S bs) (hx : wv bs x) (h1 : ¬ co bs x = -1 → Q 1 S) (h0 : co bs x = -1 → Q 0 S) : wp_isBuilt S (cw s0 x) Q := by
  cases x with
  | inl w =>
    have ec : cw s0 (.inl w) = w := rfl
    have eco : co bs (.inl w) = if w &&& 3 = 2 then w >>> ((2 : Int32) &&& 31) else -1 := rfl
    rw [ec]
    refine ⟨fun h9 => ⟨fun h8 => absurd rfl h8, fun _ => ri_n hx ⟨fun _ => h0 ?_, fun h8 => absurd rfl h8⟩⟩, fun h9 => ⟨fun _ => h1 ?_, fun h8 => absurd h8 (by decide)⟩⟩
    · rw [eco, if_neg h9]
    · rw [eco, if_pos h9]
      have hx : np w := hx
      rcases hx with hx | rfl | rfl
      · exact absurd h9 (odd_3 hx).2
      · decide
      · decide
  | inr p =>
    obtain ⟨b, hb⟩ := hx
    have hlt := (bk_lt hb).1
    have hz := hh.2.2
    have hbv := (hh.2.1 b (bk_lt hb).2).1
    have ec : cw s0 (.inr p) = nI (4 * (p + s0)) := rfl
    have eco : co bs (.inr p) = if b.1 < 8 then nI b.1 else -1 := by simp only [co, hb]
    rw [ec]
    refine ⟨fun h9 => ⟨fun h8 => absurd rfl h8, fun _ => ri_p (by omega) ⟨fun h8 => absurd h8 (by decide), fun _ => rh_k hh hb ⟨fun h7 => h0 ?_, fun h7 => h1 ?_⟩⟩⟩, fun h9 => absurd h9 (by rw [ptr_and _ (by omega)]; decide)⟩
    · have := (nI_leI (a := 8) (by omega) (by omega)).mp h7
      rw [eco, if_neg (by omega)]
    · have b8 : b.1 < 8 := Nat.lt_of_not_le (fun h6 => h7 (nI_le (a := 8) h6 (by omega)))
      rw [eco, if_pos b8]
      exact fun h6 => m1_ne (t := b.1) (by omega) h6.symm
theorem rq_tag (hh : rh s0 S bs) (hx : wv bs x) (hc : ¬ co bs x = -1) (h : Q (co bs x) S) : wp_tagOf S (cw s0 x) Q := by
  cases x with
  | inl w =>
    have ec : cw s0 (.inl w) = w := rfl
    have eco : co bs (.inl w) = if w &&& 3 = 2 then w >>> ((2 : Int32) &&& 31) else -1 := rfl
    rw [ec]
    rw [eco] at hc h
    refine ⟨fun h9 => absurd (by rw [if_neg h9]) hc, fun h9 => ⟨fun h8 => absurd h8 (by decide), fun _ => ?_⟩⟩
    rw [if_pos h9] at h; exact h
  | inr p =>
    obtain ⟨b, hb⟩ := hx
    have hlt := (bk_lt hb).1
    have hz := hh.2.2
    have ec : cw s0 (.inr p) = nI (4 * (p + s0)) := rfl
    have eco : co bs (.inr p) = if b.1 < 8 then nI b.1 else -1 := by simp only [co, hb]
    rw [ec]
    have b8 : b.1 < 8 := Classical.byContradiction fun h9 => hc (by rw [eco, if_neg h9])
    rw [eco, if_pos b8] at h
    exact ⟨fun _ => ⟨fun _ => rh_k hh hb h, fun h9 => absurd rfl h9⟩, fun h9 => absurd h9 (by rw [ptr_and _ (by omega)]; decide)⟩
theorem rq_a (hC : C.length ≤ 120) (hk : RK N C A s0 S) (hp : A.2.2.2.2.1 < C.length) (h : Q (a_i C A).2.1 S) : wp_a S Q := by
  obtain ⟨k1, k2, k3, k4, k5, k6, k7, k8, k9, k10, k11, k12⟩ := hk
  have e : 3 * S.1 53 + 1 = nI (3 * A.2.2.2.2.1 + 1) := by rw [k10, nI_m3, nI_1]
  refine ⟨by rw [e]; exact nI_vp (by omega) (by omega), ?_⟩
  rw [e, nI_clamp (by omega), (k12 _ hp (by omega)).2.1]; exact h
/-- findCase -/
theorem rk_case {n : Nat} {tag : Int32} {K : Int32 → rm_S → Prop} (hC : C.length ≤ 120) (hk : RK N C A s0 S) (hp : A.2.2.2.2.1 < C.length) (hn : n ≤ 8) (ha : (a_i C A).2.1 = nI n) (hj : ∀ j, 1 ≤ j → j ≤ n → A.2.2.2.2.1 + j < C.length) (hK : ∀ v : Int32, K v S = Q (-1) S) : ∀ (m i : Nat), 1 ≤ i → i + m = n + 1 → Q (fcs C A.2.2.2.2.1 tag m i) S → wl_findCase_11 tag Q K (m + 1) (nI i) S := by
  intro m
  induction m with
  | zero =>
    intro i h1 hi h
    refine rq_a hC hk hp ?_
    rw [ha]
    exact ⟨fun _ => by rw [hK]; exact h, fun h9 => absurd (nI_lt (by omega) (by omega)) h9⟩
  | succ m ih =>
    intro i h1 hi h
    refine rq_a hC hk hp ?_
    rw [ha]
    have hpi := hj i h1 (by omega)
    have hk' := hk
    obtain ⟨k1, k2, k3, k4, k5, k6, k7, k8, k9, k10, k11, k12⟩ := hk'
    have e1 : 3 * (S.1 53 + nI i) + 1 = nI (3 * (A.2.2.2.2.1 + i) + 1) := by rw [k10, nI_add, nI_m3, nI_1]
    have e2 : 3 * (S.1 53 + nI i) + 2 = nI (3 * (A.2.2.2.2.1 + i) + 2) := by rw [k10, nI_add, nI_m3]; exact nI_add _ 2
    obtain ⟨_, c1, c2⟩ := k12 _ hpi (by omega)
    have c1 : S.2 38 (3 * (A.2.2.2.2.1 + i) + 1) = (C.getD (A.2.2.2.2.1 + i) z3).2.1 := c1
    have c2 : S.2 38 (3 * (A.2.2.2.2.1 + i) + 2) = (C.getD (A.2.2.2.2.1 + i) z3).2.2 := c2
    refine ⟨fun h9 => absurd h9 (nI_nlt (by omega) (by omega)), fun _ => ⟨by rw [e1]; exact nI_vp (by omega) (by omega), ?_⟩⟩
    rw [e1, nI_clamp (by omega), c1]
    unfold fcs at h
    refine ⟨fun h9 => ?_, fun h9 => ⟨by rw [e2]; exact nI_vp (by omega) (by omega), ?_⟩⟩
    · rw [if_neg h9] at h
      rw [nI_1]; exact ih (i + 1) (by omega) (by omega) h
    · rw [if_pos h9] at h
      rw [e2, nI_clamp (by omega), c2]; exact h
theorem rk_find {n : Nat} (hC : C.length ≤ 120) (h : MIA C T N A) (hk : RK N C A s0 S) (hn : n ≤ 8) (ha : (a_i C A).2.1 = nI n) (hj : ∀ j, 1 ≤ j → j ≤ n → A.2.2.2.2.1 + j < C.length) (hc : ¬ co A.1 A.2.1 = -1) (hQ : Q (fcs C A.2.2.2.2.1 (co A.1 A.2.1) n 1) S) : wp_findCase S Q := by
  have hk' := hk
  obtain ⟨k1, k2, k3, k4, k5, k6, k7, k8, k9, k10, k11, k12⟩ := hk'
  unfold wp_findCase
  rw [k6]
  refine rq_tag k11 h.1.2.2.1 hc ⟨n + 1, ?_⟩
  exact rk_case hC hk h.1.2.2.2.1 hn ha hj (fun _ => rfl) n 1 (by omega) (by omega) hQ
end RQ
theorem shl1 (v : Int32) : v <<< ((1 : Int32) &&& 31) = 2 * v := by
  refine Int32.toBitVec_inj.mp ?_
  rw [Int32.toBitVec_mul]
  show v.toBitVec <<< (1 : Nat) = BitVec.ofNat 32 2 * v.toBitVec
  generalize v.toBitVec = b
  refine BitVec.eq_of_toNat_eq ?_
  rw [BitVec.toNat_shiftLeft, BitVec.toNat_mul, BitVec.toNat_ofNat, Nat.shiftLeft_eq]
  omega
section RZ
variable {N : Nat} {C : List fr_C} {T : Nat → lb_T} {A : am_T} {s0 : Nat} {S : rm_S} {Q : Int32 → rm_S → Prop}
theorem rd_top {w : aw_T} {st' : List aw_T} (hk : RK N C A s0 S) (h40 : A.2.2.2.1.length ≤ 40) (est : A.2.2.2.1 = w :: st') : S.1 51 - 1 = nI st'.length ∧ vp_in (S.1 51 - 1) 40 ∧ S.2 52 (S.1 51 - 1).toNatClampNeg = cw s0 w := by
  obtain ⟨k1, k2, k3, k4, k5, k6, k7, k8, k9, k10, k11, k12⟩ := hk
  rw [est] at k8 k9 h40
  have h40 : st'.length + 1 ≤ 40 := h40
  have e : S.1 51 - 1 = nI st'.length := by rw [k8]; exact nI_pred _
  refine ⟨e, by rw [e]; exact nI_vp (by omega) (by omega), ?_⟩
  rw [e, nI_clamp (by omega)]; exact skr_top k9
set_option maxHeartbeats 4000000 in
theorem r_wrong (hC : C.length ≤ 120) (h : MIA C T N A) (hck : cok C T A.2.2.2.2.1) (hk : RK N C A s0 S) (h1 : a_WR C A → Q 1 S) (h3 : ¬ a_WR C A → a_DP C A → Q 3 S) (h0 : ¬ a_WR C A → ¬ a_DP C A → Q 0 S) : wp_wrong S (a_i C A).1 Q := by
  have hk' := hk
  obtain ⟨k1, k2, k3, k4, k5, k6, k7, k8, k9, k10, k11, k12⟩ := hk'
  have h' := h
  obtain ⟨hm, h40, hz⟩ := h'
  obtain ⟨i1, i2, i3, i4, i5, i6, i7⟩ := hm
  have simple : ∀ k : Nat, k < 21 → (k < 4 ∨ 8 < k) → k ≠ 13 → k ≠ 18 → k ≠ 3 → (a_i C A).1 = nI k → Q 0 S := fun k q1 q2 q3 q4 q5 q6 => h0 (no_WR q1 q6 q2 q3 q4) (by
    rintro ⟨_, h9 | h9⟩
    · have := (nI_eq (b := 3) (by omega) (by omega)).mp (q6.symm.trans h9); omega
    · have := (nI_eq (b := 13) (by omega) (by omega)).mp (q6.symm.trans h9); omega)
  have d40 : S.1 51 = 40 ↔ A.2.2.2.1.length = 40 := by rw [k8]; exact nI_eq (b := 40) (by omega) (by omega)
  rcases hck with ⟨c0, _⟩ | ⟨v, cv, c0, c1, cn⟩ | ⟨a, ca, ca9, c0, c1, cn⟩ | ⟨c0, cn⟩ | ⟨o, o4, o8, c0, k, ck, cn⟩ | ⟨a, c0, c1, ca, cn⟩ | ⟨a, c0, c1, ca, cn⟩ | ⟨a, c0, c1, cn⟩ | ⟨c0, cf, ck⟩ | ⟨c0, k, ck, cn⟩ | ⟨c0, cn⟩ | ⟨a, e, ce, ca, c0, c1, cn⟩ | ⟨t, ct, ct4, c0, c1, cn⟩ | ⟨t, k, ct, ct4, ck, c0, c1, cn⟩ | ⟨n, cn8, c0, c1, cs⟩ | ⟨c0, c2⟩ | ⟨a, ca0, ca, c0, c1, c2, cn⟩
  · have c0 : (a_i C A).1 = 0 := c0
    have hq := simple 0 (by omega) (by omega) (by omega) (by omega) (by omega) c0
    rw [c0]; unfold wp_wrong
    simp (config := {decide := true}) only [true_implies, false_implies, not_true_eq_false, not_false_eq_true, and_true, true_and, hq]
  · have c0 : (a_i C A).1 = 1 := c0
    have hq := simple 1 (by omega) (by omega) (by omega) (by omega) (by omega) c0
    rw [c0]; unfold wp_wrong
    simp (config := {decide := true}) only [true_implies, false_implies, not_true_eq_false, not_false_eq_true, and_true, true_and, hq]
  · have c0 : (a_i C A).1 = 2 := c0
    have hq := simple 2 (by omega) (by omega) (by omega) (by omega) (by omega) c0
    rw [c0]; unfold wp_wrong
    simp (config := {decide := true}) only [true_implies, false_implies, not_true_eq_false, not_false_eq_true, and_true, true_and, hq]
  · have c0 : (a_i C A).1 = 3 := c0
    have hnw : ¬ a_WR C A := no_WR (k := 3) (by omega) c0 (by omega) (by omega) (by omega)
    rw [c0]; unfold wp_wrong
    simp (config := {decide := true}) only [true_implies, false_implies, not_true_eq_false, not_false_eq_true, and_true, true_and]
    refine ⟨fun h9 => h0 hnw (fun h8 => h9 (d40.mpr h8.1)), fun h9 => h3 hnw ⟨d40.mp h9, Or.inl c0⟩⟩
  · rw [ck] at i6
    obtain ⟨w, st', est, hw1, i6'⟩ := sv_pop i6
    have hzz := k11.2.2
    obtain ⟨t1, t2, t3⟩ := rd_top hk h40 est
    have hdp : ¬ a_DP C A := by
      rintro ⟨_, h9 | h9⟩
      · have := (nI_eq (b := 3) (by omega) (by omega)).mp (c0.symm.trans h9); omega
      · have := (nI_eq (b := 13) (by omega) (by omega)).mp (c0.symm.trans h9); omega
    have wr : ¬ (aod w ∧ aod A.2.1) → Q 1 S := fun h9 => h1 (Or.inl ⟨o, w, st', o4, o8, c0, est, h9⟩)
    have ok : aod w → aod A.2.1 → Q 0 S := fun h9 h8 => h0 (by
      rintro (⟨o', x, st2, _, _, _, e2, e3⟩ | ⟨e, _⟩ | ⟨n, _, e, _⟩)
      · rw [est] at e2
        have ex : w = x := (List.cons.inj e2).1
        subst ex
        exact e3 ⟨h9, h8⟩
      · have := (nI_eq (b := 13) (by omega) (by omega)).mp (c0.symm.trans e); omega
      · have := (nI_eq (b := 18) (by omega) (by omega)).mp (c0.symm.trans e); omega) hdp
    have body : vp_in (S.1 51 - 1) 40 ∧ wp_isInt (S.2 52 (S.1 51 - 1).toNatClampNeg) (fun x83 => (x83 = 0 → Q 1 S) ∧ (¬ x83 = 0 → wp_isInt (S.1 49) (fun x86 => (¬ x86 = 0 → Q 0 S) ∧ (x86 = 0 → Q 1 S)))) := by
      refine ⟨t2, ?_⟩
      rw [t3, k6]
      refine rq_int hw1 (by omega) (fun h9 => ⟨fun h8 => absurd h8 (by decide), fun _ => rq_int i3 (by omega) (fun h8 => ⟨fun _ => ok h9 h8, fun h7 => absurd h7 (by decide)⟩) (fun h8 => ⟨fun h7 => absurd rfl h7, fun _ => wr (fun h7 => h8 h7.2)⟩)⟩) (fun h9 => ⟨fun _ => wr (fun h7 => h9 h7.1), fun h8 => absurd rfl h8⟩)
    have c0 : (a_i C A).1 = nI o := c0
    rw [c0]; unfold wp_wrong
    have ho : o = 4 ∨ o = 5 ∨ o = 6 ∨ o = 7 ∨ o = 8 := by omega
    rcases ho with rfl | rfl | rfl | rfl | rfl
    · rw [show nI 4 = 4 from rfl]
      simp (config := {decide := true}) only [true_implies, false_implies, not_true_eq_false, not_false_eq_true, and_true, true_and]
      exact body
    · rw [show nI 5 = 5 from rfl]
      simp (config := {decide := true}) only [true_implies, false_implies, not_true_eq_false, not_false_eq_true, and_true, true_and]
      exact body
    · rw [show nI 6 = 6 from rfl]
      simp (config := {decide := true}) only [true_implies, false_implies, not_true_eq_false, not_false_eq_true, and_true, true_and]
      exact body
    · rw [show nI 7 = 7 from rfl]
      simp (config := {decide := true}) only [true_implies, false_implies, not_true_eq_false, not_false_eq_true, and_true, true_and]
      exact body
    · rw [show nI 8 = 8 from rfl]
      simp (config := {decide := true}) only [true_implies, false_implies, not_true_eq_false, not_false_eq_true, and_true, true_and]
      exact body
  · have c0 : (a_i C A).1 = 9 := c0
    have hq := simple 9 (by omega) (by omega) (by omega) (by omega) (by omega) c0
    rw [c0]; unfold wp_wrong
    simp (config := {decide := true}) only [true_implies, false_implies, not_true_eq_false, not_false_eq_true, and_true, true_and, hq]
  · have c0 : (a_i C A).1 = 10 := c0
    have hq := simple 10 (by omega) (by omega) (by omega) (by omega) (by omega) c0
    rw [c0]; unfold wp_wrong
    simp (config := {decide := true}) only [true_implies, false_implies, not_true_eq_false, not_false_eq_true, and_true, true_and, hq]
  · have c0 : (a_i C A).1 = 11 := c0
    have hq := simple 11 (by omega) (by omega) (by omega) (by omega) (by omega) c0
    rw [c0]; unfold wp_wrong
    simp (config := {decide := true}) only [true_implies, false_implies, not_true_eq_false, not_false_eq_true, and_true, true_and, hq]
  · have c0 : (a_i C A).1 = 12 := c0
    have hq := simple 12 (by omega) (by omega) (by omega) (by omega) (by omega) c0
    rw [c0]; unfold wp_wrong
    simp (config := {decide := true}) only [true_implies, false_implies, not_true_eq_false, not_false_eq_true, and_true, true_and, hq]
  · have c0 : (a_i C A).1 = 13 := c0
    rw [c0]; unfold wp_wrong
    simp (config := {decide := true}) only [true_implies, false_implies, not_true_eq_false, not_false_eq_true, and_true, true_and]
    rw [k6]
    have wr : ¬ fnw A.1 A.2.1 → a_WR C A := fun h9 => Or.inr (Or.inl ⟨c0, h9⟩)
    have nw : fnw A.1 A.2.1 → ¬ a_WR C A := by
      rintro h9 (⟨o', x, st2, _, _, e1, _⟩ | ⟨_, e2⟩ | ⟨n, _, e1, _⟩)
      · have := (nI_eq (a := 13) (by omega) (by omega)).mp (c0.symm.trans e1); omega
      · exact e2 h9
      · exact absurd (c0.symm.trans e1) (by decide)
    refine rq_fn k11 i3 (fun h9 => ⟨fun _ => ⟨fun h8 => h0 (nw h9) (fun h7 => h8 (d40.mpr h7.1)), fun h8 => h3 (nw h9) ⟨d40.mp h8, Or.inr c0⟩⟩, fun h8 => absurd h8 (by decide)⟩) (fun h9 => ⟨fun h8 => absurd rfl h8, fun _ => h1 (wr h9)⟩)
  · have c0 : (a_i C A).1 = 14 := c0
    have hq := simple 14 (by omega) (by omega) (by omega) (by omega) (by omega) c0
    rw [c0]; unfold wp_wrong
    simp (config := {decide := true}) only [true_implies, false_implies, not_true_eq_false, not_false_eq_true, and_true, true_and, hq]
  · have c0 : (a_i C A).1 = 15 := c0
    have hq := simple 15 (by omega) (by omega) (by omega) (by omega) (by omega) c0
    rw [c0]; unfold wp_wrong
    simp (config := {decide := true}) only [true_implies, false_implies, not_true_eq_false, not_false_eq_true, and_true, true_and, hq]
  · have c0 : (a_i C A).1 = 16 := c0
    have hq := simple 16 (by omega) (by omega) (by omega) (by omega) (by omega) c0
    rw [c0]; unfold wp_wrong
    simp (config := {decide := true}) only [true_implies, false_implies, not_true_eq_false, not_false_eq_true, and_true, true_and, hq]
  · have c0 : (a_i C A).1 = 17 := c0
    have hq := simple 17 (by omega) (by omega) (by omega) (by omega) (by omega) c0
    rw [c0]; unfold wp_wrong
    simp (config := {decide := true}) only [true_implies, false_implies, not_true_eq_false, not_false_eq_true, and_true, true_and, hq]
  · have c0 : (a_i C A).1 = 18 := c0
    have c1 : (a_i C A).2.1 = nI n := c1
    have hdp : ¬ a_DP C A := by
      rintro ⟨_, h9 | h9⟩
      · exact absurd (c0.symm.trans h9) (by decide)
      · exact absurd (c0.symm.trans h9) (by decide)
    have wr : fcs C A.2.2.2.2.1 (co A.1 A.2.1) n 1 = -1 → Q 1 S := fun h9 => h1 (Or.inr (Or.inr ⟨n, cn8, c0, c1, h9⟩))
    have ok : ¬ fcs C A.2.2.2.2.1 (co A.1 A.2.1) n 1 = -1 → Q 0 S := fun h9 => h0 (by
      rintro (⟨o', x, st2, _, _, e1, _⟩ | ⟨e1, _⟩ | ⟨n', hn', _, e1, e2⟩)
      · have := (nI_eq (a := 18) (by omega) (by omega)).mp (c0.symm.trans e1); omega
      · exact absurd (c0.symm.trans e1) (by decide)
      · have : n = n' := (nI_eq (by omega) (by omega)).mp (c1.symm.trans e1)
        subst this
        exact h9 e2) hdp
    have hm1 : fcs C A.2.2.2.2.1 (-1) n 1 = -1 := Classical.byContradiction fun h9 => (fcs_ok (P := fun _ => False) n 1 (fun j j1 j2 ej => by
      obtain ⟨t, q, s1, s2, s3, _⟩ := cs j j1 (by omega)
      rw [s2] at ej
      exact m1_ne (t := t) (by omega) ej.symm) h9)
    rw [c0]; unfold wp_wrong
    simp (config := {decide := true}) only [true_implies, false_implies, not_true_eq_false, not_false_eq_true, and_true, true_and]
    rw [k6]
    refine rq_built k11 i3 (fun h9 => ⟨fun h8 => absurd h8 (by decide), fun _ => rk_find hC h hk cn8 c1 (fun j j1 j2 => by obtain ⟨t, q, s1, _⟩ := cs j j1 j2; exact s1) h9 ⟨fun h8 => ok (fun h7 => absurd h8 (by rw [h7]; decide)), fun h8 => wr (Classical.byContradiction fun h7 => h8 (fcs_ok (P := fun v => 0 ≤ v) n 1 (fun j j1 j2 ej => by
      obtain ⟨t, q, s1, s2, s3, s4, _⟩ := cs j j1 (by omega)
      rw [s2]; exact nI_pos' (by omega)) h7))⟩⟩) (fun h9 => ⟨fun _ => wr (by rw [h9]; exact hm1), fun h8 => absurd rfl h8⟩)
  · rcases sv_fn2 _ _ (Nat.le_refl _) _ _ i6 with h9 | h9 <;> omega
  · have c0 : (a_i C A).1 = 20 := c0
    have hq := simple 20 (by omega) (by omega) (by omega) (by omega) (by omega) c0
    rw [c0]; unfold wp_wrong
    simp (config := {decide := true}) only [true_implies, false_implies, not_true_eq_false, not_false_eq_true, and_true, true_and, hq]
set_option maxHeartbeats 4000000 in
theorem r_room (hC : C.length ≤ 120) (h : MIA C T N A) (hck : cok C T A.2.2.2.2.1) (hk : RK N C A s0 S) (hnw : ¬ a_WR C A) (hQ : Q (nI (a_w C A)) S) : wp_roomFor S (a_i C A).1 Q := by
  have hk' := hk
  obtain ⟨k1, k2, k3, k4, k5, k6, k7, k8, k9, k10, k11, k12⟩ := hk'
  have h' := h
  obtain ⟨hm, h40, hz⟩ := h'
  obtain ⟨i1, i2, i3, i4, i5, i6, i7⟩ := hm
  rcases hck with ⟨c0, _⟩ | ⟨v, cv, c0, c1, cn⟩ | ⟨a, ca, ca9, c0, c1, cn⟩ | ⟨c0, cn⟩ | ⟨o, o4, o8, c0, k, ck, cn⟩ | ⟨a, c0, c1, ca, cn⟩ | ⟨a, c0, c1, ca, cn⟩ | ⟨a, c0, c1, cn⟩ | ⟨c0, cf, ck⟩ | ⟨c0, k, ck, cn⟩ | ⟨c0, cn⟩ | ⟨a, e, ce, ca, c0, c1, cn⟩ | ⟨t, ct, ct4, c0, c1, cn⟩ | ⟨t, k, ct, ct4, ck, c0, c1, cn⟩ | ⟨n, cn8, c0, c1, cs⟩ | ⟨c0, c2⟩ | ⟨a, ca0, ca, c0, c1, c2, cn⟩
  · have c0 : (a_i C A).1 = 0 := c0
    have e : a_w C A = 0 := by unfold a_w wmf; rw [c0]; rfl
    rw [e] at hQ
    have hQ : Q 0 S := hQ
    rw [c0]; unfold wp_roomFor
    simp (config := {decide := true}) only [true_implies, false_implies, not_true_eq_false, not_false_eq_true, and_true, true_and]
    exact hQ
  · have c0 : (a_i C A).1 = 1 := c0
    have e : a_w C A = 0 := by unfold a_w wmf; rw [c0]; rfl
    rw [e] at hQ
    have hQ : Q 0 S := hQ
    rw [c0]; unfold wp_roomFor
    simp (config := {decide := true}) only [true_implies, false_implies, not_true_eq_false, not_false_eq_true, and_true, true_and]
    exact hQ
  · have c0 : (a_i C A).1 = 2 := c0
    have e : a_w C A = 0 := by unfold a_w wmf; rw [c0]; rfl
    rw [e] at hQ
    have hQ : Q 0 S := hQ
    rw [c0]; unfold wp_roomFor
    simp (config := {decide := true}) only [true_implies, false_implies, not_true_eq_false, not_false_eq_true, and_true, true_and]
    exact hQ
  · have c0 : (a_i C A).1 = 3 := c0
    have e : a_w C A = 0 := by unfold a_w wmf; rw [c0]; rfl
    rw [e] at hQ
    have hQ : Q 0 S := hQ
    rw [c0]; unfold wp_roomFor
    simp (config := {decide := true}) only [true_implies, false_implies, not_true_eq_false, not_false_eq_true, and_true, true_and]
    exact hQ
  · have c0 : (a_i C A).1 = nI o := c0
    have ho : o = 4 ∨ o = 5 ∨ o = 6 ∨ o = 7 ∨ o = 8 := by omega
    rcases ho with rfl | rfl | rfl | rfl | rfl
    · have c0 : (a_i C A).1 = 4 := c0
      have e : a_w C A = 0 := by unfold a_w wmf; rw [c0]; rfl
      rw [e] at hQ
      have hQ : Q 0 S := hQ
      rw [c0]; unfold wp_roomFor
      simp (config := {decide := true}) only [true_implies, false_implies, not_true_eq_false, not_false_eq_true, and_true, true_and]
      exact hQ
    · have c0 : (a_i C A).1 = 5 := c0
      have e : a_w C A = 0 := by unfold a_w wmf; rw [c0]; rfl
      rw [e] at hQ
      have hQ : Q 0 S := hQ
      rw [c0]; unfold wp_roomFor
      simp (config := {decide := true}) only [true_implies, false_implies, not_true_eq_false, not_false_eq_true, and_true, true_and]
      exact hQ
    · have c0 : (a_i C A).1 = 6 := c0
      have e : a_w C A = 0 := by unfold a_w wmf; rw [c0]; rfl
      rw [e] at hQ
      have hQ : Q 0 S := hQ
      rw [c0]; unfold wp_roomFor
      simp (config := {decide := true}) only [true_implies, false_implies, not_true_eq_false, not_false_eq_true, and_true, true_and]
      exact hQ
    · have c0 : (a_i C A).1 = 7 := c0
      have e : a_w C A = 0 := by unfold a_w wmf; rw [c0]; rfl
      rw [e] at hQ
      have hQ : Q 0 S := hQ
      rw [c0]; unfold wp_roomFor
      simp (config := {decide := true}) only [true_implies, false_implies, not_true_eq_false, not_false_eq_true, and_true, true_and]
      exact hQ
    · have c0 : (a_i C A).1 = 8 := c0
      have e : a_w C A = 0 := by unfold a_w wmf; rw [c0]; rfl
      rw [e] at hQ
      have hQ : Q 0 S := hQ
      rw [c0]; unfold wp_roomFor
      simp (config := {decide := true}) only [true_implies, false_implies, not_true_eq_false, not_false_eq_true, and_true, true_and]
      exact hQ
  · have c0 : (a_i C A).1 = 9 := c0
    have e : a_w C A = 3 := by unfold a_w wmf; rw [c0]; rfl
    rw [e] at hQ
    have hQ : Q 3 S := hQ
    rw [c0]; unfold wp_roomFor
    simp (config := {decide := true}) only [true_implies, false_implies, not_true_eq_false, not_false_eq_true, and_true, true_and]
    exact hQ
  · have c0 : (a_i C A).1 = 10 := c0
    have e : a_w C A = 3 := by unfold a_w wmf; rw [c0]; rfl
    rw [e] at hQ
    have hQ : Q 3 S := hQ
    rw [c0]; unfold wp_roomFor
    simp (config := {decide := true}) only [true_implies, false_implies, not_true_eq_false, not_false_eq_true, and_true, true_and]
    exact hQ
  · have c0 : (a_i C A).1 = 11 := c0
    have e : a_w C A = 0 := by unfold a_w wmf; rw [c0]; rfl
    rw [e] at hQ
    have hQ : Q 0 S := hQ
    rw [c0]; unfold wp_roomFor
    simp (config := {decide := true}) only [true_implies, false_implies, not_true_eq_false, not_false_eq_true, and_true, true_and]
    exact hQ
  · have c0 : (a_i C A).1 = 12 := c0
    have e : a_w C A = 0 := by unfold a_w wmf; rw [c0]; rfl
    rw [e] at hQ
    have hQ : Q 0 S := hQ
    rw [c0]; unfold wp_roomFor
    simp (config := {decide := true}) only [true_implies, false_implies, not_true_eq_false, not_false_eq_true, and_true, true_and]
    exact hQ
  · have c0 : (a_i C A).1 = 13 := c0
    have e : a_w C A = if knd A.1 A.2.1 = 9 then 6 else 3 := by unfold a_w wmf; rw [c0]; rfl
    rw [e] at hQ
    have hfn : fnw A.1 A.2.1 := Classical.byContradiction fun h9 => hnw (Or.inr (Or.inl ⟨c0, h9⟩))
    have hp : ∃ (p : Nat) (b : hb_T), A.2.1 = .inr p ∧ bk A.1 p = some b := by
      rcases hfn with h9 | h9
      · obtain ⟨p, b, e1, e2, _⟩ := knd_some (by omega) h9; exact ⟨p, b, e1, e2⟩
      · obtain ⟨p, b, e1, e2, _⟩ := knd_some (by omega) h9; exact ⟨p, b, e1, e2⟩
    obtain ⟨p, b, e1, e2⟩ := hp
    have ek : knd A.1 A.2.1 = b.1 := by rw [e1]; simp only [knd, e2]
    have hb16 := (i1 b (bk_lt e2).2).1
    rw [c0]; unfold wp_roomFor
    simp (config := {decide := true}) only [true_implies, false_implies, not_true_eq_false, not_false_eq_true, and_true, true_and]
    rw [k6, e1]
    refine rh_k k11 e2 ⟨fun h9 => ?_, fun h9 => ?_⟩
    · rw [if_neg (fun h8 => h9 (by rw [← ek, h8]; rfl))] at hQ; exact hQ
    · rw [if_pos (by rw [ek]; exact (nI_eq (b := 9) (by omega) (by omega)).mp h9)] at hQ; exact hQ
  · have c0 : (a_i C A).1 = 14 := c0
    have e : a_w C A = 3 := by unfold a_w wmf; rw [c0]; rfl
    rw [e] at hQ
    have hQ : Q 3 S := hQ
    rw [c0]; unfold wp_roomFor
    simp (config := {decide := true}) only [true_implies, false_implies, not_true_eq_false, not_false_eq_true, and_true, true_and]
    exact hQ
  · have c0 : (a_i C A).1 = 15 := c0
    have e : a_w C A = 0 := by unfold a_w wmf; rw [c0]; rfl
    rw [e] at hQ
    have hQ : Q 0 S := hQ
    rw [c0]; unfold wp_roomFor
    simp (config := {decide := true}) only [true_implies, false_implies, not_true_eq_false, not_false_eq_true, and_true, true_and]
    exact hQ
  · have c0 : (a_i C A).1 = 16 := c0
    have e : a_w C A = 0 := by unfold a_w wmf; rw [c0]; rfl
    rw [e] at hQ
    have hQ : Q 0 S := hQ
    rw [c0]; unfold wp_roomFor
    simp (config := {decide := true}) only [true_implies, false_implies, not_true_eq_false, not_false_eq_true, and_true, true_and]
    exact hQ
  · have c0 : (a_i C A).1 = 17 := c0
    have c1 : (a_i C A).2.1 = nI t := c1
    have e : a_w C A = 1 + t % 4 := by unfold a_w wmf; rw [c0, c1, nI_clamp (by omega)]; rfl
    rw [e] at hQ
    rw [c0]; unfold wp_roomFor
    simp (config := {decide := true}) only [true_implies, false_implies, not_true_eq_false, not_false_eq_true, and_true, true_and]
    refine rq_a hC hk i4 ?_
    rw [c1, nI_m4 ct, show (1 : Int32) + nI (t % 4) = nI (1 + t % 4) from nI_add 1 _]; exact hQ
  · have c0 : (a_i C A).1 = 18 := c0
    have e : a_w C A = 0 := by unfold a_w wmf; rw [c0]; rfl
    rw [e] at hQ
    have hQ : Q 0 S := hQ
    rw [c0]; unfold wp_roomFor
    simp (config := {decide := true}) only [true_implies, false_implies, not_true_eq_false, not_false_eq_true, and_true, true_and]
    exact hQ
  · rcases sv_fn2 _ _ (Nat.le_refl _) _ _ i6 with h9 | h9 <;> omega
  · have c0 : (a_i C A).1 = 20 := c0
    have c1 : (a_i C A).2.1 = nI a := c1
    have e : a_w C A = 3 * a := by unfold a_w wmf; rw [c0, c1, nI_clamp (by omega)]; rfl
    rw [e] at hQ
    rw [c0]; unfold wp_roomFor
    simp (config := {decide := true}) only [true_implies, false_implies, not_true_eq_false, not_false_eq_true, and_true, true_and]
    refine rq_a hC hk i4 ?_
    rw [c1, nI_m3]; exact hQ
/-- room, with a collection where it is wanting -/
theorem r_has {w : Nat} (hN : N ≤ 200) (hN0 : 0 < N) (hw : w < 1000) (h : MIA C T N A) (hk : RK N C A s0 S) (hQ : ∀ (A1 : am_T) (s1 : Nat) (S' : rm_S), GS N w A A1 → RK N C A1 s1 S' → rg S S' → S'.1 54 = S.1 54 → S'.1 55 = S.1 55 → Q (if hsz A1.1 + w ≤ N then 1 else 0) S') : wp_hasRoom S (nI w) Q := by
  have hk' := hk
  obtain ⟨k1, k2, k3, k4, k5, k6, k7, k8, k9, k10, k11, k12⟩ := hk'
  have hz := h.2.2
  unfold wp_hasRoom
  rw [k4, k1, nI_add]
  refine ⟨fun h9 => ?_, fun h9 => ?_⟩
  · have hf := (nI_leI (by omega) (by omega)).mp h9
    refine ⟨fun h8 => absurd h8 (nI_nlt hf (by omega)), fun _ => ?_⟩
    have := hQ A s0 S (Or.inl ⟨hf, rfl⟩) hk rg.rf rfl rfl
    rw [if_pos hf] at this; exact this
  · have hf : N < hsz A.1 + w := Nat.lt_of_not_le (fun h8 => h9 (nI_le h8 (by omega)))
    refine r_coll hN hN0 h hk (fun d S' q1 q2 q3 q4 => ?_)
    have q1' := q1
    obtain ⟨j1, j2, j3, j4, _⟩ := q1'
    have := hQ (ag_A N A) d S' (Or.inr ⟨hf, rfl⟩) q1 q2 q3 q4
    have hle := (mia_gc h).1.2.2
    rw [j1, j4, nI_add]
    refine ⟨fun h8 => ?_, fun h8 => ?_⟩
    · have := (nI_ltI (by omega) (by omega)).mp h8
      rw [if_neg (by omega)] at *; assumption
    · have h7 : hsz (ag_A N A).1 + w ≤ N := Nat.le_of_not_lt (fun h6 => h8 (nI_lt h6 (by omega)))
      rw [if_pos h7] at this; exact this
end RZ
