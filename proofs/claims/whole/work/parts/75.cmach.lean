/-! THE CLASS'S MACHINE in its place -/
def CN (pa sk a b c : Nat) : Prop := a ≠ b ∧ a ≠ c ∧ b ≠ c ∧ sk ≠ a ∧ sk ≠ b ∧ sk ≠ c ∧ pa ≠ a ∧ pa ≠ b ∧ pa ≠ c ∧ pa ≠ sk
def CK (m pg pa o sk a b c N : Nat) (f g mv sf pf : Nat → Int32) (cp9 : Int32) (C : List fr_C) (A : am_T) (hl rs : Int32) (G : cj_G) : Prop :=
  G m = some (.inr (2, [.ref pg, .ref o, .ref sk, .int (nI A.2.2.2.1.length), .int (cw 0 A.2.1), .int (cw 0 A.2.2.1), .int (nI A.2.2.2.2.1), .int hl, .int rs])) ∧ G o = some (.inr (1, [.ref a, .ref b, .ref c, .int (nI (hsz A.1)), .int cp9, .int A.2.2.2.2.2])) ∧ G a = some (.inl (0, N, .inl f)) ∧ G b = some (.inl (0, N, .inl g)) ∧ G c = some (.inl (0, N, .inl mv)) ∧ G sk = some (.inl (0, 40, .inl sf)) ∧ G pg = some (.inr (0, [.ref pa, .int (nI C.length)])) ∧ G pa = some (.inl (0, 360, .inl pf)) ∧ hc f (hsz A.1) A.1 ∧ skr 0 sf A.2.2.2.1 ∧ cd_l pf C ∧ CN pa sk a b c
theorem skr_top {s0 : Nat} {sf : Nat → Int32} {x : aw_T} {st : List aw_T} (h : skr s0 sf (x :: st)) : sf st.length = cw s0 x := by
  refine h st.length x ?_
  rw [List.reverse_cons, List.getElem?_append_right (by rw [List.length_reverse]; exact Nat.le_refl _), List.length_reverse, Nat.sub_self]; rfl
theorem skr_pop {s0 : Nat} {sf : Nat → Int32} {x : aw_T} {st : List aw_T} (h : skr s0 sf (x :: st)) : skr s0 sf st := fun c y hc => h c y (by
  rw [List.reverse_cons, List.getElem?_append_left (List.getElem?_eq_some_iff.mp hc).1]; exact hc)
theorem skr_push {s0 : Nat} {sf : Nat → Int32} {x : aw_T} {st : List aw_T} (h : skr s0 sf st) : skr s0 (upd sf st.length (cw s0 x)) (x :: st) := fun c y hc => by
  rw [List.reverse_cons] at hc
  by_cases hl : c < st.length
  · rw [List.getElem?_append_left (by rw [List.length_reverse]; exact hl)] at hc
    rw [upd_n (by omega)]; exact h c y hc
  · have hl2 := (List.getElem?_eq_some_iff.mp hc).1
    rw [List.length_append, List.length_reverse] at hl2
    have hl2 : c < st.length + 1 := hl2
    have e : c = st.length := by omega
    subst e
    rw [List.getElem?_append_right (by rw [List.length_reverse]; exact Nat.le_refl _), List.length_reverse, Nat.sub_self] at hc
    have e : x = y := Option.some.inj hc
    rw [upd_s, e]
theorem aod_iff {bs : List hb_T} {x : aw_T} {s0 : Nat} (h : wv bs x) (hz : hsz bs + s0 ≤ 400) : aod x ↔ cw s0 x &&& 1 = 1 := by
  cases x with
  | inl w =>
    refine ⟨fun ⟨w', e, hw⟩ => ?_, fun hw => ⟨w, rfl, hw⟩⟩
    have e : w = w' := Sum.inl.inj e
    subst e; exact hw
  | inr p =>
    obtain ⟨b, hb⟩ := h
    have := (bk_lt hb).1
    refine ⟨fun ⟨w', e, hw⟩ => (by cases e), fun hw => ?_⟩
    have hw : nI (4 * (p + s0)) &&& 1 = 1 := hw
    rw [ptr_odd _ (by omega)] at hw
    exact absurd hw (by decide)
theorem no_WR {C : List fr_C} {bs : List hb_T} {acc : aw_T} {st : List aw_T} {pc k : Nat} (hk : k < 21) (h : (C.getD pc z3).1 = nI k) (h1 : k < 4 ∨ 8 < k) (h2 : k ≠ 13) (h3 : k ≠ 18) : ¬ WR C bs acc st pc := by
  rintro (⟨o, x, st', o4, o8, e, _⟩ | ⟨e, _⟩ | ⟨n, _, e, _⟩)
  · rw [h] at e
    have := (nI_eq (by omega) (by omega)).mp e
    omega
  · rw [h] at e
    have := (nI_eq (b := 13) (by omega) (by omega)).mp e
    omega
  · rw [h] at e
    have := (nI_eq (b := 18) (by omega) (by omega)).mp e
    omega
section CH
variable {f : Nat → Int32} {t : Nat} {bs : List hb_T} {x : aw_T}
theorem ch_bk (h : hc f t bs) (hx : wv bs x) : hp_bk f (nI t) (cw 0 x) = (match x with | .inl _ => (-1 : Int32) | .inr _ => nI (knd bs x)) := by
  cases x with
  | inl w => exact (hc_bk_np hx).1
  | inr p =>
    obtain ⟨b, hb⟩ := hx
    have := (hc_bk h hb).1
    show hp_bk f (nI t) (nI (4 * p)) = nI (knd bs (.inr p))
    rw [this]; simp only [knd, hb]
theorem ch_kd (h : hc f t bs) (hx : wv bs x) {k : Nat} (hk : k < 16) : hp_bk f (nI t) (cw 0 x) = nI k ↔ knd bs x = k := by
  rw [ch_bk h hx]
  cases x with
  | inl w => exact ⟨fun e => absurd e (m1_ne (by omega)), fun e => absurd e (by show ¬ 99 = k; omega)⟩
  | inr p =>
    obtain ⟨b, hb⟩ := hx
    have hbv := (h.2.2.1 b (bk_lt hb).2).1
    have e : knd bs (.inr p) = b.1 := by simp only [knd, hb]
    show nI (knd bs (.inr p)) = nI k ↔ _
    rw [e]
    exact nI_eq (by omega) (by omega)
theorem ch_fn (h : hc f t bs) (hx : wv bs x) : hp_fnb f (nI t) (cw 0 x) = true ↔ fnw bs x := by
  unfold hp_fnb fnw
  rw [Bool.or_eq_true, decide_eq_true_eq, decide_eq_true_eq]
  exact or_congr (ch_kd h hx (k := 8) (by omega)) (ch_kd h hx (k := 9) (by omega))
theorem ch_co (h : hc f t bs) (hx : wv bs x) : hp_co f (nI t) (cw 0 x) = co bs x := by
  unfold hp_co
  cases x with
  | inl w =>
    show (if w &&& 3 = 2 then w >>> (2 &&& 31) else if hp_bk f (nI t) w < 8 then hp_bk f (nI t) w else -1) = (if w &&& 3 = 2 then w >>> ((2 : Int32) &&& 31) else -1)
    rw [(hc_bk_np hx).1, if_pos (show (-1 : Int32) < 8 by decide)]
  | inr p =>
    obtain ⟨b, hb⟩ := hx
    have hlt := (bk_lt hb).1
    have h1 := h.2.1
    have h2 := h.2.2.2
    have hbv := (h.2.2.1 b (bk_lt hb).2).1
    show (if nI (4 * p) &&& 3 = 2 then nI (4 * p) >>> (2 &&& 31) else if hp_bk f (nI t) (nI (4 * p)) < 8 then hp_bk f (nI t) (nI (4 * p)) else -1) = co bs (.inr p)
    rw [ptr_and p (by omega), if_neg (by decide), (hc_bk h hb).1]
    simp only [co, hb]
    by_cases b8 : b.1 < 8
    · rw [if_pos b8, if_pos (show nI b.1 < 8 from nI_lt (b := 8) b8 (by omega))]
    · rw [if_neg b8, if_neg (show ¬ nI b.1 < 8 from nI_nlt (b := 8) (by omega) (by omega))]
/-- along the environment -/
theorem ch_fo (h : hc f t bs) : ∀ (a e : Nat) (w : aw_T), ev bs (e + a) w → mc_fo f t a (cw 0 w) = cw 0 (ax bs a w) := by
  intro a
  induction a with
  | zero => intro e w _; rfl
  | succ a ih =>
    intro e w hv
    obtain ⟨p, y, w', rfl, h2, h3⟩ := hv
    show mc_fo f t a (hp_wo f (nI t) (nI (4 * p)) 2) = cw 0 (ax bs (a + 1) (.inr p))
    have hw := hc_wo (k := 1) h h2 (by show 1 < 2; omega)
    have hw : hp_wo f (nI t) (nI (4 * p)) 2 = cw 0 w' := hw
    rw [hw]
    have e1 : ax bs (a + 1) (.inr p) = ax bs a w' := by
      simp only [ax, h2]; rfl
    rw [e1]
    exact ih e w' h3
end CH
theorem cd_part {pf : Nat → Int32} {C : List fr_C} {i : Nat} (h : cd_l pf C) (hC : C.length ≤ 120) (hi : i < C.length) : mc_part pf C.length (nI i) 0 = (C.getD i z3).1 ∧ mc_part pf C.length (nI i) 1 = (C.getD i z3).2.1 ∧ mc_part pf C.length (nI i) 2 = (C.getD i z3).2.2 := by
  obtain ⟨h0, h1, h2⟩ := h i hi (by omega)
  exact ⟨(mc_partN (j := 0) hi (by omega) hC).trans h0, (mc_partN (j := 1) hi (by omega) hC).trans h1, (mc_partN (j := 2) hi (by omega) hC).trans h2⟩
/-- the case's place -/
theorem ch_pc {pf : Nat → Int32} {C : List fr_C} {pc : Nat} {tag : Int32} (h : cd_l pf C) (hC : C.length ≤ 120) : ∀ (r i : Nat), (∀ j, i ≤ j → j < i + r → pc + j < C.length ∧ ¬ (C.getD (pc + j) z3).2.1 = -1) → mc_pc pf C.length (nI pc) tag r i = fcs C pc tag r i := by
  intro r
  induction r with
  | zero => intro i _; rfl
  | succ r ih =>
    intro i hh
    obtain ⟨h1, h2⟩ := hh i (Nat.le_refl _) (by omega)
    obtain ⟨_, p1, p2⟩ := cd_part h hC h1
    show (if tag = -1 then -1 else if mc_part pf C.length (nI pc + nI i) 1 = tag then mc_part pf C.length (nI pc + nI i) 2 else mc_pc pf C.length (nI pc) tag r (i + 1)) = (if (C.getD (pc + i) z3).2.1 = tag then (C.getD (pc + i) z3).2.2 else fcs C pc tag r (i + 1))
    rw [nI_add, p1, p2]
    have hi := ih (i + 1) (fun j j1 j2 => hh j (by omega) (by omega))
    by_cases e : tag = -1
    · rw [if_pos e, if_neg (by rw [e]; exact h2), ← hi]
      cases r with
      | zero => rfl
      | succ r => show -1 = (if tag = -1 then -1 else _); rw [if_pos e]
    · rw [if_neg e, hi]
section CW
variable {m pg pa o sk a b c N : Nat} {f g mv sf pf : Nat → Int32} {cp9 hl rs : Int32} {C : List fr_C} {T : Nat → lb_T} {A : am_T} {G : cj_G}
set_option maxHeartbeats 4000000 in
/-- what the class calls wrong, and the words that it wants -/
theorem cl_wrong (hN : N ≤ 200) (hC : C.length ≤ 120) (h : MIA C T N A) (hck : cok C T A.2.2.2.2.1) (hk : CK m pg pa o sk a b c N f g mv sf pf cp9 C A hl rs G) : (∃ wr : Int32, cj_T mX2_isWrong 4 0 0 [.ref m, .int (a_i C A).1, .int (a_i C A).2.1] G (cj_rd G wr) cj_no ∧ (wr = 0 ↔ ¬ a_WR C A)) ∧ cj_T mX2_wordsMade 2 0 0 [.ref m, .int (a_i C A).1, .int (a_i C A).2.1] G (cj_rd G (nI (a_w C A))) cj_no ∧ a_w C A < 1000 := by
  obtain ⟨k1, k2, k3, k4, k5, k6, k7, k8, k9, k10, k11, n1, n2, n3, n4, n5, n6, n7, n8, n9, n10⟩ := hk
  obtain ⟨h1, h2, h3⟩ := h
  obtain ⟨i1, i2, i3, i4, i5, i6, i7⟩ := h1
  have simple : ∀ k : Nat, k < 21 → (k < 4 ∨ 8 < k) → k ≠ 13 → k ≠ 18 → (a_i C A).1 = nI k → ((0 : Int32) = 0 ↔ ¬ a_WR C A) := fun k q1 q2 q3 q4 q5 => ⟨fun _ => no_WR q1 q5 q2 q3 q4, fun _ => rfl⟩
  have w0 : ∀ k : Nat, k < 21 → k ≠ 9 → k ≠ 10 → k ≠ 14 → k ≠ 13 → k ≠ 17 → k ≠ 20 → (a_i C A).1 = nI k → a_w C A = 0 := fun k q1 q2 q3 q4 q5 q6 q7 q8 => by
    have hne : ∀ j : Nat, j < 21 → k ≠ j → ¬ (a_i C A).1 = nI j := fun j j1 j2 e => j2 ((nI_eq (by omega) (by omega)).mp (q8.symm.trans e))
    unfold a_w wmf
    rw [if_neg (by rintro (e | e | e); exact hne 9 (by omega) q2 e; exact hne 10 (by omega) q3 e; exact hne 14 (by omega) q4 e), if_neg (show ¬ (a_i C A).1 = 13 from hne 13 (by omega) q5), if_neg (show ¬ (a_i C A).1 = 17 from hne 17 (by omega) q6), if_neg (show ¬ (a_i C A).1 = 20 from hne 20 (by omega) q7)]
  rcases hck with ⟨c0, _⟩ | ⟨v, cv, c0, c1, cn⟩ | ⟨a, ca, ca9, c0, c1, cn⟩ | ⟨c0, cn⟩ | ⟨o, o4, o8, c0, k, ck, cn⟩ | ⟨a, c0, c1, ca, cn⟩ | ⟨a, c0, c1, ca, cn⟩ | ⟨a, c0, c1, cn⟩ | ⟨c0, cf, ck⟩ | ⟨c0, k, ck, cn⟩ | ⟨c0, cn⟩ | ⟨a, e, ce, ca, c0, c1, cn⟩ | ⟨t, ct, ct4, c0, c1, cn⟩ | ⟨t, k, ct, ct4, ck, c0, c1, cn⟩ | ⟨n, cn8, c0, c1, cs⟩ | ⟨c0, c2⟩ | ⟨a, ca0, ca, c0, c1, c2, cn⟩
  · have c0 : (a_i C A).1 = 0 := c0
    rw [c0, w0 0 (by omega) (by omega) (by omega) (by omega) (by omega) (by omega) (by omega) c0]
    exact ⟨⟨0, t_isWrong_0 (q := 0) (k_m := k1) (k_sk := k6) (k_o := k2) (k_a := k3) (hN := hN) (k_pg := k7) (k_pa := k8) (hln := hC) (n_sk_a := n4) (n_pa_a := n7) (n_pa_sk := n10) (hht := h2) (ht9 := h3) (hq := by omega), simple 0 (by omega) (by omega) (by omega) (by omega) c0⟩, t_wordsMade_0 (q := 0) (k_m := k1) (k_sk := k6) (k_o := k2) (k_a := k3) (hN := hN) (k_pg := k7) (k_pa := k8) (hln := hC) (n_sk_a := n4) (n_pa_a := n7) (n_pa_sk := n10) (hht := h2) (ht9 := h3) (hq := by omega), by omega⟩
  · have c0 : (a_i C A).1 = 1 := c0
    rw [c0, w0 1 (by omega) (by omega) (by omega) (by omega) (by omega) (by omega) (by omega) c0]
    exact ⟨⟨0, t_isWrong_1 (q := 0) (k_m := k1) (k_sk := k6) (k_o := k2) (k_a := k3) (hN := hN) (k_pg := k7) (k_pa := k8) (hln := hC) (n_sk_a := n4) (n_pa_a := n7) (n_pa_sk := n10) (hht := h2) (ht9 := h3) (hq := by omega), simple 1 (by omega) (by omega) (by omega) (by omega) c0⟩, t_wordsMade_1 (q := 0) (k_m := k1) (k_sk := k6) (k_o := k2) (k_a := k3) (hN := hN) (k_pg := k7) (k_pa := k8) (hln := hC) (n_sk_a := n4) (n_pa_a := n7) (n_pa_sk := n10) (hht := h2) (ht9 := h3) (hq := by omega), by omega⟩
  · have c0 : (a_i C A).1 = 2 := c0
    rw [c0, w0 2 (by omega) (by omega) (by omega) (by omega) (by omega) (by omega) (by omega) c0]
    exact ⟨⟨0, t_isWrong_2 (q := 0) (k_m := k1) (k_sk := k6) (k_o := k2) (k_a := k3) (hN := hN) (k_pg := k7) (k_pa := k8) (hln := hC) (n_sk_a := n4) (n_pa_a := n7) (n_pa_sk := n10) (hht := h2) (ht9 := h3) (hq := by omega), simple 2 (by omega) (by omega) (by omega) (by omega) c0⟩, t_wordsMade_2 (q := 0) (k_m := k1) (k_sk := k6) (k_o := k2) (k_a := k3) (hN := hN) (k_pg := k7) (k_pa := k8) (hln := hC) (n_sk_a := n4) (n_pa_a := n7) (n_pa_sk := n10) (hht := h2) (ht9 := h3) (hq := by omega), by omega⟩
  · have c0 : (a_i C A).1 = 3 := c0
    rw [c0, w0 3 (by omega) (by omega) (by omega) (by omega) (by omega) (by omega) (by omega) c0]
    exact ⟨⟨0, t_isWrong_3 (q := 0) (k_m := k1) (k_sk := k6) (k_o := k2) (k_a := k3) (hN := hN) (k_pg := k7) (k_pa := k8) (hln := hC) (n_sk_a := n4) (n_pa_a := n7) (n_pa_sk := n10) (hht := h2) (ht9 := h3) (hq := by omega), simple 3 (by omega) (by omega) (by omega) (by omega) c0⟩, t_wordsMade_3 (q := 0) (k_m := k1) (k_sk := k6) (k_o := k2) (k_a := k3) (hN := hN) (k_pg := k7) (k_pa := k8) (hln := hC) (n_sk_a := n4) (n_pa_a := n7) (n_pa_sk := n10) (hht := h2) (ht9 := h3) (hq := by omega), by omega⟩
  · rw [ck] at i6
    obtain ⟨w, st', est, hw1, i6'⟩ := sv_pop i6
    have htop : mc_top sf A.2.2.2.1.length = cw 0 w := by
      rw [est] at k10 ⊢
      show (if st'.length + 1 = 0 then -4 else sf (st'.length + 1 - 1)) = _
      rw [if_neg (by omega), Nat.add_sub_cancel]; exact skr_top k10
    have hz := k9.2.2.2
    have hiff : ch_b (¬ mc_top sf A.2.2.2.1.length &&& 1 = 1 ∨ ¬ cw 0 A.2.1 &&& 1 = 1) = 0 ↔ ¬ a_WR C A := by
      rw [ch_b0, htop, ← aod_iff hw1 (by omega), ← aod_iff i3 (by omega)]
      constructor
      · rintro h9 (⟨o', x, st2, _, _, _, e2, e3⟩ | ⟨e, _⟩ | ⟨n, _, e, _⟩)
        · rw [est] at e2
          have ex : w = x := (List.cons.inj e2).1
          subst ex
          exact h9 (Classical.byContradiction fun h8 => e3 ⟨Classical.byContradiction fun h7 => h8 (Or.inl h7), Classical.byContradiction fun h7 => h8 (Or.inr h7)⟩)
        · have := (nI_eq (b := 13) (by omega) (by omega)).mp (c0.symm.trans e); omega
        · have := (nI_eq (b := 18) (by omega) (by omega)).mp (c0.symm.trans e); omega
      · intro h9 h8
        exact h9 (Or.inl ⟨o, w, st', o4, o8, c0, est, fun h7 => by rcases h8 with h8 | h8; exact h8 h7.1; exact h8 h7.2⟩)
    have c0 : (a_i C A).1 = nI o := c0
    have ew := w0 o (by omega) (by omega) (by omega) (by omega) (by omega) (by omega) (by omega) c0
    rw [c0, ew]
    have ho : o = 4 ∨ o = 5 ∨ o = 6 ∨ o = 7 ∨ o = 8 := by omega
    rcases ho with rfl | rfl | rfl | rfl | rfl
    · exact ⟨⟨_, t_isWrong_4 (q := 0) (k_m := k1) (k_sk := k6) (k_o := k2) (k_a := k3) (hN := hN) (k_pg := k7) (k_pa := k8) (hln := hC) (n_sk_a := n4) (n_pa_a := n7) (n_pa_sk := n10) (hht := h2) (ht9 := h3) (hq := by omega), hiff⟩, t_wordsMade_4 (q := 0) (k_m := k1) (k_sk := k6) (k_o := k2) (k_a := k3) (hN := hN) (k_pg := k7) (k_pa := k8) (hln := hC) (n_sk_a := n4) (n_pa_a := n7) (n_pa_sk := n10) (hht := h2) (ht9 := h3) (hq := by omega), by omega⟩
    · exact ⟨⟨_, t_isWrong_5 (q := 0) (k_m := k1) (k_sk := k6) (k_o := k2) (k_a := k3) (hN := hN) (k_pg := k7) (k_pa := k8) (hln := hC) (n_sk_a := n4) (n_pa_a := n7) (n_pa_sk := n10) (hht := h2) (ht9 := h3) (hq := by omega), hiff⟩, t_wordsMade_5 (q := 0) (k_m := k1) (k_sk := k6) (k_o := k2) (k_a := k3) (hN := hN) (k_pg := k7) (k_pa := k8) (hln := hC) (n_sk_a := n4) (n_pa_a := n7) (n_pa_sk := n10) (hht := h2) (ht9 := h3) (hq := by omega), by omega⟩
    · exact ⟨⟨_, t_isWrong_6 (q := 0) (k_m := k1) (k_sk := k6) (k_o := k2) (k_a := k3) (hN := hN) (k_pg := k7) (k_pa := k8) (hln := hC) (n_sk_a := n4) (n_pa_a := n7) (n_pa_sk := n10) (hht := h2) (ht9 := h3) (hq := by omega), hiff⟩, t_wordsMade_6 (q := 0) (k_m := k1) (k_sk := k6) (k_o := k2) (k_a := k3) (hN := hN) (k_pg := k7) (k_pa := k8) (hln := hC) (n_sk_a := n4) (n_pa_a := n7) (n_pa_sk := n10) (hht := h2) (ht9 := h3) (hq := by omega), by omega⟩
    · exact ⟨⟨_, t_isWrong_7 (q := 0) (k_m := k1) (k_sk := k6) (k_o := k2) (k_a := k3) (hN := hN) (k_pg := k7) (k_pa := k8) (hln := hC) (n_sk_a := n4) (n_pa_a := n7) (n_pa_sk := n10) (hht := h2) (ht9 := h3) (hq := by omega), hiff⟩, t_wordsMade_7 (q := 0) (k_m := k1) (k_sk := k6) (k_o := k2) (k_a := k3) (hN := hN) (k_pg := k7) (k_pa := k8) (hln := hC) (n_sk_a := n4) (n_pa_a := n7) (n_pa_sk := n10) (hht := h2) (ht9 := h3) (hq := by omega), by omega⟩
    · exact ⟨⟨_, t_isWrong_8 (q := 0) (k_m := k1) (k_sk := k6) (k_o := k2) (k_a := k3) (hN := hN) (k_pg := k7) (k_pa := k8) (hln := hC) (n_sk_a := n4) (n_pa_a := n7) (n_pa_sk := n10) (hht := h2) (ht9 := h3) (hq := by omega), hiff⟩, t_wordsMade_8 (q := 0) (k_m := k1) (k_sk := k6) (k_o := k2) (k_a := k3) (hN := hN) (k_pg := k7) (k_pa := k8) (hln := hC) (n_sk_a := n4) (n_pa_a := n7) (n_pa_sk := n10) (hht := h2) (ht9 := h3) (hq := by omega), by omega⟩
  · have c0 : (a_i C A).1 = 9 := c0
    have e : a_w C A = 3 := by unfold a_w wmf; rw [if_pos (Or.inl c0)]
    rw [c0, e]
    exact ⟨⟨0, t_isWrong_9 (q := 0) (k_m := k1) (k_sk := k6) (k_o := k2) (k_a := k3) (hN := hN) (k_pg := k7) (k_pa := k8) (hln := hC) (n_sk_a := n4) (n_pa_a := n7) (n_pa_sk := n10) (hht := h2) (ht9 := h3) (hq := by omega), simple 9 (by omega) (by omega) (by omega) (by omega) c0⟩, t_wordsMade_9 (q := 0) (k_m := k1) (k_sk := k6) (k_o := k2) (k_a := k3) (hN := hN) (k_pg := k7) (k_pa := k8) (hln := hC) (n_sk_a := n4) (n_pa_a := n7) (n_pa_sk := n10) (hht := h2) (ht9 := h3) (hq := by omega), by omega⟩
  · have c0 : (a_i C A).1 = 10 := c0
    have e : a_w C A = 3 := by unfold a_w wmf; rw [if_pos (Or.inr (Or.inl c0))]
    rw [c0, e]
    exact ⟨⟨0, t_isWrong_10 (q := 0) (k_m := k1) (k_sk := k6) (k_o := k2) (k_a := k3) (hN := hN) (k_pg := k7) (k_pa := k8) (hln := hC) (n_sk_a := n4) (n_pa_a := n7) (n_pa_sk := n10) (hht := h2) (ht9 := h3) (hq := by omega), simple 10 (by omega) (by omega) (by omega) (by omega) c0⟩, t_wordsMade_10 (q := 0) (k_m := k1) (k_sk := k6) (k_o := k2) (k_a := k3) (hN := hN) (k_pg := k7) (k_pa := k8) (hln := hC) (n_sk_a := n4) (n_pa_a := n7) (n_pa_sk := n10) (hht := h2) (ht9 := h3) (hq := by omega), by omega⟩
  · have c0 : (a_i C A).1 = 11 := c0
    rw [c0, w0 11 (by omega) (by omega) (by omega) (by omega) (by omega) (by omega) (by omega) c0]
    exact ⟨⟨0, t_isWrong_11 (q := 0) (k_m := k1) (k_sk := k6) (k_o := k2) (k_a := k3) (hN := hN) (k_pg := k7) (k_pa := k8) (hln := hC) (n_sk_a := n4) (n_pa_a := n7) (n_pa_sk := n10) (hht := h2) (ht9 := h3) (hq := by omega), simple 11 (by omega) (by omega) (by omega) (by omega) c0⟩, t_wordsMade_11 (q := 0) (k_m := k1) (k_sk := k6) (k_o := k2) (k_a := k3) (hN := hN) (k_pg := k7) (k_pa := k8) (hln := hC) (n_sk_a := n4) (n_pa_a := n7) (n_pa_sk := n10) (hht := h2) (ht9 := h3) (hq := by omega), by omega⟩
  · have c0 : (a_i C A).1 = 12 := c0
    rw [c0, w0 12 (by omega) (by omega) (by omega) (by omega) (by omega) (by omega) (by omega) c0]
    exact ⟨⟨0, t_isWrong_12 (q := 0) (k_m := k1) (k_sk := k6) (k_o := k2) (k_a := k3) (hN := hN) (k_pg := k7) (k_pa := k8) (hln := hC) (n_sk_a := n4) (n_pa_a := n7) (n_pa_sk := n10) (hht := h2) (ht9 := h3) (hq := by omega), simple 12 (by omega) (by omega) (by omega) (by omega) c0⟩, t_wordsMade_12 (q := 0) (k_m := k1) (k_sk := k6) (k_o := k2) (k_a := k3) (hN := hN) (k_pg := k7) (k_pa := k8) (hln := hC) (n_sk_a := n4) (n_pa_a := n7) (n_pa_sk := n10) (hht := h2) (ht9 := h3) (hq := by omega), by omega⟩
  · have c0 : (a_i C A).1 = 13 := c0
    have e : a_w C A = if knd A.1 A.2.1 = 9 then 6 else 3 := by unfold a_w wmf; rw [c0]; rfl
    rw [c0]
    refine ⟨⟨_, t_isWrong_13 (q := 0) (k_m := k1) (k_sk := k6) (k_o := k2) (k_a := k3) (hN := hN) (k_pg := k7) (k_pa := k8) (hln := hC) (n_sk_a := n4) (n_pa_a := n7) (n_pa_sk := n10) (hht := h2) (ht9 := h3) (hq := by omega), ?_⟩, ?_, by rw [e]; split <;> omega⟩
    · rw [ch_b0, ch_fn k9 i3]
      constructor
      · rintro h9 (⟨o', x, st2, _, _, e1, _⟩ | ⟨_, e2⟩ | ⟨n, _, e1, _⟩)
        · have := (nI_eq (a := 13) (by omega) (by omega)).mp (c0.symm.trans e1); omega
        · exact h9 e2
        · exact absurd (c0.symm.trans e1) (by decide)
      · intro h9 h8; exact h9 (Or.inr (Or.inl ⟨c0, h8⟩))
    · have e2 : (if hp_bk f (nI (hsz A.1)) (cw 0 A.2.1) = 9 then (6 : Int32) else 3) = nI (a_w C A) := by
        rw [e]
        by_cases h9 : knd A.1 A.2.1 = 9
        · rw [if_pos h9, if_pos (show hp_bk f (nI (hsz A.1)) (cw 0 A.2.1) = 9 from (ch_kd k9 i3 (k := 9) (by omega)).mpr h9)]; rfl
        · rw [if_neg h9, if_neg (show ¬ hp_bk f (nI (hsz A.1)) (cw 0 A.2.1) = 9 from fun h8 => h9 ((ch_kd k9 i3 (k := 9) (by omega)).mp h8))]; rfl
      rw [← e2]
      exact t_wordsMade_13 (q := 0) (k_m := k1) (k_sk := k6) (k_o := k2) (k_a := k3) (hN := hN) (k_pg := k7) (k_pa := k8) (hln := hC) (n_sk_a := n4) (n_pa_a := n7) (n_pa_sk := n10) (hht := h2) (ht9 := h3) (hq := by omega)
  · have c0 : (a_i C A).1 = 14 := c0
    have e : a_w C A = 3 := by unfold a_w wmf; rw [if_pos (Or.inr (Or.inr c0))]
    rw [c0, e]
    exact ⟨⟨0, t_isWrong_14 (q := 0) (k_m := k1) (k_sk := k6) (k_o := k2) (k_a := k3) (hN := hN) (k_pg := k7) (k_pa := k8) (hln := hC) (n_sk_a := n4) (n_pa_a := n7) (n_pa_sk := n10) (hht := h2) (ht9 := h3) (hq := by omega), simple 14 (by omega) (by omega) (by omega) (by omega) c0⟩, t_wordsMade_14 (q := 0) (k_m := k1) (k_sk := k6) (k_o := k2) (k_a := k3) (hN := hN) (k_pg := k7) (k_pa := k8) (hln := hC) (n_sk_a := n4) (n_pa_a := n7) (n_pa_sk := n10) (hht := h2) (ht9 := h3) (hq := by omega), by omega⟩
  · have c0 : (a_i C A).1 = 15 := c0
    rw [c0, w0 15 (by omega) (by omega) (by omega) (by omega) (by omega) (by omega) (by omega) c0]
    exact ⟨⟨0, t_isWrong_15 (q := 0) (k_m := k1) (k_sk := k6) (k_o := k2) (k_a := k3) (hN := hN) (k_pg := k7) (k_pa := k8) (hln := hC) (n_sk_a := n4) (n_pa_a := n7) (n_pa_sk := n10) (hht := h2) (ht9 := h3) (hq := by omega), simple 15 (by omega) (by omega) (by omega) (by omega) c0⟩, t_wordsMade_15 (q := 0) (k_m := k1) (k_sk := k6) (k_o := k2) (k_a := k3) (hN := hN) (k_pg := k7) (k_pa := k8) (hln := hC) (n_sk_a := n4) (n_pa_a := n7) (n_pa_sk := n10) (hht := h2) (ht9 := h3) (hq := by omega), by omega⟩
  · have c0 : (a_i C A).1 = 16 := c0
    rw [c0, w0 16 (by omega) (by omega) (by omega) (by omega) (by omega) (by omega) (by omega) c0]
    exact ⟨⟨0, t_isWrong_16 (q := 0) (k_m := k1) (k_sk := k6) (k_o := k2) (k_a := k3) (hN := hN) (k_pg := k7) (k_pa := k8) (hln := hC) (n_sk_a := n4) (n_pa_a := n7) (n_pa_sk := n10) (hht := h2) (ht9 := h3) (hq := by omega), simple 16 (by omega) (by omega) (by omega) (by omega) c0⟩, t_wordsMade_16 (q := 0) (k_m := k1) (k_sk := k6) (k_o := k2) (k_a := k3) (hN := hN) (k_pg := k7) (k_pa := k8) (hln := hC) (n_sk_a := n4) (n_pa_a := n7) (n_pa_sk := n10) (hht := h2) (ht9 := h3) (hq := by omega), by omega⟩
  · have c0 : (a_i C A).1 = 17 := c0
    have c1 : (a_i C A).2.1 = nI t := c1
    have e : a_w C A = 1 + t % 4 := by unfold a_w wmf; rw [c0, c1, nI_clamp (by omega)]; rfl
    rw [c0, c1, e]
    refine ⟨⟨0, t_isWrong_17 (q := 0) (k_m := k1) (k_sk := k6) (k_o := k2) (k_a := k3) (hN := hN) (k_pg := k7) (k_pa := k8) (hln := hC) (n_sk_a := n4) (n_pa_a := n7) (n_pa_sk := n10) (hht := h2) (ht9 := h3) (hq := by omega), simple 17 (by omega) (by omega) (by omega) (by omega) c0⟩, ?_, by omega⟩
    rw [← nI_add, ← nI_tag ct]
    exact t_wordsMade_17 (q := 0) (k_m := k1) (k_sk := k6) (k_o := k2) (k_a := k3) (hN := hN) (k_pg := k7) (k_pa := k8) (hln := hC) (n_sk_a := n4) (n_pa_a := n7) (n_pa_sk := n10) (hht := h2) (ht9 := h3) (hq := by omega)
  · have c0 : (a_i C A).1 = 18 := c0
    have c1 : (a_i C A).2.1 = nI n := c1
    have e := w0 18 (by omega) (by omega) (by omega) (by omega) (by omega) (by omega) (by omega) c0
    rw [c0, e, c1]
    refine ⟨⟨_, t_isWrong_18 (x := 0) (q := n) (k_m := k1) (k_sk := k6) (k_o := k2) (k_a := k3) (hN := hN) (k_pg := k7) (k_pa := k8) (hln := hC) (n_sk_a := n4) (n_pa_a := n7) (n_pa_sk := n10) (hht := h2) (ht9 := h3) (hq := by omega), ?_⟩, t_wordsMade_18 (q := 0) (k_m := k1) (k_sk := k6) (k_o := k2) (k_a := k3) (hN := hN) (k_pg := k7) (k_pa := k8) (hln := hC) (n_sk_a := n4) (n_pa_a := n7) (n_pa_sk := n10) (hht := h2) (ht9 := h3) (hq := by omega), by omega⟩
    rw [ch_b0, ch_co k9 i3, ch_pc k11 hC n 1 (fun j j1 j2 => by
      obtain ⟨t, q, s1, s2, s3, _⟩ := cs j j1 (by omega)
      refine ⟨s1, ?_⟩
      rw [s2]; exact fun h9 => m1_ne (t := t) (by omega) h9.symm)]
    constructor
    · rintro h9 (⟨o', x, st2, _, _, e1, _⟩ | ⟨e1, _⟩ | ⟨n', hn', _, e1, e2⟩)
      · have := (nI_eq (a := 18) (by omega) (by omega)).mp (c0.symm.trans e1); omega
      · exact absurd (c0.symm.trans e1) (by decide)
      · have : n = n' := (nI_eq (by omega) (by omega)).mp (c1.symm.trans e1)
        subst this
        exact h9 e2
    · intro h9 h8; exact h9 (Or.inr (Or.inr ⟨n, cn8, c0, c1, h8⟩))
  · rcases sv_fn2 _ _ (Nat.le_refl _) _ _ i6 with h9 | h9 <;> omega
  · have hi : C.getD A.2.2.2.2.1 z3 = (20, nI a, 0) := Prod.ext c0 (Prod.ext c1 c2)
    obtain ⟨p, bb, e1, e2, e3, e4⟩ := i7.1 a ca hi
    have c0 : (a_i C A).1 = 20 := c0
    have c1 : (a_i C A).2.1 = nI a := c1
    have e : a_w C A = 3 * a := by unfold a_w wmf; rw [c0, c1, nI_clamp (by omega)]; rfl
    rw [c0, c1, e]
    refine ⟨⟨_, t_isWrong_20 (x := 0) (q := a) (k_m := k1) (k_sk := k6) (k_o := k2) (k_a := k3) (hN := hN) (k_pg := k7) (k_pa := k8) (hln := hC) (n_sk_a := n4) (n_pa_a := n7) (n_pa_sk := n10) (hht := h2) (ht9 := h3) (hq := by omega), ?_⟩, ?_, by omega⟩
    · have hb : hp_bw f (nI (hsz A.1)) (cw 0 A.2.1) = nI a := by
        rw [e1, ← e4]; exact (hc_bk k9 e2).2
      rw [ch_b0, hb]
      exact ⟨fun _ => no_WR (k := 20) (by omega) c0 (by omega) (by omega) (by omega), fun _ h9 => h9 rfl⟩
    · rw [show nI (3 * a) = 3 * nI a from nI_m3.symm]
      exact t_wordsMade_20 (q := 0) (k_m := k1) (k_sk := k6) (k_o := k2) (k_a := k3) (hN := hN) (k_pg := k7) (k_pa := k8) (hln := hC) (n_sk_a := n4) (n_pa_a := n7) (n_pa_sk := n10) (hht := h2) (ht9 := h3) (hq := by omega)
end CW
