/-! EXPRESSIONS; THE WHOLE TEXT -/
section EL
variable {S0 S : rm_S} {L : Nat} {tx : Nat → Nat} {f : rf_T} {FR : List rf_T} {HD : List (Int32 × Int32)} {VS SG : List Nat} {E : List Nat → Nat → ps_Q fr_F}
theorem sim_hs {p0 m0 : Nat} {N0 : Nat → nd_T} {sc0 : List Nat} (hX : SX S0 L tx E (FR.length + 1)) (hE : ∀ sc p, p ≤ L → ps_ad L p (E sc p)) (ht : rt_ok S0 L tx) (hp0 : p0 ≤ L) (hb0 : bd_ok p0 m0 sc0 HD VS SG 0) (hf0 : f.2.2.1 = HD.length) (hf1 : f.2.2.2.2.1 = SG.length) (hf2 : f.2.2.2.2.2.2.1 = 0) (hf3 : f.2.2.2.2.2.2.2 = -1) : ∀ (r p : Nat) (ys : List Nat) (hs : List (Int32 × Int32)) (W : fr_F → fr_F) (N : Nat → nd_T) (m wb : Nat) (S : rm_S), L ≤ p + r → p ≤ L → p0 ≤ p → rp S0 p N m (sc0 ++ ys) (f :: FR) (hs ++ HD) VS SG 0 0 S → hw N wb m0 hs m W → (∀ i, i < m0 → N i = N0 i) → (sc0 ++ ys).length ≤ p → 2 * (hs.length + HD.length) ≤ p → m + hs.length + 2 * p0 ≤ m0 + 2 * p → wb + 12 * hs.length + 6 * p0 ≤ 6 * p → out (ps_hs tx L E r (sc0 ++ ys) p W) (ILL S0 S) (XE S0 L tx p0 N0 m0 sc0 f FR HD VS SG S) := by
  have hL := ht.2.1
  obtain ⟨g1, g2, g3, g4, g5⟩ := hb0
  have last : ∀ (p : Nat) (ys : List Nat) (hs : List (Int32 × Int32)) (W : fr_F → fr_F) (N : Nat → nd_T) (m wb : Nat) (S : rm_S), p ≤ L → p0 ≤ p → rp S0 p N m (sc0 ++ ys) (f :: FR) (hs ++ HD) VS SG 0 0 S → hw N wb m0 hs m W → (∀ i, i < m0 → N i = N0 i) → (sc0 ++ ys).length ≤ p → 2 * (hs.length + HD.length) ≤ p → m + hs.length + 2 * p0 ≤ m0 + 2 * p → wb + 12 * hs.length + 6 * p0 ≤ 6 * p → ¬ rd_hd tx L p = true → out (ps_bd (ps_bo tx L E (sc0 ++ ys) p) (fun p1 F => .inr (p1, W F))) (ILL S0 S) (XE S0 L tx p0 N0 m0 sc0 f FR HD VS SG S) := by
    intro p ys hs W N m wb S hp hpp h hhw hN0 hsl hhl b1 b2 hnh
    have hlh : (hs ++ HD).length = hs.length + HD.length := List.length_append
    refine out_bd (out_mono (sim_bo hX hE ht h hp ⟨by rw [hlh]; omega, by omega, by omega, by rw [hlh]; omega, hsl⟩ hf1 hf2 hf3 hnh) (fun q hq => hq) (fun p1 F e hq _ => ?_))
    have hadv := ps_ad_bo (tx := tx) (sc := sc0 ++ ys) hE hp
    rw [e] at hadv
    have hp1 : p < p1 := hadv.1
    have hp1L : p1 ≤ L := hadv.2
    rcases hq with ⟨hc, hq⟩ | ⟨T, N1, m1, v, w, c, mt, md, a1, a2, a3, a4, a5, a6, a7⟩
    · exact Or.inl ⟨hc, hq⟩
    · have hle := hw_le hhw
      have b3 := a3.1
      have b4 := a3.2.1
      obtain ⟨S1, N2, v1, q1, c1, d1, e1, r1⟩ := l_hd (f := fm f c mt) (lo := m0) (wb := wb) (HD := HD) hf0 (by omega) hs N1 m1 m v (max w wb) W F T (by omega) (by omega) (by omega) a1 (hw_N (Nat.le_refl _) hhw (fun i hi9 => a2 i hi9) (Nat.le_refl _)) (gen_up a3 (Nat.le_refl _) (Nat.le_refl _) (Nat.le_max_left _ _)) a4 (Nat.le_max_right _ _)
      have htop := rp_top a1
      refine Or.inr ⟨S1, N2, m1 + hs.length, v1, max w wb + 6 * hs.length, ys, c, mt, md, c1, fun i hi9 => (d1 i hi9).trans ((a2 i (by omega)).trans (hN0 i hi9)), e1, r1, by omega, by omega, fun S2 hS2 => a7 S2 (fun Q hQ => ?_)⟩
      rw [cm_iff, htop.1]
      exact q1 _ Q _ (hS2 Q hQ)
  intro r
  induction r with
  | zero =>
    intro p ys hs W N m wb S hr hp hpp h hhw hN0 hsl hhl b1 b2
    refine last p ys hs W N m wb S hp hpp h hhw hN0 hsl hhl b1 b2 ?_
    have e0 : rd_ch tx L p = 0 := by unfold rd_ch; rw [if_neg (by omega)]
    unfold rd_hd; rw [e0]; simp
  | succ r ih =>
    intro p ys hs W N m wb S hr hp hpp h hhw hN0 hsl hhl b1 b2
    have hlh : (hs ++ HD).length = hs.length + HD.length := List.length_append
    have hle := hw_le hhw
    simp only [ps_hs]
    by_cases hh : rd_hd tx L p = true
    · rw [if_pos hh]
      refine out_bd (out_mono (sim_h1 hX hE ht h hp ⟨by rw [hlh]; omega, by omega, by omega, by rw [hlh]; omega, hsl⟩ hh) (fun q hq => hq) (fun p1 x e hq _ => ?_))
      have hadv := ps_ad_h1 (sc := sc0 ++ ys) hE hh
      rw [e] at hadv
      have hp1 : p < p1 := hadv.1
      have hp1L : p1 ≤ L := hadv.2
      obtain ⟨S', N', m', w, hd, zs, a1, a2, a3, a4, a5, a6, a7, a8, a9⟩ := hq
      rw [a3] at a2 a4 ⊢
      rw [List.append_assoc] at a2 a4 ⊢
      have hw2 : hw N' (max wb w) m0 (hd :: hs) m' (fun F => W (x.2 F)) := by
        refine ⟨m, W, hw_N (Nat.le_max_left _ _) hhw (fun i hi9 => a5 i hi9) (Nat.le_refl _), ?_⟩
        rcases a9 with ⟨e1, e2⟩ | ⟨b, B, e1, e2, e3⟩
        · exact Or.inl ⟨e1, a6, by rw [e2]⟩
        · refine Or.inr ⟨b, B, gen_up e1 (Nat.le_refl _) (Nat.le_refl _) (Nat.le_max_right _ _), e2, ?_⟩
          rcases e3 with ⟨e3, e4⟩ | ⟨e3, e4⟩
          · exact Or.inl ⟨e3, by rw [e4]⟩
          · exact Or.inr ⟨e3, by rw [e4]⟩
      refine out_mono (ih p1 (ys ++ zs) (hd :: hs) _ N' m' (max wb w) S' (by omega) hp1L (by omega) a2 hw2 (fun i hi9 => (a5 i (by omega)).trans (hN0 i hi9)) a4 (by rw [List.length_cons]; omega) (by rw [List.length_cons]; omega) (by rw [List.length_cons]; omega)) (fun q hq => ?_) (fun p4 G _ hq => ?_)
      · obtain ⟨S6, d1, d2⟩ := hq; exact ⟨S6, a1.tr d1, d2⟩
      · rcases hq with ⟨hc, S6, d1, d2⟩ | ⟨S1, N1, m1, v, w', ys', c, mt, md, t1, t2, t3, t4, t5, t6, t7⟩
        · exact Or.inl ⟨hc, S6, a1.tr d1, d2⟩
        · exact Or.inr ⟨S1, N1, m1, v, w', ys', c, mt, md, t1, t2, t3, t4, t5, t6, fun S2 hS2 => a1.tr (t7 S2 hS2)⟩
    · rw [if_neg hh]
      exact last p ys hs W N m wb S hp hpp h hhw hN0 hsl hhl b1 b2 hh
theorem sim_ex {fl : Nat} (hX : SX S0 L tx E (fl + 1)) (hE : ∀ sc p, p ≤ L → ps_ad L p (E sc p)) (ht : rt_ok S0 L tx) : SE S0 L tx (ps_e1 tx L E) fl := by
  intro p N m sc f FR HD VS SG S hfl h hp hb h0 h1 h2 h3
  subst hfl
  have g := hb
  obtain ⟨g1, g2, g3, g4, g5⟩ := g
  have h' : rp S0 p N m (sc ++ []) (f :: FR) ([] ++ HD) VS SG 0 0 S := by rw [List.append_nil, List.nil_append]; exact h
  have := sim_hs (f := f) (FR := FR) (HD := HD) (VS := VS) (SG := SG) (N0 := N) hX hE ht hp hb h0 h1 h2 h3 L p [] [] id N m 0 S (by omega) hp (Nat.le_refl _) h' ⟨Nat.le_refl _, rfl⟩ (fun _ _ => rfl) (by rw [List.append_nil]; exact g5) (by show 2 * (0 + HD.length) ≤ p; omega) (by show m + 0 + 2 * p ≤ m + 2 * p; omega) (by show 0 + 12 * 0 + 6 * p ≤ 6 * p; omega)
  rw [List.append_nil] at this
  exact this
theorem sim_lv (ht : rt_ok S0 L tx) : ∀ k : Nat, k ≤ 6 → SX S0 L tx (ps_ex tx L k) (6 - k) := by
  intro k
  induction k with
  | zero => intro _; exact Or.inl ⟨rfl, fun _ _ => rfl⟩
  | succ k ih =>
    intro hk
    refine Or.inr ⟨by omega, sim_ex (E := ps_ex tx L k) ?_ (fun sc p hp => ps_ad_ex k sc p hp) ht⟩
    have := ih (by omega)
    rw [show 6 - (k + 1) + 1 = 6 - k by omega]; exact this
end EL
/-- readText -/
theorem ref_read {S : rm_S} {L : Nat} {tx : Nat → Nat} (ht : rt_ok S L tx) (h5 : S.1 5 = 0) (h6 : S.1 6 = 0) : (∀ (p : Nat) (F : fr_F), ps_ex tx L 6 [] 0 = .inr (p, F) → ¬ p < L → ∃ (S' : rm_S) (N : Nat → nd_T) (m v w : Nat), (∀ Q : rm_S → Prop, Q S' → wp_readText S Q) ∧ rx_ok S S' ∧ S'.1 5 = nI p ∧ S'.1 6 = 0 ∧ ns_at N m S' ∧ S'.1 34 = nI v ∧ gen_is N 0 m v F w ∧ w ≤ 598) ∧ (∀ q : Nat, ps_all tx L = .inl q → ∃ S' : rm_S, (∀ Q : rm_S → Prop, Q S' → wp_readText S Q) ∧ rp_il S q S') := by
  have hL := ht.2.1
  have c0 : rp S 0 (fun _ => (0, 0, [], false, false)) 0 [] [] [] [] [] (S.1 33) 0 (rm_pf (rm_pf (rm_pf (rm_pf (rm_pf (rm_pf (rm_pf S 8 0) 15 0) 17 0) 26 0) 29 0) 31 0) 56 0) := by
    refine ⟨rx_pf (rx_pf (rx_pf (rx_pf (rx_pf (rx_pf (rx_pf ⟨fun _ _ => rfl, fun _ _ => rfl⟩ (by decide)) (by decide)) (by decide)) (by decide)) (by decide)) (by decide)) (by decide), h5, h6, ⟨rfl, by decide, fun i hi => absurd hi (Nat.not_lt_zero i), fun i j c hi => absurd hi (Nat.not_lt_zero i)⟩, ⟨rfl, fun j hj => absurd hj (Nat.not_lt_zero j), fun c hc => absurd hc List.not_mem_nil⟩, ⟨rfl, by decide, trivial⟩, ⟨rfl, trivial, trivial⟩, ⟨rfl, trivial⟩, ⟨rfl, trivial⟩, rfl, rfl⟩
  have c1 := rp_begin (a := 0) (a2 := -1) c0 (by decide)
  have top : ∀ S' : rm_S, RTs (rs_begin (rm_pf (rm_pf (rm_pf (rm_pf (rm_pf (rm_pf (rm_pf S 8 0) 15 0) 17 0) 26 0) 29 0) 31 0) 56 0) 0 (nI 0) (-1)) S' → (∀ Q K : rm_S → Prop, K S' → ∃ n : Nat, wl_readText_41 Q K n S') → ∀ Q : rm_S → Prop, Q S' → wp_readText S Q := by
    intro S' h1 h2 Q hQ
    refine w_begin_1 (a1 := nI 0) (a2 := -1) c0 (by decide) ?_
    exact h1 Q (fun S20 => Q S20) (h2 Q _ hQ)
  have illEnd : ∀ {S' : rm_S} {q : Nat}, rp_il S q S' → ∀ Q K : rm_S → Prop, K S' → ∃ n : Nat, wl_readText_41 Q K n S' := fun h Q K hK => ⟨1, fun _ => hK, fun h9 => absurd h9 h.2.2⟩
  have hlv := sim_lv ht 6 (Nat.le_refl _)
  have hse : SE S L tx (ps_ex tx L 6) 0 := by
    rcases hlv with ⟨h9, _⟩ | ⟨_, h9⟩
    · exact absurd h9 (by decide)
    · exact h9
  have hout := hse 0 _ 0 [] _ [] [] [] [] _ rfl c1 (Nat.zero_le _) ⟨by decide, by decide, by decide, by decide, by decide⟩ rfl rfl rfl rfl
  have had := ps_ad_ex (tx := tx) (L := L) 6 [] 0 (Nat.zero_le _)
  refine ⟨fun p F e hpL => ?_, fun q e => ?_⟩
  · rw [e] at hout had
    have hp2 : p ≤ L := had.2
    rcases hout with ⟨hc, _⟩ | ⟨S1, N1, m1, v, w, ys, c, mt, md, a1, a2, a3, a4, a5, a6, a7⟩
    · have e0 : rd_ch tx L p = 0 := by unfold rd_ch; rw [if_neg hpL]
      rcases hc with h9 | h9 <;> (have h9 : rd_ch tx L p = _ := h9; omega)
    · have a1 : rp S p N1 m1 ([] ++ ys) (fm (0, -1, 0, 0, 0, _, 0, -1) c mt :: []) [] [] [] md 0 S1 := a1
      have a6 : w + 3 + 6 * 0 ≤ 6 * p := a6
      have e3 : S1.1 3 = nI L := (a1.1.1 3 (by decide)).trans ht.1
      have hle : S1.1 3 ≤ S1.1 5 := by rw [e3, a1.2.1]; exact nI_le (by omega) (by omega)
      have hret := rp_ret a1 (Nat.zero_le _)
      have hS2 : RTs _ (rm_pf (rm_pf (rs_ret S1 0 0) 34 (nI v)) 33 4) := a7 _ (fun Q hQ => sw_0 a1 rfl ⟨fun _ => hQ, fun h9 => absurd hle h9⟩)
      refine ⟨_, N1, m1, v, w, top _ hS2 (fun Q K hK => ⟨1, fun _ => hK, fun _ => ⟨fun _ => hK, fun h9 => absurd rfl h9⟩⟩), ⟨fun k hk => ?_, a1.1.2⟩, a1.2.1, a1.2.2.1, a1.2.2.2.1, rfl, a3, by omega⟩
      have h33 : ¬ k = 33 := fun e9 => by rw [e9] at hk; exact absurd hk (by decide)
      have h34 : ¬ k = 34 := fun e9 => by rw [e9] at hk; exact absurd hk (by decide)
      have h17 : ¬ k = 17 := fun e9 => by rw [e9] at hk; exact absurd hk (by decide)
      have h15 : ¬ k = 15 := fun e9 => by rw [e9] at hk; exact absurd hk (by decide)
      show (if k = 33 then _ else if k = 34 then _ else if k = 17 then _ else if k = 15 then _ else S1.1 k) = _
      rw [if_neg h33, if_neg h34, if_neg h17, if_neg h15]
      exact a1.1.1 k hk
  · unfold ps_all at e
    revert hout had e
    cases hps : ps_ex tx L 6 [] 0 with
    | inl q' =>
      intro hout had e
      cases e
      obtain ⟨S', d1, d2⟩ := hout
      exact ⟨S', top S' d1 (illEnd d2), d2⟩
    | inr y =>
      obtain ⟨p, F⟩ := y
      intro hout had e
      have hp2 : p ≤ L := had.2
      rw [ps_bd_r] at e
      by_cases hpL : p < L
      · rw [if_pos hpL] at e
        have epq : q = p := (Sum.inl.inj e).symm
        subst epq
        rcases hout with ⟨hc, S', d1, d2⟩ | ⟨S1, N1, m1, v, w, ys, c, mt, md, a1, a2, a3, a4, a5, a6, a7⟩
        · exact ⟨S', top S' d1 (illEnd d2), d2⟩
        · have a1 : rp S q N1 m1 ([] ++ ys) (fm (0, -1, 0, 0, 0, _, 0, -1) c mt :: []) [] [] [] md 0 S1 := a1
          have e3 : S1.1 3 = nI L := (a1.1.1 3 (by decide)).trans ht.1
          have hle : ¬ S1.1 3 ≤ S1.1 5 := by rw [e3, a1.2.1]; exact nI_ge hpL (by omega)
          have hS2 : RTs _ (rm_pf (rm_pf (rm_pf (rs_ret S1 0 0) 34 (nI v)) 6 1) 33 4) := a7 _ (fun Q hQ => sw_0 a1 rfl ⟨fun h9 => absurd h9 hle, fun _ => hQ⟩)
          have il : rp_il S q (rm_pf (rm_pf (rm_pf (rs_ret S1 0 0) 34 (nI v)) 6 1) 33 4) := ⟨rx_pf (rx_pf (rx_pf (rx_pf (rx_pf a1.1 (by decide)) (by decide)) (by decide)) (by decide)) (by decide), a1.2.1, by show ¬ (1 : Int32) = 0; decide⟩
          exact ⟨_, top _ hS2 (illEnd il), il⟩
      · rw [if_neg hpL] at e; cases e
