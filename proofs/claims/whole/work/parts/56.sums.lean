/-! PRODUCTS, SUMS, COMPARISONS -/
section OC
variable {S0 S : rm_S} {L p p0 m lo lv : Nat} {tx : Nat → Nat} {N N' : Nat → nd_T} {sc : List Nat} {f : rf_T} {FR : List rf_T} {HD : List (Int32 × Int32)} {VS SG : List Nat} {E : List Nat → Nat → ps_Q fr_F}
theorem op_comb {q p1 m' v w s k lv2 : Nat} {F A : fr_F} (hg : gen_is N' lo m' v F w) (hv : (N' v).2.2.2.2 = false) (hN : ∀ i, i < lo → N' i = N i) (hm : m' + 1 + 2 * p0 ≤ lo + 2 * p) (hw : w + 3 + 6 * p0 ≤ 6 * p) (hq : q = p + 1) (hr : pdF S0 q p1 sc f FR HD (v :: VS) (s :: SG) m' N' lv A S) (hs : (s = 43 ∧ k = 4) ∨ (s = 45 ∧ k = 5) ∨ (s = 42 ∧ k = 6) ∨ (s = 60 ∧ k = 7) ∨ (s = 126 ∧ k = 8)) (h2 : lv2 ≤ sg_rk s) (h3 : lv2 ≤ lv) (hf : f.2.2.2.2.1 ≤ SG.length) (hp1 : p1 ≤ 90) (hb : bd_ok p0 lo sc HD VS SG 1) : pdF S0 p0 p1 sc f FR HD VS SG lo N lv2 (fr_op k F A) S := by
  obtain ⟨g1, g2, g3, g4, g5⟩ := hb
  refine ⟨hr.1, fun c => ?_⟩
  obtain ⟨S', N4, m4, b, t1, t2, t3, t4, t5, t6, t7, wd, t8, t9⟩ := hr.2 c
  have a1 := hg.1
  have a2 := hg.2.1
  have hvN : N4 v = N' v := t3 v a2
  have hs2 : (s = 43 ∧ (2 : Int32) = 2 ∧ nI k = 4) ∨ (s = 45 ∧ (2 : Int32) = 2 ∧ nI k = 5) ∨ (s = 42 ∧ (2 : Int32) = 2 ∧ nI k = 6) ∨ (s = 60 ∧ (2 : Int32) = 2 ∧ nI k = 7) ∨ (s = 126 ∧ (2 : Int32) = 2 ∧ nI k = 8) ∨ (s = 32 ∧ (2 : Int32) = 3 ∧ nI k = 0 ∧ ((N4 v).1 = 3 → (N4 v).2.2.2.1 = true)) := by
    rcases hs with ⟨rfl, rfl⟩ | ⟨rfl, rfl⟩ | ⟨rfl, rfl⟩ | ⟨rfl, rfl⟩ | ⟨rfl, rfl⟩
    · exact Or.inl ⟨rfl, rfl, rfl⟩
    · exact Or.inr (Or.inl ⟨rfl, rfl, rfl⟩)
    · exact Or.inr (Or.inr (Or.inl ⟨rfl, rfl, rfl⟩))
    · exact Or.inr (Or.inr (Or.inr (Or.inl ⟨rfl, rfl, rfl⟩)))
    · exact Or.inr (Or.inr (Or.inr (Or.inr (Or.inl ⟨rfl, rfl, rfl⟩))))
  obtain ⟨S5, u1, u2⟩ := st_node (kd := 2) (k := nI k) t2 (by omega) (by omega) hf hs2 (by omega) (by omega) (by omega) (by omega) (by rw [hvN]; exact hv) t4
  have hqn : ∀ i, i < m4 → nq (nd_add (nd_add (nd_new N4 m4 2 (nI k)) m4 v) m4 b i) (N4 i) := fun i hi9 => (nq_add (by omega)).tr ((nq_add (by omega)).tr (by rw [nd_new_n (by omega)]; exact nq.rf))
  have hch : (nd_add (nd_add (nd_new N4 m4 2 (nI k)) m4 v) m4 b m4).2.2.1 = [v, b] := by
    rw [nd_add_ch (by omega), if_pos rfl, nd_add_ch (by omega), if_pos rfl, nd_new_s]; rfl
  refine ⟨S5, _, _, m4, fun l l1 l2 => (t1 l l1 (by omega)).tr (u1 l (by omega)), u2, fun i hi9 => ?_, ?_, by omega, by omega, by omega, max w wd + 4, gen_op (nd_eta _ (by rw [nd_add_k, nd_add_k, nd_new_s]) (by rw [nd_add_v, nd_add_v, nd_new_s]) hch) (gen_N (gen_N hg (fun i i1 i2 => by rw [t3 i i2]; exact nq.rf)) (fun i i1 i2 => hqn i (by omega))) (gen_N t8 (fun i i1 i2 => hqn i i2)) (Nat.le_refl _) (by omega) (by omega) (by omega), by omega⟩
  · rw [nd_add_o (by omega) (by omega), nd_add_o (by omega) (by omega), nd_new_n (by omega), t3 i (by omega), hN i hi9]
  · rw [nd_add_fl (by omega), if_neg (by omega), nd_add_fl (by omega), if_neg (by omega), nd_new_s]
theorem low_mono {r r2 : Nat} (h : sg_low f SG r) (hr : r ≤ r2) : sg_low f SG r2 := by
  refine ⟨h.1, ?_⟩
  rcases h.2 with h | ⟨s, t, h1, h2, h3⟩
  · exact Or.inl h
  · exact Or.inr ⟨s, t, h1, h2, by omega⟩
theorem low_push {s r : Nat} (h : f.2.2.2.2.1 ≤ SG.length) (hs : s < 65536) (hr : sg_rk s < r) : sg_low f (s :: SG) r := ⟨by rw [List.length_cons]; omega, Or.inr ⟨s, SG, rfl, hs, hr⟩⟩
theorem atomb_no {c : Nat} (h : c = 42 ∨ c = 43 ∨ c = 45 ∨ c = 60 ∨ c = 126) : ¬ rd_atomb c = true := by
  rcases h with rfl | rfl | rfl | rfl | rfl <;> decide
theorem sim_pl (hA : SA S0 L tx E FR.length) (hE : ∀ sc p, p ≤ L → ps_ad L p (E sc p)) (ht : rt_ok S0 L tx) (hp0 : p0 ≤ L) (hb : bd_ok p0 lo sc HD VS SG 1) (hlow : sg_low f SG 3) : ∀ (r p : Nat) (F : fr_F) (S : rm_S), L ≤ p + r → p ≤ L → pdF S0 p0 p sc f FR HD VS SG lo N 3 F S → ¬ rd_atomb (rd_ch tx L p) = true → out (ps_pl tx L E sc r p F) (ILL S0 S) (fun p2 F2 => ∃ S2 : rm_S, RTs S S2 ∧ pdF S0 p0 p2 sc f FR HD VS SG lo N 3 F2 S2 ∧ ¬ rd_atomb (rd_ch tx L p2) = true ∧ ¬ rd_ch tx L p2 = 42) := by
  have hL := ht.2.1
  have hb' := hb
  obtain ⟨g1, g2, g3, g4, g5⟩ := hb'
  intro r
  induction r with
  | zero =>
    intro p F S hr hp h hna
    refine ⟨S, RTs.rf, h, hna, ?_⟩
    have : rd_ch tx L p = 0 := by unfold rd_ch; rw [if_neg (by omega)]
    rw [this]; decide
  | succ r ih =>
    intro p F S hr hp h hna
    simp only [ps_pl]
    by_cases hc : rd_ch tx L p = 42
    · rw [if_pos hc]
      have hpl : p < L := rd_ch_in (tx := tx) (by omega)
      obtain ⟨S2, N', m', v, q1, c1, c2, c3, c4, c5, c6, w, c7, c8⟩ := pd_join (s := 42) (r := 3) (q := p + 1) h (by omega) (by omega) (by omega) (by omega) hlow (by omega) (Or.inr ⟨by omega, rfl⟩)
      obtain ⟨Nr, mr, VSr, SGr, hraw⟩ := h.1
      have s1 : RTs S S2 := rt_2 hraw (fun Q hQ => rp_lk ht hraw hp (w_atomb (rt_ch ht p) ⟨fun _ => ⟨fun h9 => absurd (by rw [hc]; rfl) h9, fun _ => by rw [hc]; exact q1 Q hQ⟩, fun h9 => absurd (ch_b0.mpr hna) h9⟩))
      have hpp : p0 + 1 ≤ p := by omega
      have hbd : bd_ok (p + 1) m' sc HD (v :: VS) (42 :: SG) 1 := ⟨by simp only [List.length_cons]; omega, by simp only [List.length_cons]; omega, by simp only [List.length_cons]; omega, by omega, by omega⟩
      refine out_bd (out_mono (sim_ap hA hE ht c1 hpl hbd (low_push hlow.1 (by omega) (by decide))) (fun q hq => ?_) (fun p1 A e hq _ => ?_))
      · obtain ⟨S3, a1, a2⟩ := hq; exact ⟨S3, s1.tr a1, a2⟩
      · obtain ⟨S3, a1, a2, a3⟩ := hq
        have hadv := ps_ad_ap (tx := tx) (sc := sc) hE hpl
        rw [e] at hadv
        have hp1 : p + 1 < p1 := hadv.1
        have hp1L : p1 ≤ L := hadv.2
        have key := op_comb (lv2 := 3) (k := 6) c7 c3 c2 c6 c8 rfl a2 (Or.inr (Or.inr (Or.inl ⟨rfl, rfl⟩))) (by decide) (by omega) hlow.1 (by omega) hb
        refine out_mono (ih p1 _ S3 (by omega) hp1L key a3) (fun q hq => ?_) (fun p2 x _ hq => ?_)
        · obtain ⟨S5, d1, d2⟩ := hq; exact ⟨S5, s1.tr (a1.tr d1), d2⟩
        · obtain ⟨S5, d1, d2, d3⟩ := hq; exact ⟨S5, s1.tr (a1.tr d1), d2, d3⟩
    · rw [if_neg hc]
      exact ⟨S, RTs.rf, h, hna, hc⟩
theorem sim_pr (hA : SA S0 L tx E FR.length) (hE : ∀ sc p, p ≤ L → ps_ad L p (E sc p)) (ht : rt_ok S0 L tx) (h : rp S0 p N m sc (f :: FR) HD VS SG 1 0 S) (hp : p ≤ L) (hb : bd_ok p m sc HD VS SG 1) (hlow : sg_low f SG 3) : out (ps_pr tx L E sc p) (ILL S0 S) (fun p2 F => ∃ S2 : rm_S, RTs S S2 ∧ pdF S0 p p2 sc f FR HD VS SG m N 3 F S2 ∧ ¬ rd_atomb (rd_ch tx L p2) = true ∧ ¬ rd_ch tx L p2 = 42) := by
  unfold ps_pr
  refine out_bd (out_mono (sim_ap hA hE ht h hp hb (low_mono hlow (by omega))) (fun q hq => hq) (fun p1 A e hq _ => ?_))
  obtain ⟨S3, a1, a2, a3⟩ := hq
  have hadv := ps_ad_ap (tx := tx) (sc := sc) hE hp
  rw [e] at hadv
  have hp1L : p1 ≤ L := hadv.2
  refine out_mono (sim_pl hA hE ht hp hb hlow L p1 A S3 (by omega) hp1L (pd_mono a2 (by omega) (fun _ _ _ h => h)) a3) (fun q hq => ?_) (fun p2 x _ hq => ?_)
  · obtain ⟨S5, d1, d2⟩ := hq; exact ⟨S5, a1.tr d1, d2⟩
  · obtain ⟨S5, d1, d2⟩ := hq; exact ⟨S5, a1.tr d1, d2⟩
theorem sim_sl (hA : SA S0 L tx E FR.length) (hE : ∀ sc p, p ≤ L → ps_ad L p (E sc p)) (ht : rt_ok S0 L tx) (hp0 : p0 ≤ L) (hb : bd_ok p0 lo sc HD VS SG 1) (hlow : sg_low f SG 2) : ∀ (r p : Nat) (F : fr_F) (S : rm_S), L ≤ p + r → p ≤ L → pdF S0 p0 p sc f FR HD VS SG lo N 2 F S → ¬ rd_atomb (rd_ch tx L p) = true → ¬ rd_ch tx L p = 42 → out (ps_sl tx L E sc r p F) (ILL S0 S) (fun p2 F2 => ∃ S2 : rm_S, RTs S S2 ∧ pdF S0 p0 p2 sc f FR HD VS SG lo N 2 F2 S2 ∧ ¬ rd_atomb (rd_ch tx L p2) = true ∧ ¬ rd_ch tx L p2 = 42 ∧ ¬ rd_ch tx L p2 = 43 ∧ ¬ rd_ch tx L p2 = 45) := by
  have hL := ht.2.1
  have hb' := hb
  obtain ⟨g1, g2, g3, g4, g5⟩ := hb'
  intro r
  induction r with
  | zero =>
    intro p F S hr hp h hna h42
    refine ⟨S, RTs.rf, h, hna, h42, ?_⟩
    have : rd_ch tx L p = 0 := by unfold rd_ch; rw [if_neg (by omega)]
    rw [this]; decide
  | succ r ih =>
    intro p F S hr hp h hna h42
    simp only [ps_sl]
    have hch := rt_ch ht p
    have q42 : nI (rd_ch tx L p) = 42 ↔ rd_ch tx L p = 42 := nI_eq (b := 42) (by omega) (by omega)
    by_cases hc : rd_ch tx L p = 43 ∨ rd_ch tx L p = 45
    · rw [if_pos hc]
      have hpl : p < L := rd_ch_in (tx := tx) (by omega)
      have hrk : sg_rk (rd_ch tx L p) = 2 := by
        rcases hc with e | e <;> rw [e] <;> decide
      obtain ⟨S2, N', m', v, q1, c1, c2, c3, c4, c5, c6, w, c7, c8⟩ := pd_join (s := rd_ch tx L p) (r := 2) (q := p + 1) h (by omega) (by omega) (by omega) (by omega) hlow (by omega) (Or.inr ⟨by omega, rfl⟩)
      obtain ⟨Nr, mr, VSr, SGr, hraw⟩ := h.1
      have s1 : RTs S S2 := rt_2 hraw (fun Q hQ => rp_lk ht hraw hp (w_atomb (rt_ch ht p) ⟨fun _ => ⟨fun _ => ⟨fun _ => q1 Q hQ, fun h43 => ⟨fun h45 => absurd hc (fun h9 => h9.elim (fun e => h43 (by rw [e]; rfl)) (fun e => h45 (by rw [e]; rfl))), fun _ => q1 Q hQ⟩⟩, fun h9 => absurd (q42.mp h9) h42⟩, fun h9 => absurd (ch_b0.mpr hna) h9⟩))
      have hpp : p0 + 1 ≤ p := by omega
      have hbd : bd_ok (p + 1) m' sc HD (v :: VS) (rd_ch tx L p :: SG) 1 := ⟨by simp only [List.length_cons]; omega, by simp only [List.length_cons]; omega, by simp only [List.length_cons]; omega, by omega, by omega⟩
      refine out_bd (out_mono (sim_pr hA hE ht c1 hpl hbd (low_push hlow.1 (by omega) (by omega))) (fun q hq => ?_) (fun p1 A e hq _ => ?_))
      · obtain ⟨S3, a1, a2⟩ := hq; exact ⟨S3, s1.tr a1, a2⟩
      · obtain ⟨S3, a1, a2, a3, a4⟩ := hq
        have hadv := ps_ad_pr (tx := tx) (sc := sc) hE hpl
        rw [e] at hadv
        have hp1 : p + 1 < p1 := hadv.1
        have hp1L : p1 ≤ L := hadv.2
        have key := op_comb (lv2 := 2) (k := if rd_ch tx L p = 43 then 4 else 5) c7 c3 c2 c6 c8 rfl a2 (by
          rcases hc with e | e
          · exact Or.inl ⟨e, if_pos e⟩
          · exact Or.inr (Or.inl ⟨e, if_neg (by omega)⟩)) (by omega) (by omega) hlow.1 (by omega) hb
        refine out_mono (ih p1 _ S3 (by omega) hp1L key a3 a4) (fun q hq => ?_) (fun p2 x _ hq => ?_)
        · obtain ⟨S5, d1, d2⟩ := hq; exact ⟨S5, s1.tr (a1.tr d1), d2⟩
        · obtain ⟨S5, d1, d2, d3⟩ := hq; exact ⟨S5, s1.tr (a1.tr d1), d2, d3⟩
    · rw [if_neg hc]
      exact ⟨S, RTs.rf, h, hna, h42, fun e => hc (Or.inl e), fun e => hc (Or.inr e)⟩
theorem sim_su (hA : SA S0 L tx E FR.length) (hE : ∀ sc p, p ≤ L → ps_ad L p (E sc p)) (ht : rt_ok S0 L tx) (h : rp S0 p N m sc (f :: FR) HD VS SG 1 0 S) (hp : p ≤ L) (hb : bd_ok p m sc HD VS SG 1) (hlow : sg_low f SG 2) : out (ps_su tx L E sc p) (ILL S0 S) (fun p2 F => ∃ S2 : rm_S, RTs S S2 ∧ pdF S0 p p2 sc f FR HD VS SG m N 2 F S2 ∧ ¬ rd_atomb (rd_ch tx L p2) = true ∧ ¬ rd_ch tx L p2 = 42 ∧ ¬ rd_ch tx L p2 = 43 ∧ ¬ rd_ch tx L p2 = 45) := by
  unfold ps_su
  refine out_bd (out_mono (sim_pr hA hE ht h hp hb (low_mono hlow (by omega))) (fun q hq => hq) (fun p1 A e hq _ => ?_))
  obtain ⟨S3, a1, a2, a3, a4⟩ := hq
  have hadv := ps_ad_pr (tx := tx) (sc := sc) hE hp
  rw [e] at hadv
  have hp1L : p1 ≤ L := hadv.2
  refine out_mono (sim_sl hA hE ht hp hb hlow L p1 A S3 (by omega) hp1L (pd_mono a2 (by omega) (fun _ _ _ h => h)) a3 a4) (fun q hq => ?_) (fun p2 x _ hq => ?_)
  · obtain ⟨S5, d1, d2⟩ := hq; exact ⟨S5, a1.tr d1, d2⟩
  · obtain ⟨S5, d1, d2⟩ := hq; exact ⟨S5, a1.tr d1, d2⟩
/-- a comparison; c: whether two sums were compared -/
theorem sim_cm (hA : SA S0 L tx E FR.length) (hE : ∀ sc p, p ≤ L → ps_ad L p (E sc p)) (ht : rt_ok S0 L tx) (h : rp S0 p N m sc (f :: FR) HD VS SG 1 0 S) (hp : p ≤ L) (hb : bd_ok p m sc HD VS SG 1) (hlow : sg_low f SG 1) (hf0 : f.2.2.2.2.2.2.1 = 0) : out (ps_cm tx L E sc p) (ILL S0 S) (fun p2 F => ∃ (S2 : rm_S) (c : Int32), RTs S S2 ∧ pdF S0 p p2 sc (fc f c) FR HD VS SG m N 1 F S2 ∧ ¬ rd_atomb (rd_ch tx L p2) = true ∧ ¬ rd_ch tx L p2 = 42 ∧ ¬ rd_ch tx L p2 = 43 ∧ ¬ rd_ch tx L p2 = 45 ∧ ((rd_ch tx L p2 = 60 ∨ rd_ch tx L p2 = 126) → ¬ c = 0)) := by
  have hL := ht.2.1
  have hb' := hb
  obtain ⟨g1, g2, g3, g4, g5⟩ := hb'
  show out (ps_bd (ps_su tx L E sc p) (ps_cx tx L E sc)) _ _
  refine out_bd (out_mono (sim_su hA hE ht h hp hb (low_mono hlow (by omega))) (fun q hq => hq) (fun p1 A e hq _ => ?_))
  obtain ⟨S3, a1, a2, a3, a4, a5, a6⟩ := hq
  have hadv := ps_ad_su (tx := tx) (sc := sc) hE hp
  rw [e] at hadv
  have hp1 : p < p1 := hadv.1
  have hp1L : p1 ≤ L := hadv.2
  have hch := rt_ch ht p1
  have q42 : nI (rd_ch tx L p1) = 42 ↔ rd_ch tx L p1 = 42 := nI_eq (b := 42) (by omega) (by omega)
  have q43 : nI (rd_ch tx L p1) = 43 ↔ rd_ch tx L p1 = 43 := nI_eq (b := 43) (by omega) (by omega)
  have q45 : nI (rd_ch tx L p1) = 45 ↔ rd_ch tx L p1 = 45 := nI_eq (b := 45) (by omega) (by omega)
  by_cases hc : rd_ch tx L p1 = 60 ∨ rd_ch tx L p1 = 126
  · have hpl : p1 < L := rd_ch_in (tx := tx) (by omega)
    have e2 : ps_cx tx L E sc p1 A = ps_bd (ps_su tx L E sc (p1 + 1)) (fun p2 B => .inr (p2, fr_op (if rd_ch tx L p1 = 60 then 7 else 8) A B)) := by unfold ps_cx; rw [if_pos hc]
    rw [e2]
    have hrk : sg_rk (rd_ch tx L p1) = 1 := by
      rcases hc with e | e <;> rw [e] <;> decide
    obtain ⟨S2, N', m', v, q1, c1, c2, c3, c4, c5, c6, w, c7, c8⟩ := pd_joinc (s := rd_ch tx L p1) (r := 1) (q := p1 + 1) 1 a2 (by omega) (by omega) (by omega) (by omega) hlow (by omega) (Or.inr ⟨by omega, rfl⟩)
    obtain ⟨Nr, mr, VSr, SGr, hraw⟩ := a2.1
    have htop := rp_top hraw
    have h24 : S3.2 24 FR.length = 0 := htop.2.2.2.2.2.2.2.2.2.1.trans hf0
    have s1 : RTs S3 S2 := rt_2 hraw (fun Q hQ => rp_lk ht hraw hp1L (w_atomb (rt_ch ht p1) ⟨fun _ => ⟨fun _ => ⟨fun h9 => absurd (q43.mp h9) a5, fun _ => ⟨fun _ => ⟨fun _ => ?_, fun h60 => ⟨fun h126 => ?_, fun _ => ?_⟩⟩, fun h9 => absurd (q45.mp h9) a6⟩⟩, fun h9 => absurd (q42.mp h9) a4⟩, fun h9 => absurd (ch_b0.mpr a3) h9⟩))
    rotate_left
    · rw [htop.1, htop.2.2.1, h24]
      exact ⟨htop.2.1, fun _ => ⟨htop.2.1, fun h9 => absurd hraw.2.2.1 h9, fun _ => q1 Q hQ⟩, fun h9 => absurd rfl h9⟩
    · exact absurd hc (fun h9 => h9.elim (fun e => h60 (by rw [e]; rfl)) (fun e => h126 (by rw [e]; rfl)))
    · rw [htop.1, htop.2.2.1, h24]
      exact ⟨htop.2.1, fun _ => ⟨htop.2.1, fun h9 => absurd hraw.2.2.1 h9, fun _ => q1 Q hQ⟩, fun h9 => absurd rfl h9⟩
    have hbd : bd_ok (p1 + 1) m' sc HD (v :: VS) (rd_ch tx L p1 :: SG) 1 := ⟨by simp only [List.length_cons]; omega, by simp only [List.length_cons]; omega, by simp only [List.length_cons]; omega, by omega, by omega⟩
    refine out_bd (out_mono (sim_su (f := fc f 1) hA hE ht c1 hpl hbd (low_push hlow.1 (by omega) (by omega))) (fun q hq => ?_) (fun p2 B e3 hq _ => ?_))
    · obtain ⟨S4, b1, b2⟩ := hq; exact ⟨S4, a1.tr (s1.tr b1), b2⟩
    · obtain ⟨S4, b1, b2, b3, b4, b5, b6⟩ := hq
      have hadv2 := ps_ad_su (tx := tx) (sc := sc) hE hpl
      rw [e3] at hadv2
      have hp2 : p1 + 1 < p2 := hadv2.1
      have hp2L : p2 ≤ L := hadv2.2
      have key := op_comb (p0 := p) (lo := m) (N := N) (lv2 := 1) (k := if rd_ch tx L p1 = 60 then 7 else 8) c7 c3 c2 c6 c8 rfl b2 (by
        rcases hc with e | e
        · exact Or.inr (Or.inr (Or.inr (Or.inl ⟨e, if_pos e⟩)))
        · exact Or.inr (Or.inr (Or.inr (Or.inr ⟨e, if_neg (by omega)⟩)))) (by omega) (by omega) hlow.1 (by omega) hb
      exact ⟨S4, 1, a1.tr (s1.tr b1), key, b3, b4, b5, b6, fun _ => by decide⟩
  · have e2 : ps_cx tx L E sc p1 A = .inr (p1, A) := by unfold ps_cx; rw [if_neg hc]
    rw [e2]
    refine ⟨S3, f.2.2.2.2.2.2.1, a1, pd_mono a2 (by omega) (fun _ _ _ h => h), a3, a4, a5, a6, fun h9 => absurd h9 hc⟩
end OC
