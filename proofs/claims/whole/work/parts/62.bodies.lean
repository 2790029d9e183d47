/-! BODIES, HEADS, EXPRESSIONS -/
def XB (S0 : rm_S) (L : Nat) (tx : Nat → Nat) (p : Nat) (N : Nat → nd_T) (m : Nat) (sc : List Nat) (f : rf_T) (FR : List rf_T) (HD : List (Int32 × Int32)) (VS SG : List Nat) (S : rm_S) (p1 : Nat) (F : fr_F) : Prop := (isCmp tx L p1 ∧ ILL S0 S p1) ∨ (∃ (T : rm_S) (N1 : Nat → nd_T) (m1 v w : Nat) (c mt md : Int32), rp S0 p1 N1 m1 sc (fm f c mt :: FR) HD VS SG md 0 T ∧ (∀ i, i < m → N1 i = N i) ∧ gen_is N1 m m1 v F w ∧ (N1 v).2.2.2.2 = false ∧ m1 + 1 + 2 * p ≤ m + 2 * p1 ∧ w + 3 + 6 * p ≤ 6 * p1 ∧ ∀ S2 : rm_S, (∀ Q : rm_S → Prop, Q S2 → wp_completed T (nI v) Q) → RTs S S2)
section EX
variable {S0 S : rm_S} {L p m : Nat} {tx : Nat → Nat} {N : Nat → nd_T} {sc : List Nat} {f : rf_T} {FR : List rf_T} {HD : List (Int32 × Int32)} {VS SG : List Nat} {E : List Nat → Nat → ps_Q fr_F}
theorem out_ill {R : ps_Q fr_F} {S1 : rm_S} (h : RTs S S1) {P2 P2' : Nat → fr_F → Prop} (h1 : out R (ILL S0 S1) P2) (h2 : ∀ p x, R = .inr (p, x) → P2 p x → P2' p x) : out R (ILL S0 S) P2' := out_mono h1 (fun q hq => by obtain ⟨S3, a1, a2⟩ := hq; exact ⟨S3, h.tr a1, a2⟩) h2
theorem sim_bo (hX : SX S0 L tx E (FR.length + 1)) (hE : ∀ sc p, p ≤ L → ps_ad L p (E sc p)) (ht : rt_ok S0 L tx) (h : rp S0 p N m sc (f :: FR) HD VS SG 0 0 S) (hp : p ≤ L) (hb : bd_ok p m sc HD VS SG 0) (hf1 : f.2.2.2.2.1 = SG.length) (hf2 : f.2.2.2.2.2.2.1 = 0) (hf3 : f.2.2.2.2.2.2.2 = -1) (hnh : ¬ rd_hd tx L p = true) : out (ps_bo tx L E sc p) (ILL S0 S) (XB S0 L tx p N m sc f FR HD VS SG S) := by
  have hL := ht.2.1
  have hb' := hb
  obtain ⟨g1, g2, g3, g4, g5⟩ := hb'
  have hA : SA S0 L tx E FR.length := sim_at hX hE ht
  have hch := rt_ch ht p
  have htop := rp_top h
  have q92 : nI (rd_ch tx L p) = 92 ↔ rd_ch tx L p = 92 := nI_eq (b := 92) (by omega) (by omega)
  have q64 : nI (rd_ch tx L p) = 64 ↔ rd_ch tx L p = 64 := nI_eq (b := 64) (by omega) (by omega)
  have q63 : nI (rd_ch tx L p) = 63 ↔ rd_ch tx L p = 63 := nI_eq (b := 63) (by omega) (by omega)
  have hch1 := rt_ch ht (p + 1)
  have q61 : nI (rd_ch tx L (p + 1)) = 61 ↔ rd_ch tx L (p + 1) = 61 := nI_eq (b := 61) (by omega) (by omega)
  have hnh2 : ¬ rd_ch tx L p = 92 ∧ ¬ rd_ch tx L p = 64 ∧ ¬ ((97 ≤ rd_ch tx L p ∧ rd_ch tx L p ≤ 122) ∧ rd_ch tx L (p + 1) = 61) := by
    unfold rd_hd at hnh
    simp only [Bool.or_eq_true, Bool.and_eq_true, decide_eq_true_eq, not_or] at hnh
    exact hnh
  have head : ∀ Q : rm_S → Prop, ((¬ rd_ch tx L p = 63 → Q (rm_pf S 33 1)) ∧ (rd_ch tx L p = 63 → wp_node (rm_pf S 5 (nI (p + 1))) 8 0 (fun x11 S12 => Q (rm_pf (rm_pa S12 25 FR.length x11) 33 1)))) → wp_readHead S Q := by
    intro Q hQ
    have tail : ((¬ nI (rd_ch tx L p) = 64 → ((¬ nI (rd_ch tx L p) = 63 → Q (rm_pf S 33 1)) ∧ (nI (rd_ch tx L p) = 63 → wp_node (rm_pf S 5 ((S.1 5) + 1)) 8 0 (fun x11 S12 => (vp_in ((S.1 17) - 1) 8 ∧ Q (rm_pf (rm_pa S12 25 (((S.1 17) - 1).toNatClampNeg) x11) 33 1)))))) ∧ (nI (rd_ch tx L p) = 64 → wp_readFix (rm_pf S 5 ((S.1 5) + 1)) (fun S15 => Q S15))) := by
      rw [h.2.1, nI_1, htop.1, htop.2.2.1]
      refine ⟨fun _ => ⟨fun h9 => hQ.1 (fun e => h9 (q63.mpr e)), fun h9 => ?_⟩, fun h9 => absurd (q64.mp h9) hnh2.2.1⟩
      have := hQ.2 (q63.mp h9)
      unfold wp_node at this ⊢
      exact ⟨this.1, this.2.1, this.2.2.1, this.2.2.2.1, this.2.2.2.2.1, this.2.2.2.2.2.1, htop.2.1, this.2.2.2.2.2.2⟩
    refine rp_lk ht h hp ⟨fun _ => w_isName hch ⟨fun _ => tail, fun hnm => rp_behind ht h.1 h.2.1 hp ⟨fun _ => tail, fun h9 => ?_⟩⟩, fun h9 => absurd (q92.mp h9) hnh2.1⟩
    exact absurd ⟨Classical.byContradiction (fun h8 => hnm (ch_b0.mpr h8)), q61.mp h9⟩ hnh2.2.2
  unfold ps_bo
  by_cases h63 : rd_ch tx L p = 63
  · rw [if_pos h63]
    have hpl : p < L := rd_ch_in (tx := tx) (by omega)
    have c1 := rp_at5 h (p + 1)
    obtain ⟨q2, c2⟩ := rp_node (k := 8) (v := 0) c1 (by omega)
    have c3 := rp_md (rp_f25 (v := nI m) c2) 1
    have s1 : RTs S _ := rt_0 h (fun Q hQ => head Q ⟨fun h9 => absurd h63 h9, fun _ => q2 _ hQ⟩)
    have hbd : bd_ok (p + 1) (m + 1) sc HD VS SG 1 := ⟨by omega, by omega, by omega, by omega, by omega⟩
    show out (ps_bd (ps_cm tx L E sc (p + 1)) _) _ _
    refine out_bd (out_ill s1 (sim_cm hA hE ht c3 hpl hbd ⟨by show f.2.2.2.2.1 ≤ _; omega, Or.inl hf1.symm⟩ hf2) (fun p1 F e hq _ => ?_))
    obtain ⟨S3, c, a1, a2, a3, a4, a5, a6, a7⟩ := hq
    have hadv := ps_ad_cm (tx := tx) (sc := sc) hE hpl
    rw [e] at hadv
    have hp1 : p + 1 < p1 := hadv.1
    have hp1L : p1 ≤ L := hadv.2
    by_cases hcm : isCmp tx L p1
    · have : ¬ rd_ch tx L p1 = 123 := by rcases hcm with h | h <;> omega
      rw [ps_xp_f this]
      obtain ⟨Nr, mr, VSr, SGr, hraw⟩ := a2.1
      obtain ⟨S4, b1, b2⟩ := cmp_ill ht hp1L hraw (a7 hcm) a3 a4 a5 a6 hcm
      exact ⟨S4, s1.tr (a1.tr b1), b2⟩
    · obtain ⟨T, N', m', v, w, t1, t2, t3, t4, t5, t6, t7⟩ := beh_end ht hp1L a2 hf1 (by omega) (by omega) a3 a4 a5 a6 hcm
      obtain ⟨Nr, mr, VSr, SGr, hraw⟩ := a2.1
      have b1 := t3.1
      have b2 := t3.2.1
      have hNm : N' m = (8, 0, [], false, false) := by rw [t2 m (by omega), nd_new_s]
      have h300 := t1.2.2.2.1.2.1
      obtain ⟨S5, q5, c5, o5⟩ := rp_add (n := m) (c := v) t1 (by omega) (by omega) (by omega) t4
      have hmt0 : (0 : Int32) ≤ nI m := nI_pos' (by omega)
      have beh : ∀ Q : rm_S → Prop, wp_want S5 123 (fun S29 => Q (rm_pf S29 33 3)) → wp_readBehind S3 Q := fun Q hQ => t7 Q ⟨fun _ => q5 _ hQ, fun h9 => absurd hmt0 h9⟩
      by_cases hc : rd_ch tx L p1 = 123
      · rw [ps_xp_t hc]
        have hpl1 : p1 < L := rd_ch_in (tx := tx) (by omega)
        have c6 := rp_md (rp_at5 c5 (p1 + 1)) 3
        have s2 : RTs S _ := s1.tr (a1.tr (rt_2 hraw (fun Q hQ => beh Q (w_want_1 (c := 123) ht c5 hp1L hc hQ))))
        have hNm2 : nd_add N' m v m = (8, 0, [v], false, false) := by rw [nd_add_n, hNm]; rfl
        refine out_mono (sim_cs (f := fm f c (nI m)) (n := m) (a := v) (m1 := m') (wa := w) (A := F) (N0 := N) (p0 := p) hX hE ht rfl hb 8 0 0 (p1 + 1) [] (nd_add N' m v) m' 0 _ (by omega) rfl (fun t _ => ?_) List.nodup_nil (fun x hx => absurd hx List.not_mem_nil) hpl1 c6 (by omega) (by rw [hNm2]) (by rw [hNm2]; rfl) (by rw [hNm2]) (gen_N t3 (fun i i1 i2 => nq_add (by omega))) (Nat.le_refl _) (fun i hi9 => ?_) (by omega) (by omega) (by omega)) (fun q hq => ?_) (fun p4 G _ hq => ?_)
        · simp
        · rw [nd_add_o (by omega) (by omega), t2 i (by omega), nd_new_n (by omega)]
        · obtain ⟨S6, d1, d2⟩ := hq; exact ⟨S6, s2.tr d1, d2⟩
        · obtain ⟨T2, N2, m2, w2, d1, d2, d3, d4, d5, d6, d7⟩ := hq
          exact Or.inr ⟨T2, N2, m2, m, w2, c, nI m, 3, d1, d2, d3, d4, d5, d6, fun S2 hS2 => s2.tr (d7 S2 hS2)⟩
      · rw [ps_xp_f hc]
        have il := il_pf (k := 33) (v := 3) (rp_il6 c5) (by decide) (by decide)
        exact ⟨_, s1.tr (a1.tr (rt_2 hraw (fun Q hQ => beh Q (w_want_0 (c := 123) ht c5 hp1L (by omega) hc hQ)))), il⟩
  · rw [if_neg h63]
    have c3 := rp_md h 1
    have s1 : RTs S _ := rt_0 h (fun Q hQ => head Q ⟨fun _ => hQ, fun h9 => absurd h9 h63⟩)
    have hbd : bd_ok p m sc HD VS SG 1 := ⟨by omega, by omega, by omega, by omega, by omega⟩
    refine out_ill s1 (sim_cm hA hE ht c3 hp hbd ⟨by omega, Or.inl hf1.symm⟩ hf2) (fun p1 F e hq => ?_)
    obtain ⟨S3, c, a1, a2, a3, a4, a5, a6, a7⟩ := hq
    have hadv := ps_ad_cm (tx := tx) (sc := sc) hE hp
    rw [e] at hadv
    have hp1 : p < p1 := hadv.1
    have hp1L : p1 ≤ L := hadv.2
    obtain ⟨Nr, mr, VSr, SGr, hraw⟩ := a2.1
    by_cases hcm : isCmp tx L p1
    · obtain ⟨S4, b1, b2⟩ := cmp_ill ht hp1L hraw (a7 hcm) a3 a4 a5 a6 hcm
      exact Or.inl ⟨hcm, S4, s1.tr (a1.tr b1), b2⟩
    · obtain ⟨T, N', m', v, w, t1, t2, t3, t4, t5, t6, t7⟩ := beh_end ht hp1L a2 hf1 (by omega) (by omega) a3 a4 a5 a6 hcm
      have hmt : ¬ (0 : Int32) ≤ (fc f c).2.2.2.2.2.2.2 := by
        show ¬ (0 : Int32) ≤ f.2.2.2.2.2.2.2
        rw [hf3]; decide
      exact Or.inr ⟨T, N', m', v, w, c, f.2.2.2.2.2.2.2, 2, t1, t2, t3, t4, t5, t6, fun S2 hS2 => s1.tr (a1.tr (rt_2 hraw (fun Q hQ => t7 Q ⟨fun h9 => absurd h9 hmt, fun _ => hS2 Q hQ⟩)))⟩
end EX
