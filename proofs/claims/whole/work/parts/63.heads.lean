/-! HEADS -/
section HX
variable {S0 S : rm_S} {L p m : Nat} {tx : Nat → Nat} {N : Nat → nd_T} {sc : List Nat} {f : rf_T} {FR : List rf_T} {HD : List (Int32 × Int32)} {VS SG : List Nat} {E : List Nat → Nat → ps_Q fr_F}
theorem bound_end {g : rf_T} {k c v : Nat} {scx : List Nat} {md : Int32} {S1 : rm_S} (ht : rt_ok S0 L tx) (hp : p ≤ L) (h : rp S0 p N m scx (g :: FR) HD VS SG md 0 S1) (hk : g.1 = k) (hk2 : k = 6 ∨ k = 7) (hsc : g.2.2.2.1 = sc.length) (htk : scx.take sc.length = sc) (hl : sc.length ≤ scx.length) (hnm : g.2.2.2.2.2.1 = nI c) (hc : c < 65536) (hsl : sc.length < 100) (hhd : HD.length < 60) : (rd_ch tx L p = 59 → ∃ S' : rm_S, (∀ Q : rm_S → Prop, Q S' → cm_sw (nI FR.length) S1 (nI v) Q) ∧ rp S0 (p + 1) N m (sc ++ [c]) FR ((nI k, nI v) :: HD) VS SG 0 0 S') ∧ (¬ rd_ch tx L p = 59 → ∃ S' : rm_S, (∀ Q : rm_S → Prop, Q S' → cm_sw (nI FR.length) S1 (nI v) Q) ∧ rp_il S0 p S') := by
  have htop := rp_top h
  have hret := rp_ret h (by rw [hsc]; exact hl)
  rw [hsc, htk] at hret
  have e23 : S1.2 23 FR.length = nI c := htop.2.2.2.2.2.2.2.2.1.trans hnm
  have e18 : S1.2 18 FR.length = nI k := by rw [htop.2.2.2.1, hk]
  have hst : g.1 = 6 ∨ g.1 = 7 := by rw [hk]; exact hk2
  refine ⟨fun h59 => ?_, fun h59 => ?_⟩
  · have c1 := rp_at5 hret (p + 1)
    have c2 := rp_bind (c := c) c1 hc
    have c3 := rp_head (a1 := nI k) (a2 := nI v) c2
    have c4 := rp_md c3 0
    refine ⟨_, fun Q hQ => sw_6 h hst ?_, c4⟩
    rw [hsc]
    refine w_want_1 (c := 59) ht hret hp h59 ?_
    have e23' : (rm_pf (rs_ret S1 sc.length FR.length) 5 (nI (p + 1))).2 23 FR.length = nI c := e23
    rw [e23']
    refine w_bind c1.2.2.2.2.1 hc hsl ?_
    have e18' : (rs_bind (rm_pf (rs_ret S1 sc.length FR.length) 5 (nI (p + 1))) sc.length c).2 18 FR.length = nI k := e18
    rw [e18']
    exact w_head c2.2.2.2.2.2.2.1 hhd hQ
  · have il := rp_il6 hret
    have il4 : rp_il S0 p (rm_pf (rs_head (rs_bind (rm_pf (rs_ret S1 sc.length FR.length) 6 1) sc.length c) HD.length (nI k) (nI v)) 33 0) := il_pf (il_pf (il_pa (il_pa (il_pf (il_pa il (by decide)) (by decide) (by decide)) (by decide)) (by decide)) (by decide) (by decide)) (by decide) (by decide)
    refine ⟨_, fun Q hQ => sw_6 h hst ?_, il4⟩
    rw [hsc]
    refine w_want_0 (c := 59) ht hret hp (by omega) h59 ?_
    have e23' : (rm_pf (rs_ret S1 sc.length FR.length) 6 1).2 23 FR.length = nI c := e23
    rw [e23']
    refine w_bind (S := rm_pf (rs_ret S1 sc.length FR.length) 6 1) hret.2.2.2.2.1 hc hsl ?_
    have e18' : (rs_bind (rm_pf (rs_ret S1 sc.length FR.length) 6 1) sc.length c).2 18 FR.length = nI k := e18
    rw [e18']
    exact w_head (HD := HD) (S := rs_bind (rm_pf (rs_ret S1 sc.length FR.length) 6 1) sc.length c) hret.2.2.2.2.2.2.1 hhd hQ
/-- what a head leaves -/
def XH (S0 : rm_S) (p : Nat) (N : Nat → nd_T) (m : Nat) (sc : List Nat) (f : rf_T) (FR : List rf_T) (HD : List (Int32 × Int32)) (VS SG : List Nat) (S : rm_S) (p1 : Nat) (x : List Nat × (fr_F → fr_F)) : Prop := ∃ (S' : rm_S) (N' : Nat → nd_T) (m' w : Nat) (hd : Int32 × Int32) (ys : List Nat), RTs S S' ∧ rp S0 p1 N' m' x.1 (f :: FR) (hd :: HD) VS SG 0 0 S' ∧ x.1 = sc ++ ys ∧ x.1.length ≤ p1 ∧ (∀ i, i < m → N' i = N i) ∧ m ≤ m' ∧ m' + 1 + 2 * p ≤ m + 2 * p1 ∧ w + 12 + 6 * p ≤ 6 * p1 ∧ ((hd = (5, -1) ∧ x.2 = fr_fun) ∨ ∃ (b : Nat) (B : fr_F), gen_is N' m m' b B w ∧ (N' b).2.2.2.2 = false ∧ ((hd = (6, nI b) ∧ x.2 = fr_let B) ∨ (hd = (7, nI b) ∧ x.2 = fr_fix B)))
theorem sim_h1 (hX : SX S0 L tx E (FR.length + 1)) (hE : ∀ sc p, p ≤ L → ps_ad L p (E sc p)) (ht : rt_ok S0 L tx) (h : rp S0 p N m sc (f :: FR) HD VS SG 0 0 S) (hp : p ≤ L) (hb : bd_ok p m sc HD VS SG 0) (hh : rd_hd tx L p = true) : out (ps_h1 tx L E sc p) (ILL S0 S) (XH S0 p N m sc f FR HD VS SG S) := by
  have hL := ht.2.1
  have hb' := hb
  obtain ⟨g1, g2, g3, g4, g5⟩ := hb'
  have hch := rt_ch ht p
  have hch1 := rt_ch ht (p + 1)
  have hch2 := rt_ch ht (p + 2)
  have q92 : nI (rd_ch tx L p) = 92 ↔ rd_ch tx L p = 92 := nI_eq (b := 92) (by omega) (by omega)
  have q64 : nI (rd_ch tx L p) = 64 ↔ rd_ch tx L p = 64 := nI_eq (b := 64) (by omega) (by omega)
  have q61 : nI (rd_ch tx L (p + 1)) = 61 ↔ rd_ch tx L (p + 1) = 61 := nI_eq (b := 61) (by omega) (by omega)
  have hpl : p < L := by
    refine rd_ch_in (tx := tx) (fun h9 => ?_)
    unfold rd_hd at hh; rw [h9] at hh; simp at hh
  have hfl : (f :: FR).length = FR.length + 1 := rfl
  unfold ps_h1
  by_cases h92 : rd_ch tx L p = 92
  · rw [if_pos h92]
    have c1 := rp_at5 h (p + 1)
    by_cases hn : 97 ≤ rd_ch tx L (p + 1) ∧ rd_ch tx L (p + 1) ≤ 122
    · rw [if_pos hn]
      have hpl1 : p + 1 < L := rd_ch_in (tx := tx) (by omega)
      have c2 := rp_at5 c1 (p + 1 + 1)
      have c3 := rp_bind (c := rd_ch tx L (p + 1)) c2 hch1
      have c4 := rp_head (a1 := 5) (a2 := -1) c3
      refine ⟨_, N, m, 0, (5, -1), [rd_ch tx L (p + 1)], rt_0 h (fun Q hQ => rp_lk ht h hp ⟨fun h9 => absurd (q92.mpr h92) h9, fun _ => ?_⟩), c4, rfl, ?_, fun _ _ => rfl, Nat.le_refl _, by show m + 1 + 2 * p ≤ m + 2 * (p + 2); omega, by show 0 + 12 + 6 * p ≤ 6 * (p + 2); omega, Or.inl ⟨rfl, rfl⟩⟩
      · rw [h.2.1, nI_1]
        exact w_name_1 ht c1 hpl hn ⟨fun _ => w_bind c2.2.2.2.2.1 hch1 (by omega) (w_head c3.2.2.2.2.2.2.1 (by omega) hQ), fun h9 => absurd c2.2.2.1 h9⟩
      · show (sc ++ [rd_ch tx L (p + 1)]).length ≤ p + 2
        rw [List.length_append]; show sc.length + 1 ≤ p + 2; omega
    · rw [if_neg hn]
      have il := rp_il6 c1
      refine ⟨_, rt_0 h (fun Q hQ => rp_lk ht h hp ⟨fun h9 => absurd (q92.mpr h92) h9, fun _ => ?_⟩), il⟩
      rw [h.2.1, nI_1]
      exact w_name_0 ht c1 hpl hn ⟨fun h9 => absurd h9 il.2.2, fun _ => hQ⟩
  · rw [if_neg h92]
    by_cases h64 : rd_ch tx L p = 64
    · rw [if_pos h64]
      have c1 := rp_at5 h (p + 1)
      have go : ∀ Q : rm_S → Prop, wp_readFix (rm_pf S 5 (nI (p + 1))) Q → wp_readHead S Q := by
        intro Q hQ
        have nn : ¬ (97 ≤ rd_ch tx L p ∧ rd_ch tx L p ≤ 122) := by omega
        refine rp_lk ht h hp ⟨fun _ => w_isName hch ⟨fun _ => ⟨fun h9 => absurd (q64.mpr h64) h9, fun _ => ?_⟩, fun h9 => absurd (ch_b0.mpr nn) h9⟩, fun h9 => absurd (q92.mp h9) h92⟩
        rw [h.2.1, nI_1]; exact hQ
      by_cases hn : 97 ≤ rd_ch tx L (p + 1) ∧ rd_ch tx L (p + 1) ≤ 122
      · rw [if_pos hn]
        have hpl1 : p + 1 < L := rd_ch_in (tx := tx) (by omega)
        have c2 := rp_at5 c1 (p + 2)
        by_cases he : rd_ch tx L (p + 2) = rd_ch tx L (p + 1)
        · rw [if_pos he]
          have il := rp_il6 c2
          obtain ⟨x, T2, w1, w2⟩ := w_name_il ht il (by omega)
          refine ⟨T2, rt_0 h (fun Q hQ => go Q (w_name_1 ht c1 hpl hn ⟨fun h9 => absurd c2.2.2.1 h9, fun _ => rp_lk ht c2 (by omega) ⟨fun h9 => absurd (by rw [he]) h9, fun _ => w1 _ ⟨fun _ => ⟨fun h9 => absurd h9 w2.2.2, fun _ => hQ⟩, fun h9 => absurd h9 w2.2.2⟩⟩⟩)), w2⟩
        · rw [if_neg he]
          have hne : ¬ nI (rd_ch tx L (p + 2)) = nI (rd_ch tx L (p + 1)) := fun h9 => he ((nI_eq (by omega) (by omega)).mp h9)
          by_cases hn2 : 97 ≤ rd_ch tx L (p + 2) ∧ rd_ch tx L (p + 2) ≤ 122
          · rw [if_pos hn2]
            have hpl2 : p + 2 < L := rd_ch_in (tx := tx) (by omega)
            have c3 := rp_at5 c2 (p + 3)
            by_cases h61 : rd_ch tx L (p + 3) = 61
            · rw [ps_xp_t h61]
              have hpl3 : p + 3 < L := rd_ch_in (tx := tx) (by omega)
              have c4 := rp_at5 c3 (p + 4)
              have c5 := rp_bind (c := rd_ch tx L (p + 1)) c4 hch1
              have c6 := rp_bind (c := rd_ch tx L (p + 2)) c5 hch2
              have e6 : sc ++ [rd_ch tx L (p + 1)] ++ [rd_ch tx L (p + 2)] = sc ++ [rd_ch tx L (p + 1), rd_ch tx L (p + 2)] := by rw [List.append_assoc]; rfl
              rw [e6] at c6
              have l5 : (sc ++ [rd_ch tx L (p + 1)]).length = sc.length + 1 := by rw [List.length_append]; rfl
              have l6 : (sc ++ [rd_ch tx L (p + 1), rd_ch tx L (p + 2)]).length = sc.length + 2 := by rw [List.length_append]; rfl
              rw [l5] at c6
              have pre : ∀ Q : rm_S → Prop, wp_begin (rs_bind (rs_bind (rm_pf (rm_pf (rm_pf (rm_pf S 5 (nI (p + 1))) 5 (nI (p + 2))) 5 (nI (p + 3))) 5 (nI (p + 4))) sc.length (rd_ch tx L (p + 1))) (sc.length + 1) (rd_ch tx L (p + 2))) 7 (-1) (fun S57 => (((S57.1 6) = 0 → (vp_in ((S57.1 17) - 1) 8 ∧ (vp_in ((S57.1 17) - 1) 8 ∧ Q (rm_pa (rm_pa S57 20 (((S57.1 17) - 1).toNatClampNeg) (nI sc.length)) 23 (((S57.1 17) - 1).toNatClampNeg) (nI (rd_ch tx L (p + 1))))))) ∧ (¬ (S57.1 6) = 0 → Q S57))) → wp_readHead S Q := by
                intro Q hQ
                refine go Q (w_name_1 ht c1 hpl hn ⟨fun h9 => absurd c2.2.2.1 h9, fun _ => rp_lk ht c2 (by omega) ⟨fun _ => w_name_1 ht c2 (by omega) hn2 ⟨fun h9 => absurd c3.2.2.1 h9, fun _ => w_want_1 (c := 61) ht c3 (by omega) h61 ⟨fun _ => ?_, fun h9 => absurd c4.2.2.1 h9⟩⟩, fun h9 => absurd h9 hne⟩⟩)
                refine w_bind c4.2.2.2.2.1 hch1 (by omega) (w_bind (sc := sc ++ [rd_ch tx L (p + 1)]) c5.2.2.2.2.1 hch2 (by omega) ?_)
                have e15 : (rm_pf (rm_pf (rm_pf (rm_pf S 5 (nI (p + 1))) 5 (nI (p + 2))) 5 (nI (p + 3))) 5 (nI (p + 4))).1 15 = nI sc.length := h.2.2.2.2.1.1
                rw [l5, e15, rd_nar hch1]
                exact hQ
              rcases hX with ⟨h6, hE0⟩ | ⟨h6, hSE⟩
              · rw [hE0]
                have il := rp_il6 c6
                exact ⟨_, rt_0 h (fun Q hQ => pre Q (w_begin_0 c6 (by omega) ⟨fun h9 => absurd h9 il.2.2, fun _ => hQ⟩)), il⟩
              · have c7 := rp_begin (a := 7) (a2 := -1) c6 (by omega)
                have htop7 := rp_top c7
                have c8 := rp_f23 (v := nI (rd_ch tx L (p + 1))) (rp_f20 (v := sc.length) c7)
                have s1 : RTs S _ := rt_0 h (fun Q hQ => pre Q (w_begin_1 (a1 := nI 7) (a2 := -1) c6 (by omega) ⟨fun _ => ⟨by rw [htop7.1]; exact htop7.2.1, by rw [htop7.1]; exact htop7.2.1, by rw [htop7.1, htop7.2.2.1]; exact hQ⟩, fun h9 => absurd c7.2.2.1 h9⟩))
                refine out_bd (out_mono (hSE (p + 4) N m _ _ (f :: FR) HD VS SG _ rfl c8 hpl3 ⟨by omega, by omega, by omega, by omega, by omega⟩ rfl rfl rfl rfl) (fun q hq => ?_) (fun p5 B e5 hq _ => ?_))
                · obtain ⟨S4, a1, a2⟩ := hq; exact ⟨S4, s1.tr a1, a2⟩
                · have hadv := hE (sc ++ [rd_ch tx L (p + 1), rd_ch tx L (p + 2)]) (p + 4) hpl3
                  rw [e5] at hadv
                  have hp5 : p + 4 < p5 := hadv.1
                  have hp5L : p5 ≤ L := hadv.2
                  rcases hq with ⟨hcc, S4, a1, a2⟩ | ⟨S1, N1, m4, v, w, ys, c, mt, md1, a1, a2, a3, a4, a5, a6, a7⟩
                  · have : ¬ rd_ch tx L p5 = 59 := by rcases hcc with h | h <;> omega
                    rw [ps_xp_f this]
                    exact ⟨S4, s1.tr a1, a2⟩
                  · obtain ⟨e1, e2⟩ := bound_end (sc := sc) (k := 7) (c := rd_ch tx L (p + 1)) (v := v) ht hp5L a1 rfl (Or.inr rfl) rfl (by rw [List.append_assoc]; exact List.take_left' rfl) (by rw [List.append_assoc, List.length_append]; omega) rfl hch1 (by omega) (by omega)
                    by_cases h59 : rd_ch tx L p5 = 59
                    · rw [ps_xp_t h59]
                      obtain ⟨S', d1, d2⟩ := e1 h59
                      refine ⟨S', N1, m4, w, (7, nI v), [rd_ch tx L (p + 1)], s1.tr (a7 S' d1), d2, rfl, ?_, a2, ?_, by show m4 + 1 + 2 * p ≤ m + 2 * (p5 + 1); omega, by show w + 12 + 6 * p ≤ 6 * (p5 + 1); omega, Or.inr ⟨v, B, a3, a4, Or.inr ⟨rfl, rfl⟩⟩⟩
                      · show (sc ++ [rd_ch tx L (p + 1)]).length ≤ p5 + 1; omega
                      · have := a3.1; have := a3.2.1; omega
                    · rw [ps_xp_f h59]
                      obtain ⟨S', d1, d2⟩ := e2 h59
                      exact ⟨S', s1.tr (a7 S' d1), d2⟩
            · rw [ps_xp_f h61]
              have il := rp_il6 c3
              exact ⟨_, rt_0 h (fun Q hQ => go Q (w_name_1 ht c1 hpl hn ⟨fun h9 => absurd c2.2.2.1 h9, fun _ => rp_lk ht c2 (by omega) ⟨fun _ => w_name_1 ht c2 (by omega) hn2 ⟨fun h9 => absurd c3.2.2.1 h9, fun _ => w_want_0 (c := 61) ht c3 (by omega) (by omega) h61 ⟨fun h9 => absurd h9 il.2.2, fun _ => hQ⟩⟩, fun h9 => absurd h9 hne⟩⟩)), il⟩
          · rw [if_neg hn2]
            have il := rp_il6 c2
            exact ⟨_, rt_0 h (fun Q hQ => go Q (w_name_1 ht c1 hpl hn ⟨fun h9 => absurd c2.2.2.1 h9, fun _ => rp_lk ht c2 (by omega) ⟨fun _ => w_name_0 ht c2 (by omega) hn2 ⟨fun _ => ⟨fun h9 => absurd h9 il.2.2, fun _ => hQ⟩, fun h9 => absurd h9 il.2.2⟩, fun h9 => absurd h9 hne⟩⟩)), il⟩
      · rw [if_neg hn]
        have il := rp_il6 c1
        obtain ⟨x, T2, w1, w2⟩ := w_name_il ht il (by omega)
        exact ⟨T2, rt_0 h (fun Q hQ => go Q (w_name_0 ht c1 hpl hn ⟨fun _ => w1 _ ⟨fun _ => ⟨fun h9 => absurd h9 w2.2.2, fun _ => hQ⟩, fun h9 => absurd h9 w2.2.2⟩, fun h9 => absurd h9 il.2.2⟩)), w2⟩
    · rw [if_neg h64]
      have hnm : (97 ≤ rd_ch tx L p ∧ rd_ch tx L p ≤ 122) ∧ rd_ch tx L (p + 1) = 61 := by
        unfold rd_hd at hh
        simp only [Bool.or_eq_true, Bool.and_eq_true, decide_eq_true_eq] at hh
        rcases hh with h9 | h9 | h9
        · exact absurd h9 h92
        · exact absurd h9 h64
        · exact h9
      have hpl1 : p + 1 < L := rd_ch_in (tx := tx) (by omega)
      have c1 := rp_at5 h (p + 2)
      have pre : ∀ Q : rm_S → Prop, wp_begin (rm_pf S 5 (nI (p + 2))) 6 (-1) (fun S29 => ((¬ (S29.1 6) = 0 → Q S29) ∧ ((S29.1 6) = 0 → (vp_in ((S29.1 17) - 1) 8 ∧ Q (rm_pa S29 23 (((S29.1 17) - 1).toNatClampNeg) (nI (rd_ch tx L p))))))) → wp_readHead S Q := by
        intro Q hQ
        refine rp_lk ht h hp ⟨fun _ => w_isName hch ⟨fun h9 => absurd hnm.1 (ch_b0.mp h9), fun _ => rp_behind ht h.1 h.2.1 hp ⟨fun h9 => absurd (q61.mpr hnm.2) h9, fun _ => ?_⟩⟩, fun h9 => absurd (q92.mp h9) h92⟩
        rw [h.2.1, show (2 : Int32) = nI 2 from rfl, nI_add, rd_nar hch]
        exact hQ
      rcases hX with ⟨h6, hE0⟩ | ⟨h6, hSE⟩
      · rw [hE0]
        have il := rp_il6 c1
        exact ⟨_, rt_0 h (fun Q hQ => pre Q (w_begin_0 c1 (by omega) ⟨fun _ => hQ, fun h9 => absurd h9 il.2.2⟩)), il⟩
      · have c7 := rp_begin (a := 6) (a2 := -1) c1 (by omega)
        have htop7 := rp_top c7
        have c8 := rp_f23 (v := nI (rd_ch tx L p)) c7
        have s1 : RTs S _ := rt_0 h (fun Q hQ => pre Q (w_begin_1 (a1 := nI 6) (a2 := -1) c1 (by omega) ⟨fun h9 => absurd c7.2.2.1 h9, fun _ => ⟨by rw [htop7.1]; exact htop7.2.1, by rw [htop7.1, htop7.2.2.1]; exact hQ⟩⟩))
        refine out_bd (out_mono (hSE (p + 2) N m _ _ (f :: FR) HD VS SG _ rfl c8 hpl1 ⟨by omega, by omega, by omega, by omega, by omega⟩ rfl rfl rfl rfl) (fun q hq => ?_) (fun p5 B e5 hq _ => ?_))
        · obtain ⟨S4, a1, a2⟩ := hq; exact ⟨S4, s1.tr a1, a2⟩
        · have hadv := hE sc (p + 2) hpl1
          rw [e5] at hadv
          have hp5 : p + 2 < p5 := hadv.1
          have hp5L : p5 ≤ L := hadv.2
          rcases hq with ⟨hcc, S4, a1, a2⟩ | ⟨S1, N1, m4, v, w, ys, c, mt, md1, a1, a2, a3, a4, a5, a6, a7⟩
          · have : ¬ rd_ch tx L p5 = 59 := by rcases hcc with h | h <;> omega
            rw [ps_xp_f this]
            exact ⟨S4, s1.tr a1, a2⟩
          · obtain ⟨e1, e2⟩ := bound_end (sc := sc) (k := 6) (c := rd_ch tx L p) (v := v) ht hp5L a1 rfl (Or.inl rfl) rfl (List.take_left' rfl) (by rw [List.length_append]; omega) rfl hch (by omega) (by omega)
            by_cases h59 : rd_ch tx L p5 = 59
            · rw [ps_xp_t h59]
              obtain ⟨S', d1, d2⟩ := e1 h59
              refine ⟨S', N1, m4, w, (6, nI v), [rd_ch tx L p], s1.tr (a7 S' d1), d2, rfl, ?_, a2, ?_, by show m4 + 1 + 2 * p ≤ m + 2 * (p5 + 1); omega, by show w + 12 + 6 * p ≤ 6 * (p5 + 1); omega, Or.inr ⟨v, B, a3, a4, Or.inl ⟨rfl, rfl⟩⟩⟩
              · show (sc ++ [rd_ch tx L p]).length ≤ p5 + 1; rw [List.length_append]; show sc.length + 1 ≤ p5 + 1; omega
              · have := a3.1; have := a3.2.1; omega
            · rw [ps_xp_f h59]
              obtain ⟨S', d1, d2⟩ := e2 h59
              exact ⟨S', s1.tr (a7 S' d1), d2⟩
end HX
