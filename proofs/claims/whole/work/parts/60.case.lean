/-! A CASE IS READ -/
section CR
variable {S0 S : rm_S} {L p m : Nat} {tx : Nat → Nat} {N : Nat → nd_T} {sc : List Nat} {f : rf_T} {FR : List rf_T} {HD : List (Int32 × Int32)} {VS SG : List Nat} {E : List Nat → Nat → ps_Q fr_F}
theorem nI_65 {c : Nat} (h : 65 ≤ c) : nI c - 65 = nI (c - 65) := by
  rw [show c = (c - 65) + 65 by omega, ← nI_add]
  show nI (c - 65) + (65 : Int32) - 65 = _
  rw [Int32.add_sub_cancel, show c - 65 + 65 - 65 = c - 65 by omega]
theorem rm_pf_id {T : rm_S} {k : Nat} {v : Int32} (h : T.1 k = v) : rm_pf T k v = T := by
  refine Prod.ext (funext fun j => ?_) rfl
  show (if j = k then v else T.1 j) = T.1 j
  by_cases e : j = k
  · rw [if_pos e, e, h]
  · rw [if_neg e]
theorem l_31i {n a : Nat} {v2 : Int32} {cs : List cz_T} (hn : n < m) (hch : (N n).2.2.1 = a :: cs.map (fun x => x.1)) (hok : cz_ok N m cs) (hl : cs.length ≤ 300) : ∀ (t pre : List cz_T) (T : rm_S), cs = pre ++ t → ns_at N m T → T.1 6 = 1 → ∀ (Q : rm_S → Prop) (K : Int32 → rm_S → Prop), (∀ x, K x T) → wl_readCase_31 (nI n) v2 Q K (t.length + 1) (nI (pre.length + 1)) T := by
  intro t
  induction t with
  | nil =>
    intro pre T hp hns _ Q K hK
    have hm := hns.2.1
    have e : pre.length = cs.length := by rw [hp, List.append_nil]
    refine ⟨nI_vp (by omega) (by omega), fun _ => hK _, fun h9 => absurd ?_ h9⟩
    rw [nI_clamp (by omega), (hns.2.2.1 n hn).2.2.2.2.1, hch]
    exact nI_le (by rw [List.length_cons, List.length_map]; omega) (by omega)
  | cons x t ih =>
    intro pre T hp hns h6 Q K hK
    have hm := hns.2.1
    have hpl : pre.length + (t.length + 1) = cs.length := by rw [hp, List.length_append]; rfl
    have hx := hok x (by rw [hp]; simp)
    have hat : (N n).2.2.1[pre.length + 1]? = some x.1 := by
      rw [hch, List.getElem?_cons_succ, hp, List.map_append, List.getElem?_append_right (by simp)]
      simp
    have hnl : ¬ T.2 13 (nI n).toNatClampNeg ≤ nI (pre.length + 1) := by
      rw [nI_clamp (by omega), (hns.2.2.1 n hn).2.2.2.2.1, hch]
      exact nI_ge (by rw [List.length_cons, List.length_map]; omega) (by rw [List.length_cons, List.length_map]; omega)
    have hlp : (pre ++ [x]).length = pre.length + 1 := by simp
    have r := ih (pre ++ [x]) T (by rw [hp]; simp) hns h6 Q K hK
    rw [hlp] at r
    refine ⟨nI_vp (by omega) (by omega), fun h9 => absurd h9 hnl, fun _ => rn_at hns hn hat _ ⟨nI_vp (by omega) (by omega), fun _ => ?_, fun _ => ?_⟩⟩
    · rw [nI_1]; exact r
    · rw [nI_1, rm_pf_id h6]; exact r
theorem case_no {n a : Nat} {cs : List cz_T} (ht : rt_ok S0 L tx) (hp : p ≤ L) (h : rp S0 p N m sc (f :: FR) HD VS SG 3 0 S) (hmt : f.2.2.2.2.2.2.2 = nI n) (hn : n < m) (hch : (N n).2.2.1 = a :: cs.map (fun x => x.1)) (hok : cz_ok N m cs) (h8 : ∀ x ∈ cs, x.2.1 < 8) (hl : cs.length ≤ 8) (hno : ¬ (65 ≤ rd_ch tx L p ∧ rd_ch tx L p ≤ 72) ∨ ∃ x ∈ cs, x.2.1 = rd_ch tx L p - 65) : ILL S0 S p := by
  have hm := h.2.2.2.1.2.1
  have htop := rp_top h
  have hchr := rt_ch ht p
  have hil := rp_il6 h
  by_cases hk : 65 ≤ rd_ch tx L p ∧ rd_ch tx L p ≤ 72
  · have hx : ∃ x ∈ cs, x.2.1 = rd_ch tx L p - 65 := by
      rcases hno with h9 | h9
      · exact absurd hk h9
      · exact h9
    obtain ⟨T', a1, a2, a3⟩ := l_31 (nI_65 hk.1) (by omega) hn hch hok h8 (by omega) cs [] S rfl h.2.2.2.1
    rw [a1 hx] at a3
    refine ⟨_, rt_3 h (fun Q hQ => ?_), hil⟩
    unfold wp_readCase
    refine ⟨by rw [htop.1]; exact htop.2.1, rp_lk ht h hp (w_isCons hchr ⟨fun _ => ⟨cs.length + 1, ?_⟩, fun h9 => absurd hk (ch_b0.mp h9)⟩)⟩
    rw [htop.1, htop.2.2.1, htop.2.2.2.2.2.2.2.2.2.2, hmt]
    exact a3 _ _ (fun x => ⟨fun h9 => absurd h9 hil.2.2, fun _ => hQ⟩)
  · have a3 := l_31i (v2 := nI (rd_ch tx L p)) hn hch hok (by omega) cs [] (rm_pf S 6 1) rfl h.2.2.2.1 rfl
    refine ⟨_, rt_3 h (fun Q hQ => ?_), hil⟩
    unfold wp_readCase
    refine ⟨by rw [htop.1]; exact htop.2.1, rp_lk ht h hp (w_isCons hchr ⟨fun h9 => absurd (ch_b0.mpr hk) h9, fun _ => ⟨cs.length + 1, ?_⟩⟩)⟩
    rw [htop.1, htop.2.2.1, htop.2.2.2.2.2.2.2.2.2.2, hmt]
    exact a3 _ _ (fun x => ⟨fun h9 => absurd h9 hil.2.2, fun _ => hQ⟩)
/-- one case -/
theorem case_yes {n a m1 wa wb : Nat} {A : fr_F} {cs : List cz_T} (hX : SX S0 L tx E (FR.length + 1)) (hE : ∀ sc p, p ≤ L → ps_ad L p (E sc p)) (ht : rt_ok S0 L tx) (hp : p < L) (h : rp S0 p N m sc (f :: FR) HD VS SG 3 0 S) (hmt : f.2.2.2.2.2.2.2 = nI n) (hn : n < m) (hch : (N n).2.2.1 = a :: cs.map (fun x => x.1)) (hfl : (N n).2.2.2.2 = false) (hga : gen_is N (n + 1) m1 a A wa) (hcz : cz N wb m1 cs m) (hl : cs.length < 8) (hk : 65 ≤ rd_ch tx L p ∧ rd_ch tx L p ≤ 72) (hnew : ¬ ∃ x ∈ cs, x.2.1 = rd_ch tx L p - 65) (h8 : ∀ x ∈ cs, x.2.1 < 8) (hb : bd_ok p m sc HD VS SG 0) : out (ps_cb tx L E sc (rd_ch tx L p - 65) (p + 1)) (ILL S0 S) (fun p' B => ∃ (S' : rm_S) (N' : Nat → nd_T) (m' v w : Nat) (F : fr_F), RTs S S' ∧ rp S0 p' N' m' sc (f :: FR) HD VS SG 3 (if rd_ch tx L p' = 125 then 1 else 0) S' ∧ B = fr_cb ((rd_ch tx L p - 65) % 4) F ∧ (∀ i, i < n → N' i = N i) ∧ (N' n).1 = (N n).1 ∧ (N' n).2.2.1 = a :: (cs ++ [(m, rd_ch tx L p - 65, v, F)]).map (fun x => x.1) ∧ (N' n).2.2.2.2 = false ∧ m < m' ∧ gen_is N' (n + 1) m1 a A wa ∧ cz N' (max wb w) m1 (cs ++ [(m, rd_ch tx L p - 65, v, F)]) m' ∧ m' + 2 * p + 6 ≤ m + 2 * p' ∧ w + 21 + 6 * p ≤ 6 * p') := by
  have hL := ht.2.1
  have hm := h.2.2.2.1.2.1
  have htop := rp_top h
  have hchr := rt_ch ht p
  have g0 := hb
  obtain ⟨g1, g2, g3, g4, g5⟩ := g0
  have a1' := hga.1
  have a2' := hga.2.1
  have hzle := cz_le hcz
  have htag : rd_ch tx L p - 65 < 8 := by omega
  have hok : cz_ok N m cs := cz_get (N := N) hcz (fun i _ i2 => ⟨nq.rf, i2⟩)
  obtain ⟨T', _, b2, b3⟩ := l_31 (nI_65 hk.1) (by omega) hn hch hok h8 (by omega) cs [] S rfl h.2.2.2.1
  rw [b2 hnew] at b3
  have c1 := rp_at5 h (p + 1)
  obtain ⟨q2, c2⟩ := rp_node (k := 9) (v := nI (rd_ch tx L p - 65)) c1 (by omega)
  obtain ⟨S3, q3, c3, o3⟩ := rp_add (n := n) (c := m) c2 (by omega) (by omega) (by omega) (by rw [nd_new_s])
  have hmn : m ≠ n := by omega
  have hN2m : nd_add (nd_new N m 9 (nI (rd_ch tx L p - 65))) n m m = (9, nI (rd_ch tx L p - 65), [], false, true) := by rw [nd_add_c hmn, nd_new_s]
  have e15 : S3.1 15 = nI sc.length := c3.2.2.2.2.1.1
  have hsc : sc = sc ++ [] := (List.append_nil sc).symm
  have c3' : rp S0 (p + 1) (nd_add (nd_new N m 9 (nI (rd_ch tx L p - 65))) n m) (m + 1) (sc ++ []) (f :: FR) HD VS SG 3 0 S3 := by rw [List.append_nil]; exact c3
  have go : ∀ Q : rm_S → Prop, (∃ nn : Nat, wl_readCase_114 (nI n) (nI (rd_ch tx L p)) (nI m) (nI sc.length) Q (fun w41 S40 => ((¬ (S40.1 6) = 0 → wp_begin S40 5 (nI m) (fun S44 => ((¬ (S44.1 6) = 0 → Q S44) ∧ ((S44.1 6) = 0 → (vp_in ((S44.1 17) - 1) 8 ∧ Q (rm_pa S44 20 (((S44.1 17) - 1).toNatClampNeg) (nI sc.length))))))) ∧ ((S40.1 6) = 0 → wp_want S40 58 (fun S48 => wp_begin S48 5 (nI m) (fun S50 => ((¬ (S50.1 6) = 0 → Q S50) ∧ ((S50.1 6) = 0 → (vp_in ((S50.1 17) - 1) 8 ∧ Q (rm_pa S50 20 (((S50.1 17) - 1).toNatClampNeg) (nI sc.length)))))))))) nn (nI 0) S3) → wp_readCase S Q := by
    intro Q hQ
    unfold wp_readCase
    refine ⟨by rw [htop.1]; exact htop.2.1, rp_lk ht h (by omega) (w_isCons hchr ⟨fun _ => ⟨cs.length + 1, ?_⟩, fun h9 => absurd hk (ch_b0.mp h9)⟩)⟩
    rw [htop.1, htop.2.2.1, htop.2.2.2.2.2.2.2.2.2.2, hmt]
    refine b3 _ _ (fun x => ⟨fun _ => ?_, fun h9 => absurd h.2.2.1 h9⟩)
    rw [h.2.1, nI_1, nI_65 hk.1]
    refine q2 _ (q3 _ ?_)
    rw [e15]
    exact hQ
  have hnames := l_114 (f := f) (FR := FR) (HD := HD) (VS := VS) (SG := SG) (md := 3) (en := 0) (v1 := nI n) (v2 := nI (rd_ch tx L p)) (n := m) (sc0 := sc) ht htag (by omega) (by rw [hN2m]) ((rd_ch tx L p - 65) % 4) 0 (p + 1) [] S3 (by omega) rfl hp (by rw [List.append_nil]; omega) c3'
  rw [List.append_nil] at hnames
  show out (ps_bd (ps_nm tx L ((rd_ch tx L p - 65) % 4) 0 sc (p + 1)) (fun p1 sc1 => ps_cb2 tx L E ((rd_ch tx L p - 65) % 4) p1 sc1)) _ _
  refine out_bd (out_mono hnames (fun q hq => ?_) (fun p1 sc1 _ hq _ => ?_))
  · obtain ⟨T, d1, d2⟩ := hq
    obtain ⟨T2, w1, w2⟩ := w_begin_il (a1 := 5) (a2 := nI m) d1
    exact ⟨T2, rt_3 h (fun Q hQ => go Q (d2 _ _ (fun x => ⟨fun _ => w1 _ ⟨fun _ => hQ, fun h9 => absurd h9 w2.2.2⟩, fun h9 => absurd h9 d1.2.2⟩))), w2⟩
  · obtain ⟨T, zs, d1, d2, d3, d4, d5, d6⟩ := hq
    subst d1
    unfold ps_cb2
    by_cases hc : rd_ch tx L p1 = 58
    · have hpl : p1 < L := rd_ch_in (tx := tx) (by omega)
      rw [ps_xp_t hc]
      have c5 := rp_at5 d5 (p1 + 1)
      have hfl2 : (f :: FR).length = FR.length + 1 := rfl
      have hlen : sc.length ≤ (sc ++ zs).length := by rw [List.length_append]; omega
      rcases hX with ⟨h6, hE0⟩ | ⟨h6, hSE⟩
      · rw [hE0]
        have il := rp_il6 c5
        exact ⟨_, rt_3 h (fun Q hQ => go Q (d6 _ _ (fun x => ⟨fun h9 => absurd d5.2.2.1 h9, fun _ => w_want_1 (c := 58) ht d5 d4 hc (w_begin_0 c5 (by omega) ⟨fun _ => hQ, fun h9 => absurd h9 il.2.2⟩)⟩))), il⟩
      · have c6 := rp_begin (a := 5) (a2 := nI m) c5 (by omega)
        have htop6 := rp_top c6
        have c7 := rp_f20 (v := sc.length) c6
        have s1 : RTs S _ := rt_3 h (fun Q hQ => go Q (d6 _ _ (fun x => ⟨fun h9 => absurd d5.2.2.1 h9, fun _ => w_want_1 (c := 58) ht d5 d4 hc (w_begin_1 (a1 := nI 5) (a2 := nI m) c5 (by omega) ⟨fun h9 => absurd c6.2.2.1 h9, fun _ => ⟨by rw [htop6.1]; exact htop6.2.1, by rw [htop6.1, htop6.2.2.1]; exact hQ⟩⟩)⟩)))
        refine out_bd (out_mono (hSE (p1 + 1) _ (m + 1) (sc ++ zs) _ (f :: FR) HD VS SG _ rfl c7 hpl ⟨by omega, by omega, by omega, by omega, by omega⟩ rfl rfl rfl rfl) (fun q hq => ?_) (fun p3 F e3 hq _ => ?_))
        · obtain ⟨S4, a1, a2⟩ := hq; exact ⟨S4, s1.tr a1, a2⟩
        · have hadv := hE (sc ++ zs) (p1 + 1) hpl
          rw [e3] at hadv
          have hp3 : p1 + 1 < p3 := hadv.1
          have hp3L : p3 ≤ L := hadv.2
          rcases hq with ⟨hcc, S4, a1, a2⟩ | ⟨S1, N1, m4, v, w, ys, c, mt, md1, a1, a2, a3, a4, a5, a6, a7⟩
          · have : ¬ rd_ch tx L p3 = 59 := by rcases hcc with h | h <;> omega
            rw [ps_xp_f this]
            exact ⟨S4, s1.tr a1, a2⟩
          · have b1 := a3.1
            have b2 := a3.2.1
            have hret0 := rp_ret a1 (by rw [fm_sc]; show sc.length ≤ _; rw [List.length_append]; omega)
            have htk : (sc ++ zs ++ ys).take sc.length = sc := by rw [List.append_assoc]; exact List.take_left' rfl
            have hret : rp S0 p3 N1 m4 sc (f :: FR) HD VS SG md1 0 (rs_ret S1 sc.length (f :: FR).length) := by
              rw [fm_sc] at hret0
              have e : (sc ++ zs ++ ys).take ((5, nI m, HD.length, sc.length, SG.length, (rm_pf T 5 (nI (p1 + 1))).2 23 (f :: FR).length, (0 : Int32), (-1 : Int32)) : rf_T).2.2.2.1 = sc := htk
              rw [show ((5, nI m, HD.length, (sc ++ zs).length, SG.length, (rm_pf T 5 (nI (p1 + 1))).2 23 (f :: FR).length, (0 : Int32), (-1 : Int32)) : rf_T).1 = 5 from rfl] at hret0
              have hret1 : rp S0 p3 N1 m4 ((sc ++ zs ++ ys).take sc.length) (f :: FR) HD VS SG md1 0 (rs_ret S1 sc.length (f :: FR).length) := hret0
              rw [htk] at hret1; exact hret1
            have htop1 := rp_top a1
            have e22 : S1.2 22 (f :: FR).length = nI m := htop1.2.2.2.2.1
            have hN1m : N1 m = (9, nI (rd_ch tx L p - 65), [], false, true) := by rw [a2 m (by omega)]; exact hN2m
            by_cases hc2 : rd_ch tx L p3 = 59
            · rw [ps_xp_t hc2]
              have hpl3 : p3 < L := rd_ch_in (tx := tx) (by omega)
              have c8 := rp_at5 hret (p3 + 1)
              obtain ⟨S9, q9, c9, o9⟩ := rp_add (n := m) (c := v) c8 (by omega) (by omega) (by omega) a4
              have ca := rp_md c9 3
              have hchr4 := rt_ch ht (p3 + 1)
              have q125 : nI (rd_ch tx L (p3 + 1)) = 125 ↔ rd_ch tx L (p3 + 1) = 125 := nI_eq (b := 125) (by omega) (by omega)
              have fin : ∃ S' : rm_S, (∀ Q : rm_S → Prop, Q S' → wp_caseEnds (rm_pf S9 33 3) Q) ∧ rp S0 (p3 + 1) (nd_add N1 m v) m4 sc (f :: FR) HD VS SG 3 (if rd_ch tx L (p3 + 1) = 125 then 1 else 0) S' := by
                by_cases h125 : rd_ch tx L (p3 + 1) = 125
                · rw [if_pos h125]
                  exact ⟨_, fun Q hQ => ⟨fun h9 => absurd ca.2.2.1 h9, fun _ => rp_lk ht ca hpl3 ⟨fun h9 => absurd (q125.mpr h125) h9, fun _ => hQ⟩⟩, rp_en ca 1⟩
                · rw [if_neg h125]
                  exact ⟨_, fun Q hQ => ⟨fun h9 => absurd ca.2.2.1 h9, fun _ => rp_lk ht ca hpl3 ⟨fun _ => hQ, fun h9 => absurd (q125.mp h9) h125⟩⟩, rp_en ca 0⟩
              obtain ⟨Sf, qf, cf⟩ := fin
              have hvm : v ≠ m := by omega
              have hN5n : nd_add N1 m v n = nd_add (nd_new N m 9 (nI (rd_ch tx L p - 65))) n m n := by rw [nd_add_o (by omega) (by omega), a2 n (by omega)]
              have hq5 : ∀ i, i < m → i ≠ n → nq (nd_add N1 m v i) (N i) := fun i i1 i2 => (nq_add (by omega)).tr (by
                rw [a2 i (by omega)]
                exact (nq_add i2).tr (by rw [nd_new_n (by omega)]; exact nq.rf))
              refine ⟨Sf, nd_add N1 m v, m4, v, w, F, s1.tr (a7 Sf (fun Q hQ => sw_5 a1 rfl (show wp_want (rs_ret S1 sc.length (f :: FR).length) 59 _ from w_want_1 (c := 59) ht hret hp3L hc2 ?_))), cf, rfl, fun i hi9 => ?_, ?_, ?_, ?_, by omega, ?_, ?_, by omega, by omega⟩
              · have e22' : (rm_pf (rs_ret S1 sc.length (f :: FR).length) 5 (nI (p3 + 1))).2 22 (f :: FR).length = nI m := e22
                rw [e22']
                exact q9 _ (qf Q hQ)
              · rw [nd_add_o (by omega) (by omega), a2 i (by omega), nd_add_o (by omega) (by omega), nd_new_n (by omega)]
              · rw [hN5n, nd_add_k, nd_new_n (by omega)]
              · rw [hN5n, nd_add_ch hmn, if_pos rfl, nd_new_n (by omega), hch, List.map_append]; rfl
              · rw [hN5n, nd_add_fl hmn, if_neg (by omega), nd_new_n (by omega)]; exact hfl
              · exact gen_N hga (fun i i1 i2 => hq5 i (by omega) (by omega))
              · refine cz_app (x := (m, rd_ch tx L p - 65, v, F)) (cz_up (Nat.le_max_left _ _) (cz_N hcz (fun i i1 i2 => hq5 i i2 (by omega))) (Nat.le_refl _)) ?_ htag (gen_up (gen_N a3 (fun i i1 i2 => nq_add (by omega))) (Nat.le_refl _) (Nat.le_refl _) (Nat.le_max_right _ _))
                refine ⟨?_, ?_, ?_⟩
                · rw [nd_add_k, hN1m]
                · rw [nd_add_v, hN1m]
                · rw [nd_add_ch hvm, if_pos rfl, hN1m]; rfl
            · rw [ps_xp_f hc2]
              have il := rp_il6 hret
              obtain ⟨S9, q9, o9, ns9⟩ := rn_add (S := rm_pf (rs_ret S1 sc.length (f :: FR).length) 6 1) (n := m) (c := v) hret.2.2.2.1 (by omega) (by omega) (by omega) a4
              have il9 : rp_il S0 p3 S9 := ⟨rx_only il.1 o9 (by decide), by rw [o9.1]; exact il.2.1, by rw [o9.1]; exact il.2.2⟩
              have il10 : rp_il S0 p3 (rm_pf (rm_pf S9 33 3) 56 0) := il_pf (il_pf il9 (by decide) (by decide)) (by decide) (by decide)
              refine ⟨_, s1.tr (a7 _ (fun Q hQ => sw_5 a1 rfl (show wp_want (rs_ret S1 sc.length (f :: FR).length) 59 _ from w_want_0 (c := 59) ht hret hp3L (by omega) hc2 ?_))), il10⟩
              have e22' : (rm_pf (rs_ret S1 sc.length (f :: FR).length) 6 1).2 22 (f :: FR).length = nI m := e22
              rw [e22']
              exact q9 _ ⟨fun _ => hQ, fun h9 => absurd h9 (il_pf il9 (k := 33) (v := 3) (by decide) (by decide)).2.2⟩
    · rw [ps_xp_f hc]
      have il := rp_il6 d5
      obtain ⟨T2, w1, w2⟩ := w_begin_il (a1 := 5) (a2 := nI m) il
      exact ⟨T2, rt_3 h (fun Q hQ => go Q (d6 _ _ (fun x => ⟨fun h9 => absurd d5.2.2.1 h9, fun _ => w_want_0 (c := 58) ht d5 d4 (by omega) hc (w1 _ ⟨fun _ => hQ, fun h9 => absurd h9 w2.2.2⟩)⟩))), w2⟩
end CR
