/-! MATCH: the case loop of the code maker -/
def caseU (n : Nat) : Nat → List cz_T → List (Int32 × Int32 × Int32)
  | _, [] => []
  | f, x :: t => (4, nI x.1, nI f) :: (0, nI x.2.2.1, 0) :: (5, nI x.1, nI n) :: caseU n (f + 1) t
theorem caseU_len {n : Nat} : ∀ {cs : List cz_T} {f : Nat}, (caseU n f cs).length = 3 * cs.length := by
  intro cs
  induction cs with
  | nil => intro f; rfl
  | cons x t ih => intro f; simp only [caseU, List.length_cons, ih]; omega
def pre_f (f : Nat) (k : Int32) : List fr_C := if f = 0 then [] else [(k, nI f, 0)]
theorem fr_cb_pre {f : Nat} {B : fr_F} {b : Nat} : (fr_cb f B).2 b = pre_f f 20 ++ (B.2 (b + (pre_f f 20).length) ++ pre_f f 15) := by
  unfold fr_cb pre_f
  by_cases h : f = 0
  · simp only [if_pos h, List.nil_append, List.length_nil, Nat.add_zero, List.append_nil]
  · simp only [if_neg h, List.length_cons, List.length_nil]
    show [(nI 20, nI f, 0)] ++ B.2 (b + 1) ++ [(nI 15, nI f, 0)] = _
    rw [List.append_assoc]; rfl
theorem pre_f_len {f : Nat} {k : Int32} : (pre_f f k).length = if f = 0 then 0 else 1 := by unfold pre_f; split <;> rfl
theorem fr_cb_len {f : Nat} {B : fr_F} {k : Int32} : (fr_cb f B).1 = B.1 + 2 * (pre_f f k).length := by
  rw [pre_f_len]; unfold fr_cb
  by_cases h : f = 0
  · simp only [if_pos h]; omega
  · simp only [if_neg h]; show 1 + B.1 + 1 = _; omega
section CL
variable {N N' : Nat → nd_T} {S0 S : rm_S} {m : Nat} {WS : List (Int32 × Int32 × Int32)} {C P X : List fr_C}
/-- 4 -/
theorem case_4 {c tag : Nat} (hc : cg_at S0 N' m ((4, nI c, nI P.length) :: WS) (P ++ (19, nI tag, 0) :: X) S) (hcm : c < m) (hn : (N' c).2.1 = nI tag) (ht : tag < 8) (hl : (P ++ (19, nI tag, 0) :: X).length ≤ 120) : ∃ S' : rm_S, GTs S S' ∧ cg_at S0 N' m WS (P ++ (19, nI tag, nI (P ++ (19, nI tag, 0) :: X).length) :: X ++ pre_f (tag % 4) 20) S' := by
  obtain ⟨p1, p2, p3, p4, p5, p6⟩ := rg_pop hc
  have hm := hc.2.1.2.1
  have h10 : S.2 10 c = nI tag := by rw [(hc.2.1.2.2.1 c hcm).2.1, hn]
  have h35 : S.1 35 = nI (P ++ (19, nI tag, 0) :: X).length := hc.2.2.2.2.2.1
  obtain ⟨S1, q1, c1⟩ := rg_set (j := P.length) (q := 2) (v := S.1 35) p1 (by simp) (Or.inr rfl)
  rw [cd_s_at2, h35] at c1
  by_cases hf : tag % 4 = 0
  · refine ⟨S1, gt_step hc hl (fun Q hQ => dw_4 (t := tag) p3 p2 p4 p5 p6 (by omega) ht h10 (q1 _ ⟨fun _ => hQ, fun h9 => absurd ?_ h9⟩)), ?_⟩
    · rw [hf]; exact nI_le (a := 0) (b := 0) (by omega) (by omega)
    · have : pre_f (tag % 4) 20 = [] := by unfold pre_f; rw [if_pos hf]
      rw [this, List.append_nil]; exact c1
  · have hl2 : (P ++ (19, nI tag, nI (P ++ (19, nI tag, 0) :: X).length) :: X).length ≤ 120 := by
      simp only [List.length_append, List.length_cons] at hl ⊢; exact hl
    obtain ⟨S2, q2, c2⟩ := rg_emit (k := 20) (a := nI (tag % 4)) (b := 0) c1 (Nat.lt_of_le_of_lt hl2 (by omega))
    refine ⟨S2, gt_step hc hl (fun Q hQ => dw_4 (t := tag) p3 p2 p4 p5 p6 (by omega) ht h10 (q1 _ ⟨fun h9 => absurd h9 (nI_nle (by omega) (by omega)), fun _ => q2 _ hQ⟩)), ?_⟩
    have : pre_f (tag % 4) 20 = [(20, nI (tag % 4), 0)] := by unfold pre_f; rw [if_neg hf]
    rw [this]; exact c2
/-- 5 -/
theorem case_5 {c n tag : Nat} (hc : cg_at S0 N' m ((5, nI c, nI n) :: WS) C S) (hcm : c < m) (hnm : n < m) (hn : (N' c).2.1 = nI tag) (ht : tag < 8) (hl : C.length ≤ 120) : ∃ S' : rm_S, GTs S S' ∧ cg_at S0 (nd_num N' n (nI (C.length + (pre_f (tag % 4) 15).length))) m WS (C ++ (pre_f (tag % 4) 15 ++ [(11, (N' n).2.1, 0)])) S' := by
  obtain ⟨p1, p2, p3, p4, p5, p6⟩ := rg_pop hc
  have hm := hc.2.1.2.1
  have h10 : S.2 10 c = nI tag := by rw [(hc.2.1.2.2.1 c hcm).2.1, hn]
  have h10n : S.2 10 n = (N' n).2.1 := (hc.2.1.2.2.1 n hnm).2.1
  by_cases hf : tag % 4 = 0
  · have e0 : pre_f (tag % 4) 15 = [] := by unfold pre_f; rw [if_pos hf]
    obtain ⟨S1, q1, c1⟩ := rg_emit (k := 11) (a := S.2 10 n) (b := 0) p1 (by omega)
    have h35 : S1.1 35 - 1 = nI C.length := by rw [c1.2.2.2.2.2.1, List.length_append]; exact nI_pred C.length
    refine ⟨rm_pa S1 10 n ((S1.1 35) - 1), gt_step hc hl (fun Q hQ => dw_5 (t := tag) p3 p2 p4 p5 p6 (by omega) (by omega) ht h10 ⟨fun _ => q1 _ hQ, fun h9 => absurd ?_ h9⟩), ?_⟩
    · rw [hf]; exact nI_le (a := 0) (b := 0) (by omega) (by omega)
    · rw [e0, h35]
      refine ⟨gk_pa c1.1 (by decide), rn_num c1.2.1, c1.2.2.1, c1.2.2.2.1, c1.2.2.2.2.1, ?_, ?_, ?_⟩
      · have := c1.2.2.2.2.2.1; rw [h10n] at this; exact this
      · have := c1.2.2.2.2.2.2.1; rw [h10n] at this; exact this
      · have := c1.2.2.2.2.2.2.2; rw [h10n] at this; exact this
  · have e0 : pre_f (tag % 4) 15 = [(15, nI (tag % 4), 0)] := by unfold pre_f; rw [if_neg hf]
    obtain ⟨S1, q1, c1⟩ := rg_emit (k := 15) (a := nI (tag % 4)) (b := 0) p1 (by omega)
    have h10n1 : S1.2 10 n = (N' n).2.1 := (c1.2.1.2.2.1 n hnm).2.1
    obtain ⟨S2, q2, c2⟩ := rg_emit (k := 11) (a := S1.2 10 n) (b := 0) c1 (by simp; omega)
    have h35 : S2.1 35 - 1 = nI (C.length + 1) := by
      rw [c2.2.2.2.2.2.1, List.length_append, List.length_append]; exact nI_pred (C.length + 1)
    refine ⟨rm_pa S2 10 n ((S2.1 35) - 1), gt_step hc hl (fun Q hQ => dw_5 (t := tag) p3 p2 p4 p5 p6 (by omega) (by omega) ht h10 ⟨fun h9 => absurd h9 (nI_nle (by omega) (by omega)), fun _ => q1 _ (q2 _ hQ)⟩), ?_⟩
    rw [e0, h35]
    rw [h10n1, List.append_assoc] at c2
    exact ⟨gk_pa c2.1 (by decide), rn_num c2.2.1, c2.2.2.1, c2.2.2.2.1, c2.2.2.2.2.1, c2.2.2.2.2.2.1, c2.2.2.2.2.2.2.1, c2.2.2.2.2.2.2.2⟩
end CL
theorem seg_wf_len {N : Nat → nd_T} {lo hi n : Nat} {F : fr_F} {w : Nat} (h : gen_is N lo hi n F w) (b : Nat) : (F.2 b).length = F.1 := h.2.2.1 b
theorem case_out {N : Nat → nd_T} {S0 : rm_S} {m n w s hi : Nat} {P : List fr_C} {WS : List (Int32 × Int32 × Int32)} (hnm : n < m) : ∀ (cs : List cz_T) (lo : Nat) (T : List fr_C) (Xs : List (List fr_C)) (N' : Nat → nd_T) (S : rm_S), s = P.length + T.length + cs.length → cz N w lo cs hi → n < lo → (∀ i, lo ≤ i → i < hi → nq (N' i) (N i) ∧ i < m) → (N' n).2.1 = bq_j Xs s → cg_at S0 N' m (caseU n (P.length + T.length) cs ++ (6, nI n, 0) :: WS) (P ++ T ++ cs.map (fun x => ((19 : Int32), nI x.2.1, (0 : Int32))) ++ bq Xs s) S → s + (bq Xs s).length ≤ 120 → WS.length + 1 + 3 * cs.length + w ≤ 600 → (s + (bq Xs s).length + cs_len (cz_F cs) ≤ 120 → ∃ (S' : rm_S) (N2 : Nat → nd_T) (Ys : List (List fr_C)), GTs S S' ∧ (∀ i, ¬ (i = n ∨ (lo ≤ i ∧ i < hi)) → N2 i = N' i) ∧ (N2 n).2.1 = bq_j Ys s ∧ (∀ e : Nat, be (nI e) Ys = be (nI e) Xs ++ cs_bod (cz_F cs) (s + (bq Xs s).length) e) ∧ cg_at S0 N2 m ((6, nI n, 0) :: WS) (P ++ T ++ cs_tab (cz_F cs) (s + (bq Xs s).length) ++ bq Ys s) S') ∧ (120 < s + (bq Xs s).length + cs_len (cz_F cs) → ∃ S' : rm_S, GTs S S' ∧ ovr S0 S') := by
  intro cs
  induction cs with
  | nil =>
    intro lo T Xs N' S hs hz hn hN hj hc hl hw
    refine ⟨fun _ => ⟨S, N', Xs, GTs.rf, fun _ _ => rfl, hj, fun e => ?_, ?_⟩, fun h9 => ?_⟩
    · show _ = be (nI e) Xs ++ []; rw [List.append_nil]
    · exact hc
    · have h9 : 120 < s + (bq Xs s).length + 0 := h9
      omega
  | cons x t ih =>
    intro lo T Xs N' S hs hz hn hN hj hc hl hw
    obtain ⟨c, tag, b, B⟩ := x
    obtain ⟨h1, a1, a2, a3, a4, a5⟩ := hz
    have a1 : lo ≤ c := a1
    have a3 : tag < 8 := a3
    have a4 : gen_is N (c + 1) h1 b B w := a4
    have b1 := cz_le a5
    have b2 : c + 1 ≤ b := a4.1
    have b3 : b < h1 := a4.2.1
    have hcN := hN c a1 (by omega)
    have hcn : (N' c).2.1 = nI tag := hcN.1.2.1.trans a2.2.1
    have hs : s = P.length + T.length + (t.length + 1) := hs
    have hw : WS.length + 1 + 3 * (t.length + 1) + w ≤ 600 := hw
    have ec : P ++ T ++ ((c, tag, b, B) :: t).map (fun x => ((19 : Int32), nI x.2.1, (0 : Int32))) ++ bq Xs s = (P ++ T) ++ (19, nI tag, 0) :: (t.map (fun x => ((19 : Int32), nI x.2.1, (0 : Int32))) ++ bq Xs s) := by
      simp only [List.map_cons, List.append_assoc, List.cons_append]
    rw [ec, show P.length + T.length = (P ++ T).length by rw [List.length_append]] at hc
    have hL : ((P ++ T) ++ ((19 : Int32), nI tag, (0 : Int32)) :: (t.map (fun x => ((19 : Int32), nI x.2.1, (0 : Int32))) ++ bq Xs s)).length = s + (bq Xs s).length := by
      simp only [List.length_append, List.length_cons, List.length_map]; omega
    generalize hL0 : s + (bq Xs s).length = L0 at *
    have htot : cs_len (cz_F ((c, tag, b, B) :: t)) = (fr_cb (tag % 4) B).1 + 1 + cs_len (cz_F t) := rfl
    have hcb := fr_cb_len (f := tag % 4) (B := B) (k := 20)
    have hcb2 := fr_cb_len (f := tag % 4) (B := B) (k := 15)
    have hp20 := pre_f_len (f := tag % 4) (k := 20)
    obtain ⟨S1, g1, c1⟩ := case_4 (WS := (0, nI b, 0) :: (5, nI c, nI n) :: caseU n ((P ++ T).length + 1) t ++ (6, nI n, 0) :: WS) hc hcN.2 hcn a3 (by omega)
    rw [hL] at c1
    have hl1 : ((P ++ T) ++ ((19 : Int32), nI tag, nI L0) :: (t.map (fun x => ((19 : Int32), nI x.2.1, (0 : Int32))) ++ bq Xs s) ++ pre_f (tag % 4) 20).length = L0 + (pre_f (tag % 4) 20).length := by
      rw [List.length_append, ← hL]; simp only [List.length_append, List.length_cons]
    by_cases o1 : 120 < L0 + (pre_f (tag % 4) 20).length
    · refine ⟨fun h9 => ?_, fun _ => ⟨S1, g1, cg_ovr c1 (by omega)⟩⟩
      rw [htot] at h9; omega
    · obtain ⟨k1, k2⟩ := a4.2.2.2 S0 N' m ((5, nI c, nI n) :: caseU n ((P ++ T).length + 1) t ++ (6, nI n, 0) :: WS) _ S1 (fun i h9 => hN i (by have := h9.1; omega) (by have := h9.2; omega)) c1 (by omega) (by simp only [List.cons_append, List.length_cons, List.length_append, caseU_len]; omega)
      rw [hl1] at k1 k2
      by_cases o2 : 120 < L0 + (pre_f (tag % 4) 20).length + B.1
      · obtain ⟨S2, g2, v2⟩ := k2 o2
        refine ⟨fun h9 => ?_, fun _ => ⟨S2, g1.tr g2, v2⟩⟩
        rw [htot] at h9; omega
      · obtain ⟨S2, N2, g2, e2, c2⟩ := k1 (by omega)
        have hB := seg_wf_len a4 (L0 + (pre_f (tag % 4) 20).length)
        have hcn2 : (N2 c).2.1 = nI tag := by rw [e2 c (fun h9 => by have h9 : c + 1 ≤ c := h9.1; omega)]; exact hcn
        have hn2 : N2 n = N' n := e2 n (fun h9 => by have h9 : c + 1 ≤ n := h9.1; omega)
        obtain ⟨S3, g3, c3⟩ := case_5 (WS := caseU n ((P ++ T).length + 1) t ++ (6, nI n, 0) :: WS) c2 hcN.2 hnm hcn2 a3 (by rw [List.length_append, hl1, hB]; omega)
        rw [hn2, hj, List.length_append, hl1, hB] at c3
        have hX : (fr_cb (tag % 4) B).2 L0 = pre_f (tag % 4) 20 ++ (B.2 (L0 + (pre_f (tag % 4) 20).length) ++ pre_f (tag % 4) 15) := fr_cb_pre
        have hp15 := pre_f_len (f := tag % 4) (k := 15)
        have hXl : ((fr_cb (tag % 4) B).2 L0).length = (fr_cb (tag % 4) B).1 := by
          rw [hX]; simp only [List.length_append, hB]; omega
        have hjq : bq_j ((fr_cb (tag % 4) B).2 L0 :: Xs) s = nI (L0 + (fr_cb (tag % 4) B).1) := by
          show nI (s + (Xs.map (fun Y => Y.length + 1)).sum + ((fr_cb (tag % 4) B).2 L0).length) = _
          rw [hXl, ← bq_len (s := s), hL0]
        have ecode : (P ++ T) ++ ((19 : Int32), nI tag, nI L0) :: (t.map (fun x => ((19 : Int32), nI x.2.1, (0 : Int32))) ++ bq Xs s) ++ pre_f (tag % 4) 20 ++ B.2 (L0 + (pre_f (tag % 4) 20).length) ++ (pre_f (tag % 4) 15 ++ [(11, bq_j Xs s, 0)]) = P ++ (T ++ [(19, nI tag, nI L0)]) ++ t.map (fun x => ((19 : Int32), nI x.2.1, (0 : Int32))) ++ bq ((fr_cb (tag % 4) B).2 L0 :: Xs) s := by
          simp only [bq, hX, List.append_assoc, List.cons_append, List.nil_append]
        rw [ecode, show (P ++ T).length + 1 = P.length + (T ++ [((19 : Int32), nI tag, nI L0)]).length by simp only [List.length_append, List.length_cons, List.length_nil]; omega, show L0 + (pre_f (tag % 4) 20).length + B.1 + (pre_f (tag % 4) 15).length = L0 + (fr_cb (tag % 4) B).1 by omega] at c3
        have hlq : s + (bq ((fr_cb (tag % 4) B).2 L0 :: Xs) s).length = L0 + (fr_cb (tag % 4) B).1 + 1 := by
          simp only [bq, List.length_append, List.length_cons, List.length_nil, hXl]; omega
        have hlc : (P ++ (T ++ [((19 : Int32), nI tag, nI L0)]) ++ t.map (fun x => ((19 : Int32), nI x.2.1, (0 : Int32))) ++ bq ((fr_cb (tag % 4) B).2 L0 :: Xs) s).length = L0 + (fr_cb (tag % 4) B).1 + 1 := by
          rw [← hlq, List.length_append]; simp only [List.length_append, List.length_map, List.length_cons, List.length_nil]; omega
        by_cases o3 : 120 < L0 + (fr_cb (tag % 4) B).1 + 1
        · refine ⟨fun h9 => ?_, fun _ => ⟨S3, g1.tr (g2.tr g3), cg_ovr c3 (by omega)⟩⟩
          rw [htot] at h9; omega
        · obtain ⟨z1, z2⟩ := ih h1 (T ++ [(19, nI tag, nI L0)]) ((fr_cb (tag % 4) B).2 L0 :: Xs) _ S3 (by simp only [List.length_append, List.length_cons, List.length_nil]; omega) a5 (by omega) (fun i i1 i2 => by
            rw [nd_num_n (by omega), e2 i (fun h9 => by have := h9.2; omega)]
            exact hN i (by omega) i2) (by rw [nd_num_s, hjq]) c3 (by omega) (by omega)
          rw [hlq] at z1 z2
          refine ⟨fun h9 => ?_, fun h9 => ?_⟩
          · rw [htot] at h9
            obtain ⟨S4, N4, Ys, y1, y2, y3, y4, y5⟩ := z1 (by omega)
            refine ⟨S4, N4, Ys, g1.tr (g2.tr (g3.tr y1)), fun i hi9 => ?_, y3, fun e => ?_, ?_⟩
            · rw [y2 i (fun h8 => hi9 (h8.elim Or.inl (fun h8 => Or.inr ⟨by omega, h8.2⟩))), nd_num_n (fun h8 => hi9 (Or.inl h8)), e2 i (fun h8 => hi9 (Or.inr ⟨by have := h8.1; omega, by have := h8.2; omega⟩))]
            · rw [y4 e]
              show be (nI e) Xs ++ ((fr_cb (tag % 4) B).2 L0 ++ [(11, nI e, 0)]) ++ _ = be (nI e) Xs ++ ((fr_cb (tag % 4) B).2 L0 ++ (11, nI e, 0) :: cs_bod (cz_F t) (L0 + (fr_cb (tag % 4) B).1 + 1) e)
              simp only [List.append_assoc, List.cons_append, List.nil_append]
            · have : P ++ T ++ cs_tab (cz_F ((c, tag, b, B) :: t)) L0 ++ bq Ys s = P ++ (T ++ [(19, nI tag, nI L0)]) ++ cs_tab (cz_F t) (L0 + (fr_cb (tag % 4) B).1 + 1) ++ bq Ys s := by
                show P ++ T ++ (19, nI tag, nI L0) :: cs_tab (cz_F t) (L0 + (fr_cb (tag % 4) B).1 + 1) ++ bq Ys s = _
                simp only [List.append_assoc, List.cons_append, List.nil_append]
              rw [this]; exact y5
          · rw [htot] at h9
            obtain ⟨S4, y1, y2⟩ := z2 (by omega)
            exact ⟨S4, g1.tr (g2.tr (g3.tr y1)), y2⟩
section GS
variable {S0 : rm_S} {N N' : Nat → nd_T} {m n w : Nat} {cs : List cz_T}
def cz_ok (N' : Nat → nd_T) (m : Nat) (cs : List cz_T) : Prop := ∀ x ∈ cs, x.1 < m ∧ (N' x.1).2.1 = nI x.2.1 ∧ (N' x.1).2.2.1 = [x.2.2.1]
theorem cz_get : ∀ {cs : List cz_T} {lo hi : Nat}, cz N w lo cs hi → (∀ i, lo ≤ i → i < hi → nq (N' i) (N i) ∧ i < m) → cz_ok N' m cs := by
  intro cs
  induction cs with
  | nil => intro lo hi _ _ x hx; exact absurd hx List.not_mem_nil
  | cons y t ih =>
    intro lo hi h hN x hx
    obtain ⟨h1, a1, a2, a3, a4, a5⟩ := h
    have b1 := cz_le a5
    have b2 := a4.1
    have b3 := a4.2.1
    rcases List.mem_cons.mp hx with rfl | hx
    · have h2 := hN x.1 a1 (by omega)
      exact ⟨h2.2, h2.1.2.1.trans a2.2.1, h2.1.2.2.trans a2.2.2⟩
    · exact ih a5 (fun i i1 i2 => hN i (by omega) i2) x hx
theorem l_g25 {a v : Nat} {WS : List (Int32 × Int32 × Int32)} (hnm : n < m) (hch : (N' n).2.2.1 = a :: cs.map (fun x => x.1)) (hok : cz_ok N' m cs) (hl : cs.length ≤ 300) : ∀ (t p : List cz_T) (C : List fr_C) (S : rm_S), cs = p ++ t → cg_at S0 N' m WS C S → C.length + t.length < 490 → ∃ S' : rm_S, cg_at S0 N' m WS (C ++ t.map (fun x => ((19 : Int32), nI x.2.1, (0 : Int32)))) S' ∧ ∀ (v3 : Int32) (Q : rm_S → Prop) (K : Int32 → rm_S → Prop), (∀ x, K x S') → wl_generateSwitch_25 (nI n) (nI cs.length) v3 Q K (t.length + 1) (nI (p.length + 1)) S := by
  intro t
  induction t with
  | nil =>
    intro p C S hp hc _
    have e : p.length = cs.length := by rw [hp, List.append_nil]
    refine ⟨S, ?_, fun v3 Q K hK => ⟨fun _ => hK _, fun h9 => absurd ?_ h9⟩⟩
    · rw [List.map_nil, List.append_nil]; exact hc
    · exact nI_lt (by omega) (by omega)
  | cons x t ih =>
    intro p C S hp hc hC
    have hpl : p.length + (t.length + 1) = cs.length := by rw [hp, List.length_append]; rfl
    have hx := hok x (by rw [hp]; simp)
    have hm := hc.2.1.2.1
    have h10 : S.2 10 x.1 = nI x.2.1 := by rw [(hc.2.1.2.2.1 x.1 hx.1).2.1, hx.2.1]
    have hat : (N' n).2.2.1[p.length + 1]? = some x.1 := by
      rw [hch, List.getElem?_cons_succ, hp, List.map_append, List.getElem?_append_right (by simp)]
      simp
    have hC : C.length + (t.length + 1) < 490 := hC
    obtain ⟨S1, q1, c1⟩ := rg_emit (k := 19) (a := nI x.2.1) (b := 0) hc (by omega)
    obtain ⟨S2, c2, q2⟩ := ih (p ++ [x]) _ S1 (by rw [hp]; simp) c1 (by simp; omega)
    refine ⟨S2, ?_, fun v3 Q K hK => ⟨fun h9 => absurd h9 (nI_nlt (by omega) (by omega)), fun _ => rn_at hc.2.1 hnm hat _ ⟨nI_vp (by omega) (by omega), ?_⟩⟩⟩
    · rw [List.map_cons, show ∀ (A B : List fr_C) (y : fr_C), A ++ y :: B = A ++ [y] ++ B from fun A B y => by simp]; exact c2
    · rw [nI_clamp (by omega), h10]
      refine q1 _ ?_
      have h9 := q2 v3 Q K hK
      rw [List.length_append] at h9
      rw [nI_1]; exact h9
theorem l_g81 {a first : Nat} {WS : List (Int32 × Int32 × Int32)} {C : List fr_C} (hnm : n < m) (hch : (N' n).2.2.1 = a :: cs.map (fun x => x.1)) (hok : cz_ok N' m cs) (hl : cs.length ≤ 300) (hf : first < 1000) : ∀ (r : Nat) (S : rm_S), r ≤ cs.length → cg_at S0 N' m (caseU n (first + r) (cs.drop r) ++ WS) C S → WS.length + 3 * cs.length ≤ 600 → ∃ S' : rm_S, cg_at S0 N' m (caseU n first cs ++ WS) C S' ∧ ∀ (v2 : Int32) (Q : rm_S → Prop) (K : Int32 → rm_S → Prop), (∀ x, K x S') → wl_generateSwitch_81 (nI n) v2 (nI first) Q K (r + 1) (nI r) S := by
  intro r
  induction r with
  | zero =>
    intro S _ hc _
    exact ⟨S, hc, fun v2 Q K hK => ⟨fun _ => hK _, fun h9 => absurd (nI_lt (a := 0) (b := 1) (by omega) (by omega)) h9⟩⟩
  | succ r ih =>
    intro S hr hc hw
    have hrl : r < cs.length := by omega
    have hx := hok cs[r] (List.getElem_mem hrl)
    have hm := hc.2.1.2.1
    have hdr : cs.drop r = cs[r] :: cs.drop (r + 1) := List.drop_eq_getElem_cons hrl
    have hdl : (cs.drop (r + 1)).length = cs.length - (r + 1) := List.length_drop
    have hat : (N' n).2.2.1[r + 1]? = some cs[r].1 := by
      rw [hch, List.getElem?_cons_succ, List.getElem?_map, List.getElem?_eq_getElem hrl]; rfl
    have hcl : (caseU n (first + (r + 1)) (cs.drop (r + 1)) ++ WS).length = 3 * (cs.length - (r + 1)) + WS.length := by
      rw [List.length_append, caseU_len, hdl]
    obtain ⟨S1, q1, c1⟩ := rg_todo (w := 5) (a := nI cs[r].1) (b := nI n) hc (by omega)
    obtain ⟨S2, q2, c2⟩ := rg_todo (w := 0) (a := nI cs[r].2.2.1) (b := 0) c1 (by rw [List.length_cons]; omega)
    obtain ⟨S3, q3, c3⟩ := rg_todo (w := 4) (a := nI cs[r].1) (b := nI (first + r)) c2 (by rw [List.length_cons, List.length_cons]; omega)
    have h11 : S1.2 11 cs[r].1 = nI cs[r].2.2.1 := by rw [(c1.2.1.2.2.1 cs[r].1 hx.1).2.2.1, hx.2.2]; rfl
    obtain ⟨S4, c4, q4⟩ := ih S3 (by omega) (by rw [hdr]; exact c3) hw
    refine ⟨S4, c4, fun v2 Q K hK => ⟨fun h9 => absurd h9 (nI_nlt (b := 1) (by omega) (by omega)), fun _ => ?_⟩⟩
    refine rn_at hc.2.1 hnm hat _ (q1 _ (rn_at c1.2.1 hnm hat _ ⟨nI_vp (by omega) (by omega), ?_⟩))
    rw [nI_clamp (by omega), h11]
    refine q2 _ (rn_at c2.2.1 hnm hat _ ?_)
    rw [nI_add, show first + (r + 1) = first + r + 1 from rfl, nI_pred]
    refine q3 _ ?_
    have h9 := q4 v2 Q K hK
    have e : nI (r + 1) + -1 = nI r := by rw [nI_dec, nI_pred]
    rw [e]; exact h9
/-- a match -/
theorem gen_match {a m1 h2 hi wa wb : Nat} {A : fr_F} (hN : nq (N n) (8, (N n).2.1, a :: cs.map (fun x => x.1), false, false)) (ha : gen_is N (n + 1) m1 a A wa) (hcs : cz N wb m1 cs h2) (hh : h2 ≤ hi) (hl : cs.length ≤ 8) (hw : wa + 2 ≤ w) (hw2 : wb + 1 + 3 * cs.length ≤ w) : gen_is N n hi n (fr_ma A (cz_F cs)) w := by
  have a1 := ha.1
  have a2 := ha.2.1
  have b1 := cz_le hcs
  have hFl : (cz_F cs).length = cs.length := by unfold cz_F; rw [List.length_map]
  have hwfB : ∀ {cs : List cz_T} {lo hi : Nat}, cz N wb lo cs hi → ∀ s e : Nat, (cs_bod (cz_F cs) s e).length = cs_len (cz_F cs) := by
    intro cs
    induction cs with
    | nil => intro lo hi _ s e; rfl
    | cons x t ih =>
      intro lo hi h s e
      obtain ⟨h1, d1, d2, d3, d4, d5⟩ := h
      show ((fr_cb (x.2.1 % 4) x.2.2.2).2 s ++ (11, nI e, 0) :: cs_bod (cz_F t) (s + (fr_cb (x.2.1 % 4) x.2.2.2).1 + 1) e).length = (fr_cb (x.2.1 % 4) x.2.2.2).1 + 1 + cs_len (cz_F t)
      have hb := fr_cb_len (f := x.2.1 % 4) (B := x.2.2.2) (k := 20)
      have hp := pre_f_len (f := x.2.1 % 4) (k := 20)
      have hp2 := pre_f_len (f := x.2.1 % 4) (k := 15)
      rw [List.length_append, List.length_cons, ih d5, fr_cb_pre, List.length_append, List.length_append, seg_wf_len d4]
      omega
  have hwfT : ∀ (l : List (Nat × fr_F)) (s : Nat), (cs_tab l s).length = l.length := by
    intro l
    induction l with
    | nil => intro s; rfl
    | cons x t ih => intro s; show (cs_tab t _).length + 1 = t.length + 1; rw [ih]
  have hwf : fr_wf (fr_ma A (cz_F cs)) := fun b => by
    show (A.2 b ++ (18, nI (cz_F cs).length, 0) :: (cs_tab (cz_F cs) _ ++ cs_bod (cz_F cs) _ _)).length = A.1 + 1 + (cz_F cs).length + cs_len (cz_F cs)
    rw [List.length_append, List.length_cons, List.length_append, hwfT, hwfB hcs, seg_wf_len ha]; omega
  refine ⟨Nat.le_refl _, by omega, hwf, fun S0 N' m WS C S g1 g2 g3 g4 => ?_⟩
  have hn := g1 n ⟨Nat.le_refl _, by omega⟩
  have hch : (N' n).2.2.1 = a :: cs.map (fun x => x.1) := hn.1.2.2.trans hN.2.2
  obtain ⟨p1, p2, p3, p4, p5, p6⟩ := rg_pop (show cg_at S0 N' m ((0, nI n, 0) :: WS) C S from g2)
  obtain ⟨v1, e1, r1, r2, r3, r4, r5, r6, r7⟩ := gn_get p1 hn.2 hn.1
  rw [hN.1] at r1
  rw [hN.2.2] at r3 r6
  have h11 : (rm_pf S 39 (nI WS.length)).2 11 n = nI a := r3
  obtain ⟨S1, q1, c1⟩ := rg_todo (w := 3) (a := nI n) (b := 0) p1 (by omega)
  obtain ⟨S2, q2, c2⟩ := rg_todo (w := 0) (a := nI a) (b := 0) c1 (by simp; omega)
  have s1 : GTs S S2 := gt_step g2 g3 (fun Q hQ => dw_0 p3 p2 p4 p5 (by
    unfold wp_generate
    simp (decide := true) only [v1, e1, r1, h11, not_false_eq_true, not_true_eq_false, false_implies, true_implies, and_true, true_and, and_self]
    exact q1 _ (q2 _ hQ)))
  obtain ⟨k1, k2⟩ := ha.2.2.2 S0 N' m ((3, nI n, 0) :: WS) C S2 (fun i h9 => g1 i ⟨by have := h9.1; omega, by have := h9.2; omega⟩) c2 g3 (by simp; omega)
  by_cases o1 : 120 < C.length + A.1
  · obtain ⟨S3, g3', v3⟩ := k2 o1
    refine ⟨fun h9 => ?_, fun _ => ⟨S3, s1.tr g3', v3⟩⟩
    have h9 : C.length + (A.1 + 1 + (cz_F cs).length + cs_len (cz_F cs)) ≤ 120 := h9
    omega
  · obtain ⟨S3, N2, y1, y2, y3⟩ := k1 (by omega)
    have hCl : (C ++ A.2 C.length).length = C.length + A.1 := by rw [List.length_append, seg_wf_len ha]
    have hN2n : N2 n = N' n := y2 n (fun h9 => by have h9 : n + 1 ≤ n := h9.1; omega)
    have hch2 : (N2 n).2.2.1 = a :: cs.map (fun x => x.1) := by rw [hN2n]; exact hch
    have hag : ∀ i, m1 ≤ i → i < h2 → nq (N2 i) (N i) ∧ i < m := fun i i1 i2 => by
      rw [y2 i (fun h9 => by have := h9.2; omega)]; exact g1 i ⟨by omega, by omega⟩
    have hok := cz_get hcs hag
    obtain ⟨z1, z2, z3, z4, z5, z6⟩ := rg_pop y3
    have hnm := hn.2
    have h13 : (rm_pf S3 39 (nI WS.length)).2 13 n - 1 = nI cs.length := by
      rw [(z1.2.1.2.2.1 n hnm).2.2.2.2.1, hch2]
      show nI ((cs.map (fun x => x.1)).length + 1) - 1 = _
      rw [nI_pred, List.length_map]
    obtain ⟨S4, q4, c4⟩ := rg_emit (k := 18) (a := nI cs.length) (b := 0) z1 (by omega)
    have hl4 : (C ++ A.2 C.length ++ [((18 : Int32), nI cs.length, (0 : Int32))]).length = C.length + A.1 + 1 := by rw [List.length_append, hCl]; rfl
    have h354 : S4.1 35 = nI (C.length + A.1 + 1) := by rw [c4.2.2.2.2.2.1, hl4]
    obtain ⟨S5, c5, q5⟩ := l_g25 (a := a) (v := 0) hnm hch2 hok (by omega) cs [] _ S4 rfl c4 (by omega)
    have n1 := rn_num (n := n) (v := -1) (rn_cl (n := n) (c := false) c5.2.1)
    generalize hN3 : nd_num (fun i => if i = n then ((N2 n).1, (N2 n).2.1, (N2 n).2.2.1, false, (N2 n).2.2.2.2) else N2 i) n (-1) = N3 at n1
    have hN3n : (N3 n).2.1 = -1 ∧ (N3 n).2.2.1 = (N2 n).2.2.1 := by
      rw [← hN3, nd_num_s]
      refine ⟨rfl, ?_⟩
      show (if n = n then ((N2 n).1, (N2 n).2.1, (N2 n).2.2.1, false, (N2 n).2.2.2.2) else N2 n).2.2.1 = _
      rw [if_pos rfl]
    have hN3o : ∀ i, i ≠ n → N3 i = N2 i := fun i hi9 => by rw [← hN3, nd_num_n hi9]; exact if_neg hi9
    have c6 : cg_at S0 N3 m WS (C ++ A.2 C.length ++ [((18 : Int32), nI cs.length, (0 : Int32))] ++ cs.map (fun x => ((19 : Int32), nI x.2.1, (0 : Int32)))) (rm_pa (rm_pa S5 14 n 0) 10 n (-1)) := ⟨gk_pa (gk_pa c5.1 (by decide)) (by decide), n1, c5.2.2.1, c5.2.2.2.1, c5.2.2.2.2.1, c5.2.2.2.2.2.1, c5.2.2.2.2.2.2.1, c5.2.2.2.2.2.2.2⟩
    have hch3 : (N3 n).2.2.1 = a :: cs.map (fun x => x.1) := by rw [hN3n.2]; exact hch2
    have hag3 : ∀ i, m1 ≤ i → i < h2 → nq (N3 i) (N i) ∧ i < m := fun i i1 i2 => by rw [hN3o i (by omega)]; exact hag i i1 i2
    have hok3 := cz_get hcs hag3
    obtain ⟨S7, q7, c7⟩ := rg_todo (w := 6) (a := nI n) (b := 0) c6 (by omega)
    obtain ⟨S8, c8, q8⟩ := l_g81 (a := a) (first := C.length + A.1 + 1) hnm hch3 hok3 (by omega) (by omega) cs.length S7 (Nat.le_refl _) (by rw [List.drop_length]; exact c7) (by rw [List.length_cons]; omega)
    have s2 : GTs S3 S8 := gt_step y3 (by omega) (fun Q hQ => dw_3 z3 z2 z4 z5 (by
      unfold wp_generateSwitch
      rw [e1, h13]
      refine ⟨v1, q4 _ ⟨cs.length + 1, q5 _ _ _ (fun x => ⟨v1, v1, ?_⟩)⟩⟩
      refine q7 _ ⟨cs.length + 1, ?_⟩
      rw [h354]
      exact q8 _ _ _ (fun x => hQ)))
    have hlP : (C ++ A.2 C.length ++ [((18 : Int32), nI cs.length, (0 : Int32))]).length + ([] : List fr_C).length + cs.length = C.length + A.1 + 1 + cs.length := by rw [hl4]; rfl
    have hl6 : (C ++ A.2 C.length ++ [((18 : Int32), nI cs.length, (0 : Int32))] ++ cs.map (fun x => ((19 : Int32), nI x.2.1, (0 : Int32)))).length = C.length + A.1 + 1 + cs.length := by rw [List.length_append, hl4, List.length_map]
    by_cases o2 : 120 < C.length + A.1 + 1 + cs.length
    · refine ⟨fun h9 => ?_, fun _ => ⟨S8, s1.tr (y1.tr s2), cg_ovr c8 (by omega)⟩⟩
      have h9 : C.length + (A.1 + 1 + (cz_F cs).length + cs_len (cz_F cs)) ≤ 120 := h9
      omega
    · obtain ⟨x1, x2⟩ := case_out (s := C.length + A.1 + 1 + cs.length) (P := C ++ A.2 C.length ++ [((18 : Int32), nI cs.length, (0 : Int32))]) (WS := WS) hnm cs m1 [] [] N3 S8 hlP.symm hcs (by omega) hag3 hN3n.1 (by
        rw [hl4, List.append_nil]
        show cg_at S0 N3 m (caseU n (C.length + A.1 + 1 + 0) cs ++ (6, nI n, 0) :: WS) (C ++ A.2 C.length ++ [((18 : Int32), nI cs.length, (0 : Int32))] ++ cs.map (fun x => ((19 : Int32), nI x.2.1, (0 : Int32))) ++ []) S8
        rw [List.append_nil]; exact c8) (by show C.length + A.1 + 1 + cs.length + 0 ≤ 120; omega) (by omega)
      refine ⟨fun h9 => ?_, fun h9 => ?_⟩
      · have h9 : C.length + (A.1 + 1 + (cz_F cs).length + cs_len (cz_F cs)) ≤ 120 := h9
        obtain ⟨S9, N4, Ys, u1, u2, u3, u4, u5⟩ := x1 (by show C.length + A.1 + 1 + cs.length + 0 + cs_len (cz_F cs) ≤ 120; omega)
        have u4 : ∀ e : Nat, be (nI e) Ys = cs_bod (cz_F cs) (C.length + A.1 + 1 + cs.length) e := fun e => u4 e
        have u5 : cg_at S0 N4 m ((6, nI n, 0) :: WS) (C ++ A.2 C.length ++ [((18 : Int32), nI cs.length, (0 : Int32))] ++ [] ++ cs_tab (cz_F cs) (C.length + A.1 + 1 + cs.length) ++ bq Ys (C.length + A.1 + 1 + cs.length)) S9 := u5
        rw [List.append_nil] at u5
        have hlT : (C ++ A.2 C.length ++ [((18 : Int32), nI cs.length, (0 : Int32))] ++ cs_tab (cz_F cs) (C.length + A.1 + 1 + cs.length)).length = C.length + A.1 + 1 + cs.length := by rw [List.length_append, hl4, hwfT, hFl]
        have hlb : (bq Ys (C.length + A.1 + 1 + cs.length)).length = cs_len (cz_F cs) := by
          rw [bq_len, ← be_len (e := nI 0), u4, hwfB hcs]
        obtain ⟨p1', p2', p3', p4', p5', p6'⟩ := rg_pop u5
        have h10 : (rm_pf S9 39 (nI WS.length)).2 10 n = bq_j Ys (C.length + A.1 + 1 + cs.length) := by rw [(p1'.2.1.2.2.1 n hnm).2.1, u3]
        have h35 : (rm_pf S9 39 (nI WS.length)).1 35 = nI (C.length + A.1 + 1 + cs.length + cs_len (cz_F cs)) := by
          rw [p1'.2.2.2.2.2.1, List.length_append, hlT, hlb]
        obtain ⟨Sa, ca, qa⟩ := l_endMatch (v1 := nI n) (WS := WS) (S0 := S0) (N := N4) (m := m) (P := C ++ A.2 C.length ++ [((18 : Int32), nI cs.length, (0 : Int32))] ++ cs_tab (cz_F cs) (C.length + A.1 + 1 + cs.length)) (e := nI (C.length + A.1 + 1 + cs.length + cs_len (cz_F cs))) Ys [] (rm_pf S9 39 (nI WS.length)) h35 (by rw [hlT, List.append_nil]; exact p1') (by rw [hlT, List.length_append, hlT, hlb]; omega)
        have s3 : GTs S9 Sa := gt_step u5 (by rw [List.length_append, hlT, hlb]; omega) (fun Q hQ => dw_6 p3' p2' p4' p5' (by
          unfold wp_endMatch
          refine ⟨v1, Ys.length + 1, ?_⟩
          rw [e1, h10]
          have h9 := qa Q (fun _ S7 => Q S7) (fun _ => hQ)
          rw [hlT] at h9
          exact h9))
        refine ⟨Sa, N4, s1.tr (y1.tr (s2.tr (u1.tr s3))), fun i hi9 => ?_, ?_⟩
        · have hin : i ≠ n := fun e9 => hi9 (by rw [e9]; exact ⟨Nat.le_refl _, by omega⟩)
          rw [u2 i (fun h8 => h8.elim hin (fun h8 => hi9 ⟨by omega, by omega⟩)), hN3o i hin, y2 i (fun h8 => hi9 ⟨by have := h8.1; omega, by have := h8.2; omega⟩)]
        · rw [List.append_nil, u4] at ca
          have : C ++ (fr_ma A (cz_F cs)).2 C.length = C ++ A.2 C.length ++ [((18 : Int32), nI cs.length, (0 : Int32))] ++ cs_tab (cz_F cs) (C.length + A.1 + 1 + cs.length) ++ cs_bod (cz_F cs) (C.length + A.1 + 1 + cs.length) (C.length + A.1 + 1 + cs.length + cs_len (cz_F cs)) := by
            show C ++ (A.2 C.length ++ (18, nI (cz_F cs).length, 0) :: (cs_tab (cz_F cs) (C.length + A.1 + 1 + (cz_F cs).length) ++ cs_bod (cz_F cs) (C.length + A.1 + 1 + (cz_F cs).length) (C.length + A.1 + 1 + (cz_F cs).length + cs_len (cz_F cs)))) = _
            rw [hFl]
            simp only [List.append_assoc, List.cons_append, List.nil_append]
          rw [this]; exact ca
      · have h9 : 120 < C.length + (A.1 + 1 + (cz_F cs).length + cs_len (cz_F cs)) := h9
        obtain ⟨S9, u1, u2⟩ := x2 (by show 120 < C.length + A.1 + 1 + cs.length + 0 + cs_len (cz_F cs); omega)
        exact ⟨S9, s1.tr (y1.tr (s2.tr u1)), u2⟩
end GS
