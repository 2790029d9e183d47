/-! FUNCTIONS, APPLICATIONS, CONSTRUCTIONS -/
def fnF (k : Nat) (A : fr_F) : fr_F := (A.1 + 3, fun b => (nI k, nI (b + 2), 0) :: (11, nI (b + 2 + A.1 + 1), 0) :: (A.2 (b + 2) ++ [(12, 0, 0)]))
theorem fnF_wf {k : Nat} {A : fr_F} (h : fr_wf A) : fr_wf (fnF k A) := fun b => by
  show ((nI k, nI (b + 2), (0 : Int32)) :: (11, nI (b + 2 + A.1 + 1), 0) :: (A.2 (b + 2) ++ [(12, 0, 0)])).length = A.1 + 3
  have := h (b + 2)
  simp only [List.length_cons, List.length_append, List.length_nil]; omega
theorem cd_s_at {P X : List fr_C} {x : fr_C} {v : Int32} : cd_s (P ++ x :: X) P.length 1 v = P ++ (x.1, v, x.2.2) :: X := by
  unfold cd_s
  rw [if_pos rfl, getD_app, if_neg (Nat.lt_irrefl _), Nat.sub_self]
  simp [List.set_append]
theorem cd_s_at2 {P X : List fr_C} {x : fr_C} {v : Int32} : cd_s (P ++ x :: X) P.length 2 v = P ++ (x.1, x.2.1, v) :: X := by
  unfold cd_s
  rw [if_neg (by decide), getD_app, if_neg (Nat.lt_irrefl _), Nat.sub_self]
  simp [List.set_append]
section FN
variable {N N' : Nat → nd_T} {iv : Nat → Prop} {S0 S : rm_S} {m : Nat} {WS : List (Int32 × Int32 × Int32)} {C : List fr_C} {A : fr_F}
theorem fn_out {k a wa : Nat} (ha : seg N iv [(0, nI a, 0)] A wa) (hN : ∀ i, iv i → nq (N' i) (N i) ∧ i < m) (hc : cg_at S0 N' m ((0, nI a, 0) :: (1, 12, 0) :: (2, nI (C.length + 1), 0) :: WS) (C ++ [(nI k, nI (C.length + 2), 0), (11, 0, 0)]) S) (hC : C.length ≤ 120) (hw : WS.length + wa + 2 ≤ 600) : sg_out S0 N' iv m (fnF k A) WS C S := by
  have hl : (C ++ [(nI k, nI (C.length + 2), (0 : Int32)), (11, 0, 0)]).length = C.length + 2 := by simp
  by_cases h2 : 120 < C.length + 2
  · refine ⟨fun h9 => ?_, fun _ => ⟨S, GTs.rf, cg_ovr hc (by omega)⟩⟩
    have h9 : C.length + (A.1 + 3) ≤ 120 := h9
    omega
  · have s1 : seg N iv [(0, nI a, 0), (1, nI 12, nI 0)] (fr_ap A (fr_ap (fr_1 12 0) fr_0)) (wa + 1) := seg_c (iv2 := fun _ => False) ha (seg_ce seg_nil (by simp)) (fun i _ h => h) (by simp) (fun i h => h) (fun i h => absurd h id)
    obtain ⟨a1, a2⟩ := s1.2 S0 N' m ((2, nI (C.length + 1), 0) :: WS) _ S hN hc (by omega) (by simp; omega)
    rw [hl] at a1 a2
    refine ⟨fun h9 => ?_, fun h9 => ?_⟩
    · have h9 : C.length + (A.1 + 3) ≤ 120 := h9
      obtain ⟨S1, N2, b1, b2, b3⟩ := a1 (by show C.length + 2 + (A.1 + (1 + 0)) ≤ 120; omega)
      obtain ⟨p1, p2, p3, p4, p5, p6⟩ := rg_pop b3
      have e1 : C ++ [(nI k, nI (C.length + 2), 0), (11, 0, 0)] ++ (fr_ap A (fr_ap (fr_1 12 0) fr_0)).2 (C.length + 2) = (C ++ [(nI k, nI (C.length + 2), 0)]) ++ (11, 0, 0) :: (A.2 (C.length + 2) ++ [(12, 0, 0)]) := by
        show C ++ [(nI k, nI (C.length + 2), 0), (11, 0, 0)] ++ (A.2 (C.length + 2) ++ ([(12, 0, 0)] ++ [])) = _
        simp only [List.append_assoc, List.cons_append, List.nil_append, List.append_nil]
      rw [e1] at p1 b3
      have hl2 : (C ++ [(nI k, nI (C.length + 2), (0 : Int32))]).length = C.length + 1 := by simp
      have hl3 : ((C ++ [(nI k, nI (C.length + 2), 0)]) ++ (11, 0, 0) :: (A.2 (C.length + 2) ++ [(12, 0, 0)])).length = C.length + 2 + A.1 + 1 := by
        have := ha.1 (C.length + 2)
        simp only [List.length_append, List.length_cons, List.length_nil, this]; omega
      have h35 : S1.1 35 = nI (C.length + 2 + A.1 + 1) := by rw [← hl3]; exact b3.2.2.2.2.2.1
      obtain ⟨S2, q1, q2⟩ := rg_set (j := C.length + 1) (q := 1) (v := S1.1 35) p1 (by omega) (Or.inl rfl)
      have hst : GTs S1 S2 := gt_step b3 (by omega) (fun Q hQ => dw_2 p3 p2 p4 p5 (q1 Q hQ))
      refine ⟨S2, N2, b1.tr hst, b2, ?_⟩
      rw [← hl2, cd_s_at, h35] at q2
      have e2 : C ++ (fnF k A).2 C.length = (C ++ [(nI k, nI (C.length + 2), 0)]) ++ ((11 : Int32), nI (C.length + 2 + A.1 + 1), (0 : Int32)) :: (A.2 (C.length + 2) ++ [(12, 0, 0)]) := by
        show C ++ (nI k, nI (C.length + 2), 0) :: (11, nI (C.length + 2 + A.1 + 1), 0) :: (A.2 (C.length + 2) ++ [(12, 0, 0)]) = _
        simp only [List.append_assoc, List.cons_append, List.nil_append]
      rw [e2]; exact q2
    · have h9 : 120 < C.length + (A.1 + 3) := h9
      exact a2 (by show 120 < C.length + 2 + (A.1 + (1 + 0)); omega)
end FN
section GF
variable {N : Nat → nd_T} {lo hi n w : Nat}
theorem sg_tr {S0 S S1 : rm_S} {N' : Nat → nd_T} {iv iv2 : Nat → Prop} {m : Nat} {F : fr_F} {WS : List (Int32 × Int32 × Int32)} {C : List fr_C} (h : GTs S S1) (h2 : sg_out S0 N' iv m F WS C S1) (hi : ∀ i, iv i → iv2 i) : sg_out S0 N' iv2 m F WS C S := by
  refine ⟨fun h9 => ?_, fun h9 => ?_⟩
  · obtain ⟨S2, N2, b1, b2, b3⟩ := h2.1 h9
    exact ⟨S2, N2, h.tr b1, fun i h8 => b2 i (fun h7 => h8 (hi i h7)), b3⟩
  · obtain ⟨S2, b1, b2⟩ := h2.2 h9
    exact ⟨S2, h.tr b1, b2⟩
theorem gen_fun {a h2 wa : Nat} {A : fr_F} (hN : N n = (5, (N n).2.1, [a], (N n).2.2.2)) (ha : gen_is N lo h2 a A wa) (h3 : h2 ≤ n) (h4 : n < hi) (hw : wa + 3 ≤ w) : gen_is N lo hi n (fr_fun A) w := by
  have a1 := ha.1
  have a2 := ha.2.1
  refine ⟨by omega, h4, fnF_wf (k := 9) ha.2.2.1, fun S0 N' m WS C S g1 g2 g3 g4 => ?_⟩
  obtain ⟨p1, p2, p3, p4, p5, p6⟩ := rg_pop (show cg_at S0 N' m ((0, nI n, 0) :: WS) C S from g2)
  have hn := g1 n ⟨by omega, h4⟩
  obtain ⟨v1, e1, r1, r2, r3, r4, r5, r6, r7⟩ := gn_get p1 hn.2 hn.1
  rw [hN] at r1 r3
  have h11 : (rm_pf S 39 (nI WS.length)).2 11 n = nI a := r3
  have h35 : (rm_pf S 39 (nI WS.length)).1 35 = nI C.length := p1.2.2.2.2.2.1
  obtain ⟨S1, q1, c1⟩ := rg_emit (k := 9) (a := (rm_pf S 39 (nI WS.length)).1 35 + 2) (b := 0) p1 (by omega)
  obtain ⟨S2, q2, c2⟩ := rg_emit (k := 11) (a := 0) (b := 0) c1 (by simp; omega)
  have hl : (C ++ [((9 : Int32), (rm_pf S 39 (nI WS.length)).1 35 + 2, (0 : Int32))] ++ [(11, 0, 0)]).length = C.length + 2 := by simp
  have h352 : S2.1 35 - 1 = nI (C.length + 1) := by rw [c2.2.2.2.2.2.1, hl, nI_pred]
  obtain ⟨S3, q3, c3⟩ := rg_todo (w := 2) (a := S2.1 35 - 1) (b := 0) c2 (by omega)
  obtain ⟨S4, q4, c4⟩ := rg_todo (w := 1) (a := 12) (b := 0) c3 (by simp; omega)
  obtain ⟨S5, q5, c5⟩ := rg_todo (w := 0) (a := nI a) (b := 0) c4 (by simp; omega)
  have hst : GTs S S5 := gt_step g2 g3 (fun Q hQ => dw_0 p3 p2 p4 p5 (by
    unfold wp_generate
    simp (decide := true) only [v1, e1, r1, h11, not_false_eq_true, not_true_eq_false, false_implies, true_implies, and_true, true_and, and_self]
    exact q1 _ (q2 _ (q3 _ (q4 _ (q5 _ hQ))))))
  rw [h352, h35, show (2 : Int32) = nI 2 from rfl, nI_add, List.append_assoc] at c5
  exact sg_tr hst (fn_out (k := 9) ha.2.2 (fun i hi9 => g1 i ⟨hi9.1, by have := hi9.2; omega⟩) c5 g3 (by omega)) (fun i hi9 => ⟨hi9.1, by have := hi9.2; omega⟩)
theorem gen_fix {a b mid h2 wa wb : Nat} {A B : fr_F} (hN : N n = (7, (N n).2.1, [a, b], (N n).2.2.2)) (ha : gen_is N lo mid a A wa) (hb : gen_is N mid h2 b B wb) (h3 : h2 ≤ n) (h4 : n < hi) (hw : wa + 6 ≤ w) (hw2 : wb + 6 ≤ w) : gen_is N lo hi n (fr_fix A B) w := by
  have a1 := ha.1
  have a2 := ha.2.1
  have b1 := hb.1
  have b2 := hb.2.1
  have e : fr_fix A B = fr_ap (fnF 10 A) (fr_ap (fr_1 14 0) (fr_ap B (fr_ap (fr_1 15 1) fr_0))) := by
    rw [fr_ap_0]
    refine Prod.ext ?_ (funext fun b => ?_)
    · show A.1 + B.1 + 5 = A.1 + 3 + (1 + (B.1 + 1)); omega
    · show (10, nI (b + 2), 0) :: (11, nI (b + 2 + A.1 + 1), 0) :: (A.2 (b + 2) ++ (12, 0, 0) :: (14, 0, 0) :: (B.2 (b + 2 + A.1 + 2) ++ [(15, 1, 0)])) = ((10, nI (b + 2), 0) :: (11, nI (b + 2 + A.1 + 1), 0) :: (A.2 (b + 2) ++ [(12, 0, 0)])) ++ ([(14, 0, 0)] ++ (B.2 (b + (A.1 + 3) + 1) ++ [(15, 1, 0)]))
      rw [show b + (A.1 + 3) + 1 = b + 2 + A.1 + 2 by omega]
      simp only [List.cons_append, List.append_assoc, List.nil_append]
  have s1 : seg N (iv_r mid h2) [(1, nI 14, nI 0), (0, nI b, 0), (1, nI 15, nI 1)] (fr_ap (fr_1 14 0) (fr_ap B (fr_ap (fr_1 15 1) fr_0))) w := seg_ce (seg_c (iv2 := fun _ => False) hb.2.2 (seg_ce seg_nil (by simp; omega)) (fun i _ h => h) (by simp; omega) (fun i h => h) (fun i h => absurd h id)) (by simp; omega)
  rw [e]
  refine ⟨by omega, h4, fr_wf_ap (fnF_wf ha.2.2.1) s1.1, fun S0 N' m WS C S g1 g2 g3 g4 => ?_⟩
  obtain ⟨p1, p2, p3, p4, p5, p6⟩ := rg_pop (show cg_at S0 N' m ((0, nI n, 0) :: WS) C S from g2)
  have hn := g1 n ⟨by omega, h4⟩
  obtain ⟨v1, e1, r1, r2, r3, r4, r5, r6, r7⟩ := gn_get p1 hn.2 hn.1
  rw [hN] at r1 r3 r4 r6
  have ra := r6 a (by simp)
  have hva : vp_in (nI a) 300 := nI_vp (by omega) (by omega)
  have hta : (nI a).toNatClampNeg = a := nI_clamp (by omega)
  have h11 : (rm_pf S 39 (nI WS.length)).2 11 n = nI a := r3
  have h35 : (rm_pf S 39 (nI WS.length)).1 35 = nI C.length := p1.2.2.2.2.2.1
  obtain ⟨S1, q1, c1⟩ := rg_emit (k := 10) (a := (rm_pf S 39 (nI WS.length)).1 35 + 2) (b := 0) p1 (by omega)
  obtain ⟨S2, q2, c2⟩ := rg_emit (k := 11) (a := 0) (b := 0) c1 (by simp; omega)
  have hl : (C ++ [((10 : Int32), (rm_pf S 39 (nI WS.length)).1 35 + 2, (0 : Int32))] ++ [(11, 0, 0)]).length = C.length + 2 := by simp
  have h352 : S2.1 35 - 1 = nI (C.length + 1) := by rw [c2.2.2.2.2.2.1, hl, nI_pred]
  obtain ⟨S3, q3, c3⟩ := rg_todo (w := 1) (a := 15) (b := 1) c2 (by omega)
  obtain ⟨S4, q4, c4⟩ := rg_todo (w := 0) (a := nI b) (b := 0) c3 (by simp; omega)
  obtain ⟨S5, q5, c5⟩ := rg_todo (w := 1) (a := 14) (b := 0) c4 (by simp; omega)
  obtain ⟨S6, q6, c6⟩ := rg_todo (w := 2) (a := S2.1 35 - 1) (b := 0) c5 (by simp; omega)
  obtain ⟨S7, q7, c7⟩ := rg_todo (w := 1) (a := 12) (b := 0) c6 (by simp; omega)
  obtain ⟨S8, q8, c8⟩ := rg_todo (w := 0) (a := nI a) (b := 0) c7 (by simp; omega)
  have hb2 : S3.2 12 a = nI b := by rw [c3.1.2 12 (by decide), ← p1.1.2 12 (by decide)]; exact r4.1
  have hst : GTs S S8 := gt_step g2 g3 (fun Q hQ => dw_0 p3 p2 p4 p5 (by
    unfold wp_generate
    simp (decide := true) only [v1, e1, r1, h11, hva, hta, not_false_eq_true, not_true_eq_false, false_implies, true_implies, and_true, true_and, and_self]
    refine q1 _ (q2 _ (q3 _ ?_))
    show wp_todoNode S3 (S3.2 12 a) _
    rw [hb2]
    exact q4 _ (q5 _ (q6 _ (q7 _ (q8 _ hQ))))))
  rw [h352, h35, show (2 : Int32) = nI 2 from rfl, nI_add, List.append_assoc] at c8
  have o1 := fn_out (k := 10) (WS := (1, 14, 0) :: (0, nI b, 0) :: (1, 15, 1) :: WS) ha.2.2 (fun i hi9 => g1 i ⟨hi9.1, by have := hi9.2; omega⟩) c8 g3 (by simp; omega)
  refine sg_tr (iv := iv_r lo hi) hst ?_ (fun i h => h)
  have hwf := fnF_wf (k := 10) ha.2.2.1
  by_cases h9 : C.length + (fnF 10 A).1 ≤ 120
  · obtain ⟨S9, N2, d1, d2, d3⟩ := o1.1 h9
    have hl9 : (C ++ (fnF 10 A).2 C.length).length = C.length + (fnF 10 A).1 := by rw [List.length_append, hwf]
    obtain ⟨k1, k2⟩ := s1.2 S0 N2 m WS _ S9 (fun i hi9 => by
      have h8 := g1 i ⟨by have := hi9.1; omega, by have := hi9.2; omega⟩
      rw [d2 i (fun h7 => by have := h7.2; have := hi9.1; omega)]; exact h8) d3 (by omega) (by omega)
    rw [hl9] at k1 k2
    refine ⟨fun h8 => ?_, fun h8 => ?_⟩
    · have h8 : C.length + ((fnF 10 A).1 + (fr_ap (fr_1 14 0) (fr_ap B (fr_ap (fr_1 15 1) fr_0))).1) ≤ 120 := h8
      obtain ⟨Sa, N3, k3, k4, k5⟩ := k1 (by omega)
      refine ⟨Sa, N3, d1.tr k3, fun i hi9 => ?_, ?_⟩
      · rw [k4 i (fun h7 => hi9 ⟨by have := h7.1; omega, by have := h7.2; omega⟩), d2 i (fun h7 => hi9 ⟨h7.1, by have := h7.2; omega⟩)]
      · rw [List.append_assoc] at k5; exact k5
    · have h8 : 120 < C.length + ((fnF 10 A).1 + (fr_ap (fr_1 14 0) (fr_ap B (fr_ap (fr_1 15 1) fr_0))).1) := h8
      obtain ⟨Sa, k3, k4⟩ := k2 (by omega)
      exact ⟨Sa, d1.tr k3, k4⟩
  · refine ⟨fun h8 => ?_, fun _ => o1.2 (by omega)⟩
    have h8 : C.length + ((fnF 10 A).1 + (fr_ap (fr_1 14 0) (fr_ap B (fr_ap (fr_1 15 1) fr_0))).1) ≤ 120 := h8
    omega
/-- the works of the arguments cs -/
def argU (cs : List Nat) (W : List (Int32 × Int32 × Int32)) : List (Int32 × Int32 × Int32) := cs.foldl (fun W c => (0, nI c, 0) :: (1, 3, 0) :: W) W
theorem argU_app {W V : List (Int32 × Int32 × Int32)} : ∀ {cs : List Nat}, argU cs (W ++ V) = argU cs W ++ V := by
  intro cs
  induction cs generalizing W with
  | nil => rfl
  | cons c t ih =>
    show argU t ((0, nI c, 0) :: (1, 3, 0) :: (W ++ V)) = argU t ((0, nI c, 0) :: (1, 3, 0) :: W) ++ V
    rw [← ih]; rfl
theorem argU_c {cs : List Nat} {c : Nat} {W : List (Int32 × Int32 × Int32)} : argU (cs ++ [c]) W = (0, nI c, 0) :: (1, 3, 0) :: argU cs W := by
  unfold argU; rw [List.foldl_append]; rfl
theorem argU_len {W : List (Int32 × Int32 × Int32)} : ∀ {cs : List Nat}, (argU cs W).length = 2 * cs.length + W.length := by
  intro cs
  induction cs generalizing W with
  | nil => simp [argU]
  | cons c t ih =>
    show (argU t ((0, nI c, 0) :: (1, 3, 0) :: W)).length = _
    rw [ih]; simp; omega
theorem l_g121 {S0 : rm_S} {N' : Nat → nd_T} {m M : Nat} {C : List fr_C} (hn : n < m) (hM : (N' n).2.2.1.length = M) (hm : M ≤ 300) : ∀ (r k : Nat) (WS : List (Int32 × Int32 × Int32)) (S : rm_S), k + r = M → cg_at S0 N' m WS C S → WS.length + r ≤ 600 → ∃ S' : rm_S, cg_at S0 N' m (List.replicate r (1, 13, 0) ++ WS) C S' ∧ ∀ (v2 : Int32) (Q : rm_S → Prop) (K : Int32 → rm_S → Prop), K (nI M) S' → wl_generate_121 (nI n) v2 Q K (r + 1) (nI k) S := by
  intro r
  induction r with
  | zero =>
    intro k WS S hk hc _
    have e : k = M := by omega
    subst e
    have h3 : n < 300 := by have := hc.2.1.2.1; omega
    refine ⟨S, hc, fun v2 Q K hK => ⟨nI_vp h3 (by omega), fun _ => hK, fun h9 => absurd ?_ h9⟩⟩
    rw [nI_clamp (by omega), (hc.2.1.2.2.1 n hn).2.2.2.2.1, hM]
    exact nI_le (Nat.le_refl _) (by omega)
  | succ r ih =>
    intro k WS S hk hc hw
    have h3 : n < 300 := by have := hc.2.1.2.1; omega
    obtain ⟨S1, q1, c1⟩ := rg_todo (w := 1) (a := 13) (b := 0) hc (by omega)
    obtain ⟨S2, c2, q2⟩ := ih (k + 1) _ S1 (by omega) c1 (by simp; omega)
    refine ⟨S2, ?_, fun v2 Q K hK => ⟨nI_vp h3 (by omega), fun h9 => ?_, fun _ => q1 _ ?_⟩⟩
    · rw [List.replicate_succ', List.append_assoc]; exact c2
    · rw [nI_clamp (by omega), (hc.2.1.2.2.1 n hn).2.2.2.2.1, hM] at h9
      exact absurd h9 (nI_ge (by omega) (by omega))
    · show wl_generate_121 (nI n) v2 Q K (r + 1) (nI k + 1) S1
      rw [nI_1]; exact q2 v2 Q K hK
theorem l_g156 {S0 : rm_S} {N' : Nat → nd_T} {m : Nat} {C : List fr_C} (hm : m ≤ 300) : ∀ (cs : List Nat) (WS : List (Int32 × Int32 × Int32)) (S : rm_S), (∀ c ∈ cs, c < m) → nd_ln (S.2 12) cs → cg_at S0 N' m WS C S → WS.length + 2 * cs.length ≤ 600 → ∃ S' : rm_S, cg_at S0 N' m (argU cs WS) C S' ∧ ∀ (v1 v2 : Int32) (Q : rm_S → Prop) (K : Int32 → rm_S → Prop), K (-1) S' → wl_generate_156 v1 v2 Q K (cs.length + 1) (nd_hd cs) S := by
  intro cs
  induction cs with
  | nil =>
    intro WS S _ _ hc _
    exact ⟨S, hc, fun v1 v2 Q K hK => ⟨fun _ => hK, fun h9 => absurd (by decide) h9⟩⟩
  | cons c t ih =>
    intro WS S hcs hl hc hw
    have h3 := hcs c List.mem_cons_self
    have hw : WS.length + 2 * (t.length + 1) ≤ 600 := hw
    obtain ⟨S1, q1, c1⟩ := rg_todo (w := 1) (a := 3) (b := 0) hc (by omega)
    obtain ⟨S2, q2, c2⟩ := rg_todo (w := 0) (a := nI c) (b := 0) c1 (by simp; omega)
    have e12 : S2.2 12 = S.2 12 := by rw [c2.1.2 12 (by decide), ← hc.1.2 12 (by decide)]
    obtain ⟨S3, c3, q3⟩ := ih _ S2 (fun x hx => hcs x (List.mem_cons_of_mem _ hx)) (by rw [e12]; exact hl.2) c2 (by simp; omega)
    refine ⟨S3, c3, fun v1 v2 Q K hK => ⟨fun h9 => absurd h9 (nI_pos (by omega)), fun _ => q1 _ (q2 _ ⟨nI_vp (by omega) (by omega), ?_⟩)⟩⟩
    show wl_generate_156 v1 v2 Q K (t.length + 1) (S2.2 12 (nI c).toNatClampNeg) S2
    rw [nI_clamp (by omega), e12, hl.1]
    exact q3 v1 v2 Q K hK
theorem seg_rp {iv : Nat → Prop} : ∀ (r : Nat), r ≤ w → seg N iv (List.replicate r (1, nI 13, nI 0)) (fr_rp r) w := by
  intro r
  induction r with
  | zero => intro _; exact seg_nil
  | succ r ih =>
    intro hr
    have h1 := seg_ce (k := 13) (a := 0) (ih (by omega)) (by simp; omega)
    have e : fr_rp (r + 1) = fr_ap (fr_1 13 0) (fr_rp r) := by
      refine Prod.ext ?_ (funext fun b => ?_)
      · show r + 1 = 1 + r; omega
      · show List.replicate (r + 1) _ = [_] ++ List.replicate r _; rfl
    rw [e]; exact h1
/-- an application -/
theorem gen_app {a wa wb : Nat} {cs : List Nat} {A B : fr_F} {ivA ivB : Nat → Prop} (hN : N n = (3, (N n).2.1, a :: cs, (N n).2.2.2)) (ha : seg N ivA [(0, nI a, 0)] A wa) (hb : seg N ivB (argU cs []) B wb) (hd : ∀ i, ivB i → ivA i → False) (hA : ∀ i, ivA i → lo ≤ i ∧ i < hi) (hB : ∀ i, ivB i → lo ≤ i ∧ i < hi) (h3 : lo ≤ n) (h4 : n < hi) (hw : wa + cs.length ≤ w) (hw2 : wb + 1 + cs.length ≤ w) (hw3 : 3 * cs.length + 1 ≤ w) : gen_is N lo hi n (fr_ap (fr_ap B A) (fr_rp cs.length)) w := by
  rw [fr_ap_as]
  have s1 : seg N ivA ((0, nI a, 0) :: List.replicate cs.length (1, nI 13, nI 0)) (fr_ap A (fr_rp cs.length)) w := seg_c (iv2 := fun _ => False) ha (seg_rp _ (by omega)) (fun i _ h => h) (by simp; omega) (fun i h => h) (fun i h => absurd h id)
  have s2 : seg N (iv_r lo hi) (argU cs [] ++ ((0, nI a, 0) :: List.replicate cs.length (1, nI 13, nI 0))) (fr_ap B (fr_ap A (fr_rp cs.length))) w := seg_iv (seg_app (w3 := w) hb s1 hd (by simp; omega) (Nat.le_refl _)) (fun i h => h.elim (hB i) (hA i)) (Nat.le_refl _)
  refine gen_push h3 h4 s2 (by rw [List.length_append, argU_len]; simp; omega) (fun S0 N' m WS C S hq hm hc hl => ?_)
  obtain ⟨v1, e1, r1, r2, r3, r4, r5, r6, r7⟩ := gn_get hc hm hq
  rw [List.length_append, argU_len] at hl
  simp only [List.length_cons, List.length_nil, List.length_replicate, Nat.add_zero] at hl
  have hch : (N' n).2.2.1 = a :: cs := by rw [hq.2.2, hN]
  have hlen := ns_len hc.2.1 hm
  rw [hch] at hlen
  have hch' : (N' n).2.2.1.length = cs.length + 1 := by rw [hch]; rfl
  rw [hN] at r1 r3 r4 r5 r6
  have ra := r6 a (by simp)
  have hva : vp_in (nI a) 300 := nI_vp (by omega) (by omega)
  have hta : (nI a).toNatClampNeg = a := nI_clamp (by omega)
  have h11 : S.2 11 n = nI a := r3
  obtain ⟨S1, c1, q1⟩ := l_g121 (S0 := S0) (C := C) (m := m) hm hch' (by simpa using hlen) cs.length 1 WS S (by omega) hc (by omega)
  obtain ⟨S2, q2, c2⟩ := rg_todo (w := 0) (a := nI a) (b := 0) c1 (by simp; omega)
  have e12 : S2.2 12 = S.2 12 := by rw [c2.1.2 12 (by decide), ← hc.1.2 12 (by decide)]
  obtain ⟨S3, c3, q3⟩ := l_g156 (S0 := S0) (C := C) r7 cs _ S2 (fun c h9 => r6 c (List.mem_cons_of_mem _ h9)) (by rw [e12]; exact r4.2) c2 (by simp; omega)
  refine ⟨S3, fun Q hQ => ?_, ?_⟩
  · unfold wp_generate
    simp (decide := true) only [v1, e1, r1, h11, hva, hta, not_false_eq_true, not_true_eq_false, false_implies, true_implies, and_true, true_and, and_self]
    refine ⟨cs.length + 1, q1 _ _ _ (q2 _ ⟨cs.length + 1, ?_⟩)⟩
    rw [e12, r4.1]
    exact q3 _ _ _ _ hQ
  · rw [List.append_assoc, ← argU_app]
    exact c3
/-- the works of the fields cs -/
def fldU : List Nat → List (Int32 × Int32 × Int32)
  | [] => []
  | c :: t => (0, nI c, 0) :: (if t = [] then [] else (1, 3, 0) :: fldU t)
theorem fldU_2 {c d : Nat} {t : List Nat} : fldU (c :: d :: t) = (0, nI c, 0) :: (1, 3, 0) :: fldU (d :: t) := by
  show (0, nI c, 0) :: (if d :: t = [] then [] else (1, 3, 0) :: fldU (d :: t)) = _
  rw [if_neg (List.cons_ne_nil _ _)]
theorem fldU_c {c : Nat} : ∀ {cs : List Nat}, fldU (cs ++ [c]) = fldU cs ++ (if cs = [] then [(0, nI c, 0)] else [(1, 3, 0), (0, nI c, 0)]) := by
  intro cs
  induction cs with
  | nil => rfl
  | cons d t ih =>
    rw [if_neg (List.cons_ne_nil _ _)]
    cases t with
    | nil => rfl
    | cons x t =>
      rw [if_neg (List.cons_ne_nil _ _)] at ih
      show fldU (d :: x :: (t ++ [c])) = _
      rw [fldU_2, fldU_2]
      show _ = (0, nI d, 0) :: (1, 3, 0) :: (fldU (x :: t) ++ [(1, 3, 0), (0, nI c, 0)])
      rw [← ih]; rfl
theorem fldU_len : ∀ {cs : List Nat}, (fldU cs).length = 2 * cs.length - 1 := by
  intro cs
  induction cs with
  | nil => rfl
  | cons d t ih =>
    cases t with
    | nil => rfl
    | cons x t =>
      rw [fldU_2, List.length_cons, List.length_cons, ih]
      simp only [List.length_cons]; omega
theorem nI_dec {r : Nat} : nI r + -1 = nI r - 1 := (Int32.sub_eq_add_neg (nI r) 1).symm
theorem l_g44 {S0 : rm_S} {N' : Nat → nd_T} {m : Nat} {C : List fr_C} {WS : List (Int32 × Int32 × Int32)} {ch : List Nat} (hn : n < m) (hch : (N' n).2.2.1 = ch) : ∀ (r : Nat) (S : rm_S), r ≤ ch.length → cg_at S0 N' m (fldU (ch.drop r) ++ WS) C S → WS.length + 2 * ch.length ≤ 601 → ∃ S' : rm_S, cg_at S0 N' m (fldU ch ++ WS) C S' ∧ ∀ (Q : rm_S → Prop) (K : Int32 → rm_S → Prop), K (-1) S' → wl_generateBuilt_44 (nI n) Q K (r + 1) (nI r - 1) S := by
  intro r
  induction r with
  | zero =>
    intro S _ hc _
    exact ⟨S, hc, fun Q K hK => ⟨fun _ => hK, fun h9 => absurd (by decide) h9⟩⟩
  | succ r ih =>
    intro S hr hc hw
    have hm := hc.2.1.2.1
    have hlen := ns_len hc.2.1 hn
    rw [hch] at hlen
    have hx : ch[r]? = some ch[r] := List.getElem?_eq_getElem (by omega)
    have hdr : ch.drop r = ch[r] :: ch.drop (r + 1) := List.drop_eq_getElem_cons (by omega)
    have hdl : (ch.drop (r + 1)).length = ch.length - (r + 1) := List.length_drop
    have hfl := fldU_len (cs := ch.drop (r + 1))
    have h13 : S.2 13 n - 1 = nI (ch.length - 1) := by
      rw [(hc.2.1.2.2.1 n hn).2.2.2.2.1, hch, show ch.length = ch.length - 1 + 1 by omega, nI_pred]; rfl
    have htn : (nI n).toNatClampNeg = n := nI_clamp (by omega)
    by_cases hlast : r + 1 = ch.length
    · have hd0 : ch.drop (r + 1) = [] := List.drop_eq_nil_of_le (by omega)
      obtain ⟨S1, q1, c1⟩ := rg_todo (w := 0) (a := nI ch[r]) (b := 0) hc (by rw [List.length_append]; omega)
      obtain ⟨S2, c2, q2⟩ := ih S1 (by omega) (by rw [hdr, hd0]; rw [hd0] at c1; exact c1) hw
      refine ⟨S2, c2, fun Q K hK => ⟨fun h9 => ?_, fun _ => ⟨nI_vp (by omega) (by omega), fun _ => ?_, fun h9 => absurd ?_ h9⟩⟩⟩
      · rw [nI_pred] at h9; exact absurd h9 (nI_pos (by omega))
      · rw [nI_pred]
        refine rn_at hc.2.1 hn (by rw [hch]; exact hx) _ (q1 _ ?_)
        have h7 := q2 Q K hK
        rw [← nI_dec] at h7
        exact h7
      · rw [htn, h13, nI_pred]; exact nI_le (by omega) (by omega)
    · obtain ⟨S1, q1, c1⟩ := rg_todo (w := 1) (a := 3) (b := 0) hc (by rw [List.length_append]; omega)
      obtain ⟨S3, q3, c3⟩ := rg_todo (w := 0) (a := nI ch[r]) (b := 0) c1 (by rw [List.length_cons, List.length_append]; omega)
      have hd0 : ¬ ch.drop (r + 1) = [] := fun h => by rw [h] at hdl; simp at hdl; omega
      obtain ⟨S2, c2, q2⟩ := ih S3 (by omega) (by
        rw [hdr]
        show cg_at S0 N' m ((0, nI ch[r], 0) :: (if ch.drop (r + 1) = [] then [] else (1, 3, 0) :: fldU (ch.drop (r + 1))) ++ WS) C S3
        rw [if_neg hd0]; exact c3) hw
      refine ⟨S2, c2, fun Q K hK => ⟨fun h9 => ?_, fun _ => ⟨nI_vp (by omega) (by omega), fun h9 => ?_, fun _ => q1 _ ?_⟩⟩⟩
      · rw [nI_pred] at h9; exact absurd h9 (nI_pos (by omega))
      · rw [htn, h13, nI_pred] at h9; exact absurd h9 (nI_ge (by omega) (by omega))
      · rw [nI_pred]
        refine rn_at c1.2.1 hn (by rw [hch]; exact hx) _ (q3 _ ?_)
        have h7 := q2 Q K hK
        rw [← nI_dec] at h7
        exact h7
/-- a construction -/
theorem gen_built {tag wb : Nat} {cs : List Nat} {B : fr_F} {iv : Nat → Prop} (hN : N n = (4, nI tag, cs, (N n).2.2.2)) (h0 : cs ≠ []) (hb : seg N iv (fldU cs) B wb) (hB : ∀ i, iv i → lo ≤ i ∧ i < hi) (h3 : lo ≤ n) (h4 : n < hi) (hw : wb + 1 ≤ w) (hw2 : 2 * cs.length + 1 ≤ w) : gen_is N lo hi n (fr_ap B (fr_1 17 tag)) w := by
  have s2 : seg N (iv_r lo hi) (fldU cs ++ [(1, nI 17, nI tag)]) (fr_ap B (fr_1 17 tag)) w := seg_iv (seg_app (w3 := w) hb (seg_emit (k := 17) (a := tag)) (fun i _ h => h) (by simp; omega) (by omega)) (fun i h => h.elim (hB i) (fun h => absurd h id)) (Nat.le_refl _)
  have hfl := fldU_len (cs := cs)
  refine gen_push h3 h4 s2 (by rw [List.length_append]; simp; omega) (fun S0 N' m WS C S hq hm hc hl => ?_)
  obtain ⟨v1, e1, r1, r2, r3, r4, r5, r6, r7⟩ := gn_get hc hm hq
  rw [List.length_append] at hl
  simp only [List.length_cons, List.length_nil] at hl
  have hch : (N' n).2.2.1 = cs := by rw [hq.2.2, hN]
  have hlen := ns_len hc.2.1 hm
  rw [hch] at hlen
  rw [hN] at r1 r2 r5
  have hpos : 0 < cs.length := List.length_pos_iff.mpr h0
  obtain ⟨S1, q1, c1⟩ := rg_todo (w := 1) (a := 17) (b := nI tag) hc (by omega)
  have hd : cs.drop cs.length = [] := List.drop_length
  obtain ⟨S2, c2, q2⟩ := l_g44 (S0 := S0) (C := C) (WS := (1, 17, nI tag) :: WS) hm hch cs.length S1 (Nat.le_refl _) (by rw [hd]; exact c1) (by simp; omega)
  have h13 : S.2 13 n = nI cs.length := r5
  have h131 : S1.2 13 n = nI cs.length := by rw [c1.1.2 13 (by decide), ← hc.1.2 13 (by decide)]; exact r5
  refine ⟨S2, fun Q hQ => ?_, ?_⟩
  · unfold wp_generate
    simp (decide := true) only [wp_generateBuilt, v1, e1, r1, r2, h13, not_false_eq_true, not_true_eq_false, false_implies, true_implies, and_true, true_and, and_self]
    refine ⟨fun _ => q1 _ ⟨cs.length + 1, ?_⟩, fun h9 => absurd h9 (nI_ne0 hpos (by omega))⟩
    rw [h131]
    exact q2 _ _ hQ
  · rw [List.append_assoc]; exact c2
end GF
