/-! WHAT A PIECE OF WORK MAKES: seg: the works U, on nodes of iv, make the code F -/
def GTs (S S' : rm_S) : Prop := ∀ Q K : rm_S → Prop, (∃ n : Nat, wl_makeCode_24 Q K n S') → ∃ n : Nat, wl_makeCode_24 Q K n S
theorem GTs.rf {S : rm_S} : GTs S S := fun _ _ h => h
theorem GTs.tr {S S1 S2 : rm_S} (h : GTs S S1) (h2 : GTs S1 S2) : GTs S S2 := fun Q K h9 => h Q K (h2 Q K h9)
def fr_wf (F : fr_F) : Prop := ∀ b, (F.2 b).length = F.1
def ovr (S0 S : rm_S) : Prop := gk S0 S ∧ ∃ b : Nat, S.1 35 = nI b ∧ 120 < b ∧ b ≤ 500
def nq (x y : nd_T) : Prop := x.1 = y.1 ∧ x.2.1 = y.2.1 ∧ x.2.2.1 = y.2.2.1
def sg_out (S0 : rm_S) (N' : Nat → nd_T) (iv : Nat → Prop) (m : Nat) (F : fr_F) (WS : List (Int32 × Int32 × Int32)) (C : List fr_C) (S : rm_S) : Prop := (C.length + F.1 ≤ 120 → ∃ (S' : rm_S) (N2 : Nat → nd_T), GTs S S' ∧ (∀ i, ¬ iv i → N2 i = N' i) ∧ cg_at S0 N2 m WS (C ++ F.2 C.length) S') ∧ (120 < C.length + F.1 → ∃ S' : rm_S, GTs S S' ∧ ovr S0 S')
def seg (N : Nat → nd_T) (iv : Nat → Prop) (U : List (Int32 × Int32 × Int32)) (F : fr_F) (w : Nat) : Prop := fr_wf F ∧ ∀ (S0 : rm_S) (N' : Nat → nd_T) (m : Nat) (WS : List (Int32 × Int32 × Int32)) (C : List fr_C) (S : rm_S), (∀ i, iv i → nq (N' i) (N i) ∧ i < m) → cg_at S0 N' m (U ++ WS) C S → C.length ≤ 120 → WS.length + w ≤ 600 → sg_out S0 N' iv m F WS C S
def iv_r (lo hi : Nat) : Nat → Prop := fun i => lo ≤ i ∧ i < hi
/-- a node that makes the code F, of nodes from lo to hi -/
def gen_is (N : Nat → nd_T) (lo hi n : Nat) (F : fr_F) (w : Nat) : Prop := lo ≤ n ∧ n < hi ∧ seg N (iv_r lo hi) [(0, nI n, 0)] F w
section SG
variable {N N1 : Nat → nd_T} {iv iv2 : Nat → Prop} {U U2 : List (Int32 × Int32 × Int32)} {F H : fr_F} {w w2 : Nat}
theorem nq.rf {x : nd_T} : nq x x := ⟨rfl, rfl, rfl⟩
theorem nq.tr {x y z : nd_T} (h : nq x y) (h2 : nq y z) : nq x z := ⟨h.1.trans h2.1, h.2.1.trans h2.2.1, h.2.2.trans h2.2.2⟩
theorem seg_N (h : seg N iv U F w) (hN : ∀ i, iv i → nq (N1 i) (N i)) : seg N1 iv U F w := ⟨h.1, fun S0 N' m WS C S h1 => h.2 S0 N' m WS C S (fun i hi => ⟨(h1 i hi).1.tr (hN i hi), (h1 i hi).2⟩)⟩
theorem seg_iv (h : seg N iv U F w) (hi : ∀ i, iv i → iv2 i) (hw : w ≤ w2) : seg N iv2 U F w2 := by
  refine ⟨h.1, fun S0 N' m WS C S h1 h2 h3 h4 => ?_⟩
  obtain ⟨a1, a2⟩ := h.2 S0 N' m WS C S (fun i hi9 => h1 i (hi i hi9)) h2 h3 (by omega)
  refine ⟨fun h9 => ?_, a2⟩
  obtain ⟨S', N2, b1, b2, b3⟩ := a1 h9
  exact ⟨S', N2, b1, fun i hi9 => b2 i (fun h8 => hi9 (hi i h8)), b3⟩
theorem fr_wf_ap (h : fr_wf F) (h2 : fr_wf H) : fr_wf (fr_ap F H) := fun b => by
  show (F.2 b ++ H.2 (b + F.1)).length = F.1 + H.1
  rw [List.length_append, h, h2]
theorem gt_step {S0 S S' : rm_S} {m : Nat} {x : Int32 × Int32 × Int32} {WS : List (Int32 × Int32 × Int32)} {C : List fr_C} (hc : cg_at S0 N m (x :: WS) C S) (hC : C.length ≤ 120) (hS : ∀ Q : rm_S → Prop, Q S' → wp_doWork S Q) : GTs S S' := by
  intro Q K hn
  obtain ⟨n, hn⟩ := hn
  obtain ⟨p1, p2, p3, _⟩ := rg_pop hc
  refine ⟨n + 1, fun h9 => ?_, fun _ => ⟨fun h9 => ?_, fun _ => hS _ hn⟩⟩
  · rw [p2] at h9; exact absurd h9 (nI_nle (by omega) (by omega))
  · have h8 := hc.2.2.2.2.2.1
    rw [h8] at h9
    exact absurd h9 (nI_nlt (b := C.length) (a := 120) hC (by omega))
theorem seg_app (h : seg N iv U F w) (h2 : seg N iv2 U2 H w2) (hd : ∀ i, iv i → iv2 i → False) {w3 : Nat} (hw : w + U2.length ≤ w3) (hw2 : w2 ≤ w3) : seg N (fun i => iv i ∨ iv2 i) (U ++ U2) (fr_ap F H) w3 := by
  refine ⟨fr_wf_ap h.1 h2.1, fun S0 N' m WS C S g1 g2 g3 g4 => ?_⟩
  rw [List.append_assoc] at g2
  obtain ⟨a1, a2⟩ := h.2 S0 N' m (U2 ++ WS) C S (fun i hi => g1 i (Or.inl hi)) g2 g3 (by rw [List.length_append]; omega)
  by_cases h9 : C.length + F.1 ≤ 120
  · obtain ⟨S1, N2, b1, b2, b3⟩ := a1 h9
    have hl : (C ++ F.2 C.length).length = C.length + F.1 := by rw [List.length_append, h.1]
    obtain ⟨c1, c2⟩ := h2.2 S0 N2 m WS (C ++ F.2 C.length) S1 (fun i hi => by
      have h8 := g1 i (Or.inr hi)
      rw [b2 i (fun h7 => hd i h7 hi)]; exact h8) b3 (by omega) (by omega)
    rw [hl] at c1 c2
    refine ⟨fun h8 => ?_, fun h8 => ?_⟩
    · have h8 : C.length + (F.1 + H.1) ≤ 120 := h8
      obtain ⟨S2, N3, d1, d2, d3⟩ := c1 (by omega)
      refine ⟨S2, N3, b1.tr d1, fun i hi => ?_, ?_⟩
      · rw [d2 i (fun h7 => hi (Or.inr h7)), b2 i (fun h7 => hi (Or.inl h7))]
      · rw [List.append_assoc] at d3; exact d3
    · have h8 : 120 < C.length + (F.1 + H.1) := h8
      obtain ⟨S2, d1, d2⟩ := c2 (by omega)
      exact ⟨S2, b1.tr d1, d2⟩
  · refine ⟨fun h8 => ?_, fun _ => a2 (by omega)⟩
    have h8 : C.length + (F.1 + H.1) ≤ 120 := h8
    omega
theorem cg_ovr {S0 S : rm_S} {m : Nat} {WS : List (Int32 × Int32 × Int32)} {C : List fr_C} (hc : cg_at S0 N m WS C S) (h : 120 < C.length) : ovr S0 S := ⟨hc.1, C.length, hc.2.2.2.2.2.1, h, hc.2.2.2.2.2.2.1⟩
theorem seg_emit {k a : Nat} : seg N (fun _ => False) [(1, nI k, nI a)] (fr_1 k a) 1 := by
  refine ⟨fun _ => rfl, fun S0 N' m WS C S _ g2 g3 _ => ?_⟩
  obtain ⟨p1, p2, p3, p4, p5, p6⟩ := rg_pop (show cg_at S0 N' m ((1, nI k, nI a) :: WS) C S from g2)
  obtain ⟨S1, q1, q2⟩ := rg_emit (k := nI k) (a := nI a) (b := 0) p1 (by omega)
  have hs : GTs S S1 := gt_step g2 g3 (fun Q hQ => dw_1 p3 p2 p4 p5 p6 (q1 Q hQ))
  have hl : (C ++ [(nI k, nI a, (0 : Int32))]).length = C.length + 1 := by simp
  exact ⟨fun _ => ⟨S1, N', hs, fun _ _ => rfl, q2⟩, fun h9 => ⟨S1, hs, cg_ovr q2 (by have h9 : 120 < C.length + 1 := h9; omega)⟩⟩
theorem gen_up {lo hi lo2 hi2 n : Nat} (h : gen_is N lo hi n F w) (h1 : lo2 ≤ lo) (h2 : hi ≤ hi2) (h3 : w ≤ w2) : gen_is N lo2 hi2 n F w2 := ⟨Nat.le_trans h1 h.1, Nat.lt_of_lt_of_le h.2.1 h2, seg_iv h.2.2 (fun i hi9 => ⟨Nat.le_trans h1 hi9.1, Nat.lt_of_lt_of_le hi9.2 h2⟩) h3⟩
theorem gen_N {lo hi n : Nat} (h : gen_is N lo hi n F w) (hN : ∀ i, lo ≤ i → i < hi → nq (N1 i) (N i)) : gen_is N1 lo hi n F w := ⟨h.1, h.2.1, seg_N h.2.2 (fun i hi9 => hN i hi9.1 hi9.2)⟩
/-- a node that leaves its work to others -/
theorem gen_push {lo hi n : Nat} (h1 : lo ≤ n) (h2 : n < hi) (hs : seg N (iv_r lo hi) U F w) (hw : U.length ≤ w) (hp : ∀ (S0 : rm_S) (N' : Nat → nd_T) (m : Nat) (WS : List (Int32 × Int32 × Int32)) (C : List fr_C) (S : rm_S), nq (N' n) (N n) → n < m → cg_at S0 N' m WS C S → WS.length + U.length ≤ 600 → ∃ S' : rm_S, (∀ Q : rm_S → Prop, Q S' → wp_generate S (nI n) Q) ∧ cg_at S0 N' m (U ++ WS) C S') : gen_is N lo hi n F w := by
  refine ⟨h1, h2, hs.1, fun S0 N' m WS C S g1 g2 g3 g4 => ?_⟩
  obtain ⟨p1, p2, p3, p4, p5, p6⟩ := rg_pop (show cg_at S0 N' m ((0, nI n, 0) :: WS) C S from g2)
  have hn := g1 n ⟨h1, h2⟩
  obtain ⟨S1, q1, q2⟩ := hp S0 N' m WS C _ hn.1 hn.2 p1 (by omega)
  have hst : GTs S S1 := gt_step g2 g3 (fun Q hQ => dw_0 p3 p2 p4 p5 (q1 Q hQ))
  obtain ⟨a1, a2⟩ := hs.2 S0 N' m WS C S1 g1 q2 g3 g4
  refine ⟨fun h9 => ?_, fun h9 => ?_⟩
  · obtain ⟨S2, N2, b1, b2, b3⟩ := a1 h9
    exact ⟨S2, N2, hst.tr b1, b2, b3⟩
  · obtain ⟨S2, b1, b2⟩ := a2 h9
    exact ⟨S2, hst.tr b1, b2⟩
/-- what wp_generate reads of a node -/
theorem gn_get {S0 S : rm_S} {N' : Nat → nd_T} {m n : Nat} {WS : List (Int32 × Int32 × Int32)} {C : List fr_C} (hc : cg_at S0 N' m WS C S) (hn : n < m) (hq : nq (N' n) (N n)) : vp_in (nI n) 300 ∧ (nI n).toNatClampNeg = n ∧ S.2 9 n = (N n).1 ∧ S.2 10 n = (N n).2.1 ∧ S.2 11 n = nd_hd (N n).2.2.1 ∧ nd_ln (S.2 12) (N n).2.2.1 ∧ S.2 13 n = nI (N n).2.2.1.length ∧ (∀ c ∈ (N n).2.2.1, c < m) ∧ m ≤ 300 := by
  have h1 := hc.2.1
  have hm := h1.2.1
  obtain ⟨b1, b2, b3, b4, b5, b6, b7, b8, b9⟩ := h1.2.2.1 n hn
  rw [hq.1] at b1
  rw [hq.2.1] at b2
  rw [hq.2.2] at b3 b4 b5 b9
  exact ⟨nI_vp (by omega) (by omega), nI_clamp (by omega), b1, b2, b3, b4, b5, fun c h9 => (b9 c h9).1, hm⟩
end SG
section GN
variable {N : Nat → nd_T} {lo hi n w : Nat}
theorem gen_leaf {k v : Nat} {kd : Int32} (hN : N n = (kd, nI v, [], (N n).2.2.2)) (hk : (kd = 0 ∧ k = 1) ∨ (kd = 1 ∧ k = 2) ∨ (kd = 4 ∧ k = 16)) (h1 : lo ≤ n) (h2 : n < hi) : gen_is N lo hi n (fr_1 k v) 1 := by
  refine ⟨h1, h2, fun _ => rfl, fun S0 N' m WS C S g1 g2 g3 g4 => ?_⟩
  obtain ⟨p1, p2, p3, p4, p5, p6⟩ := rg_pop (show cg_at S0 N' m ((0, nI n, 0) :: WS) C S from g2)
  have hn := g1 n ⟨h1, h2⟩
  obtain ⟨v1, e1, r1, r2, r3, r4, r5, r6, r7⟩ := gn_get p1 hn.2 hn.1
  rw [hN] at r1 r2 r3 r5
  obtain ⟨S1, q1, q2⟩ := rg_emit (k := nI k) (a := nI v) (b := 0) p1 (by omega)
  have hs : GTs S S1 := gt_step g2 g3 (fun Q hQ => dw_0 p3 p2 p4 p5 (by
    have h9 := q1 Q hQ
    unfold wp_generate
    rcases hk with ⟨rfl, rfl⟩ | ⟨rfl, rfl⟩ | ⟨rfl, rfl⟩
    · simp (decide := true) only [v1, e1, r1, r2, not_false_eq_true, not_true_eq_false, false_implies, true_implies, and_true, true_and, and_self]
      exact h9
    · simp (decide := true) only [v1, e1, r1, r2, not_false_eq_true, not_true_eq_false, false_implies, true_implies, and_true, true_and, and_self]
      exact h9
    · have e0 : (rm_pf S 39 (nI WS.length)).2 13 n = 0 := r5
      simp (decide := true) only [wp_generateBuilt, v1, e1, r1, r2, e0, not_false_eq_true, not_true_eq_false, false_implies, true_implies, and_true, true_and, and_self]
      exact h9))
  have hl : (C ++ [(nI k, nI v, (0 : Int32))]).length = C.length + 1 := by simp
  exact ⟨fun _ => ⟨S1, N', hs, fun _ _ => rfl, q2⟩, fun h9 => ⟨S1, hs, cg_ovr q2 (by have h9 : 120 < C.length + 1 := h9; omega)⟩⟩
theorem fr_ap_as {A B D : fr_F} : fr_ap (fr_ap A B) D = fr_ap A (fr_ap B D) := by
  simp only [fr_ap, List.append_assoc, Nat.add_assoc]
theorem fr_ap_0 {A : fr_F} : fr_ap A fr_0 = A := by
  simp only [fr_ap, fr_0, List.append_nil, Nat.add_zero]
theorem fr_0_ap {A : fr_F} : fr_ap fr_0 A = A := by
  simp only [fr_ap, fr_0, List.nil_append, Nat.zero_add, Nat.add_zero]
theorem seg_c {iv iv2 iv3 : Nat → Prop} {u : Int32 × Int32 × Int32} {U2 : List (Int32 × Int32 × Int32)} {F H : fr_F} {wu : Nat} (h : seg N iv [u] F wu) (h2 : seg N iv2 U2 H w) (hd : ∀ i, iv i → iv2 i → False) (hw : wu + U2.length ≤ w) (h3 : ∀ i, iv i → iv3 i) (h4 : ∀ i, iv2 i → iv3 i) : seg N iv3 (u :: U2) (fr_ap F H) w := seg_iv (seg_app h h2 hd hw (Nat.le_refl _)) (fun i hi => hi.elim (h3 i) (h4 i)) (Nat.le_refl _)
theorem seg_ce {iv : Nat → Prop} {k a : Nat} {U2 : List (Int32 × Int32 × Int32)} {H : fr_F} (h2 : seg N iv U2 H w) (hw : 1 + U2.length ≤ w) : seg N iv ((1, nI k, nI a) :: U2) (fr_ap (fr_1 k a) H) w := seg_c seg_emit h2 (fun i h _ => h) hw (fun i h => absurd h id) (fun i h => h)
theorem seg_nil {iv : Nat → Prop} : seg N iv [] fr_0 w := by
  refine ⟨fun _ => rfl, fun S0 N' m WS C S g1 g2 g3 g4 => ⟨fun _ => ⟨S, N', GTs.rf, fun _ _ => rfl, ?_⟩, fun h9 => ?_⟩⟩
  · show cg_at S0 N' m WS (C ++ []) S
    rw [List.append_nil]; exact g2
  · have h9 : 120 < C.length + 0 := h9
    omega
theorem gen_op {k a b mid h2 wa wb : Nat} {A B : fr_F} (hN : N n = (2, nI k, [a, b], (N n).2.2.2)) (ha : gen_is N lo mid a A wa) (hb : gen_is N mid h2 b B wb) (h3 : h2 ≤ n) (h4 : n < hi) (hw : wa + 4 ≤ w) (hw2 : wb + 4 ≤ w) : gen_is N lo hi n (fr_op k A B) w := by
  have a1 := ha.1
  have a2 := ha.2.1
  have b1 := hb.1
  have b2 := hb.2.1
  have e : fr_op k A B = fr_ap A (fr_ap (fr_1 3 0) (fr_ap B (fr_ap (fr_1 k 0) fr_0))) := by unfold fr_op; rw [fr_ap_as, fr_ap_as, fr_ap_0]
  rw [e]
  have s1 : seg N (iv_r mid h2) [(0, nI b, 0), (1, nI k, nI 0)] (fr_ap B (fr_ap (fr_1 k 0) fr_0)) w := seg_c (iv2 := fun _ => False) hb.2.2 (seg_ce seg_nil (by simp; omega)) (fun i _ h => h) (by simp; omega) (fun i h => h) (fun i h => absurd h id)
  have s2 : seg N (iv_r lo hi) [(0, nI a, 0), (1, nI 3, nI 0), (0, nI b, 0), (1, nI k, nI 0)] (fr_ap A (fr_ap (fr_1 3 0) (fr_ap B (fr_ap (fr_1 k 0) fr_0)))) w := seg_c ha.2.2 (seg_ce s1 (by simp; omega)) (fun i h8 h9 => by have := h8.2; have := h9.1; omega) (by simp; omega) (fun i h => ⟨h.1, by have := h.2; omega⟩) (fun i h => ⟨by have := h.1; omega, by have := h.2; omega⟩)
  refine gen_push (by omega) h4 s2 (by simp; omega) (fun S0 N' m WS C S hq hm hc hl => ?_)
  obtain ⟨v1, e1, r1, r2, r3, r4, r5, r6, r7⟩ := gn_get hc hm hq
  rw [hN] at r1 r2 r3 r4 r6
  have hl : WS.length + 4 ≤ 600 := hl
  have ra := r6 a (by simp)
  have rb := r6 b (by simp)
  obtain ⟨S1, q1, c1⟩ := rg_todo (w := 1) (a := nI k) (b := 0) hc (by omega)
  obtain ⟨S2, q2, c2⟩ := rg_todo (w := 0) (a := nI b) (b := 0) c1 (by simp; omega)
  obtain ⟨S3, q3, c3⟩ := rg_todo (w := 1) (a := 3) (b := 0) c2 (by simp; omega)
  obtain ⟨S4, q4, c4⟩ := rg_todo (w := 0) (a := nI a) (b := 0) c3 (by simp; omega)
  refine ⟨S4, fun Q hQ => ?_, c4⟩
  have hb2 : S1.2 12 a = nI b := by rw [c1.1.2 12 (by decide), ← hc.1.2 12 (by decide)]; exact r4.1
  have hva : vp_in (nI a) 300 := nI_vp (by omega) (by omega)
  have hta : (nI a).toNatClampNeg = a := nI_clamp (by omega)
  have h11 : S.2 11 n = nI a := r3
  unfold wp_generate
  simp (decide := true) only [v1, e1, r1, r2, h11, hva, hta, not_false_eq_true, not_true_eq_false, false_implies, true_implies, and_true, true_and, and_self]
  refine q1 _ ?_
  show wp_todoNode S1 (S1.2 12 a) _
  rw [hb2]
  exact q2 _ (q3 _ (q4 _ hQ))
theorem gen_let {a b mid h2 wa wb : Nat} {A B : fr_F} (hN : N n = (6, (N n).2.1, [a, b], (N n).2.2.2)) (ha : gen_is N lo mid a A wa) (hb : gen_is N mid h2 b B wb) (h3 : h2 ≤ n) (h4 : n < hi) (hw : wa + 4 ≤ w) (hw2 : wb + 4 ≤ w) : gen_is N lo hi n (fr_let A B) w := by
  have a1 := ha.1
  have a2 := ha.2.1
  have b1 := hb.1
  have b2 := hb.2.1
  have e : fr_let A B = fr_ap A (fr_ap (fr_1 14 0) (fr_ap B (fr_ap (fr_1 15 1) fr_0))) := by
    rw [fr_ap_0]
    refine Prod.ext ?_ (funext fun b => ?_)
    · show A.1 + B.1 + 2 = A.1 + (1 + (B.1 + 1)); omega
    · show A.2 b ++ (14, 0, 0) :: (B.2 (b + A.1 + 1) ++ [(15, 1, 0)]) = A.2 b ++ ([(14, 0, 0)] ++ (B.2 (b + A.1 + 1) ++ [(15, 1, 0)])); rfl
  rw [e]
  have s1 : seg N (iv_r mid h2) [(0, nI b, 0), (1, nI 15, nI 1)] (fr_ap B (fr_ap (fr_1 15 1) fr_0)) w := seg_c (iv2 := fun _ => False) hb.2.2 (seg_ce seg_nil (by simp; omega)) (fun i _ h => h) (by simp; omega) (fun i h => h) (fun i h => absurd h id)
  have s2 : seg N (iv_r lo hi) [(0, nI a, 0), (1, nI 14, nI 0), (0, nI b, 0), (1, nI 15, nI 1)] (fr_ap A (fr_ap (fr_1 14 0) (fr_ap B (fr_ap (fr_1 15 1) fr_0)))) w := seg_c ha.2.2 (seg_ce s1 (by simp; omega)) (fun i h8 h9 => by have := h8.2; have := h9.1; omega) (by simp; omega) (fun i h => ⟨h.1, by have := h.2; omega⟩) (fun i h => ⟨by have := h.1; omega, by have := h.2; omega⟩)
  refine gen_push (by omega) h4 s2 (by simp; omega) (fun S0 N' m WS C S hq hm hc hl => ?_)
  obtain ⟨v1, e1, r1, r2, r3, r4, r5, r6, r7⟩ := gn_get hc hm hq
  rw [hN] at r1 r3 r4 r6
  have hl : WS.length + 4 ≤ 600 := hl
  have ra := r6 a (by simp)
  have rb := r6 b (by simp)
  obtain ⟨S1, q1, c1⟩ := rg_todo (w := 1) (a := 15) (b := 1) hc (by omega)
  obtain ⟨S2, q2, c2⟩ := rg_todo (w := 0) (a := nI b) (b := 0) c1 (by simp; omega)
  obtain ⟨S3, q3, c3⟩ := rg_todo (w := 1) (a := 14) (b := 0) c2 (by simp; omega)
  obtain ⟨S4, q4, c4⟩ := rg_todo (w := 0) (a := nI a) (b := 0) c3 (by simp; omega)
  refine ⟨S4, fun Q hQ => ?_, c4⟩
  have hb2 : S1.2 12 a = nI b := by rw [c1.1.2 12 (by decide), ← hc.1.2 12 (by decide)]; exact r4.1
  have hva : vp_in (nI a) 300 := nI_vp (by omega) (by omega)
  have hta : (nI a).toNatClampNeg = a := nI_clamp (by omega)
  have h11 : S.2 11 n = nI a := r3
  unfold wp_generate
  simp (decide := true) only [v1, e1, r1, h11, hva, hta, not_false_eq_true, not_true_eq_false, false_implies, true_implies, and_true, true_and, and_self]
  refine q1 _ ?_
  show wp_todoNode S1 (S1.2 12 a) _
  rw [hb2]
  exact q2 _ (q3 _ (q4 _ hQ))
end GN
