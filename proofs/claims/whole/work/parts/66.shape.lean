/-! THE SHAPE OF CODE: a label for each place: in a function's body or not, how many bindings, how many words on the stack since -/
abbrev lb_T : Type := Nat × Nat × Nat
def z3 : fr_C := (0, 0, 0)
def nx (C : List fr_C) (T : Nat → lb_T) (j : Nat) (l : lb_T) : Prop := j < C.length ∧ T j = l ∧ ¬ (C.getD j z3).1 = 20
def cok (C : List fr_C) (T : Nat → lb_T) (i : Nat) : Prop :=
  ((C.getD i z3).1 = 0 ∧ (T i).1 = 0 ∧ (T i).2.2 = 0)
  ∨ (∃ v : Nat, v < 10000 ∧ (C.getD i z3).1 = 1 ∧ (C.getD i z3).2.1 = nI v ∧ nx C T (i + 1) (T i))
  ∨ (∃ a : Nat, a < (T i).2.1 ∧ a < 1000 ∧ (C.getD i z3).1 = 2 ∧ (C.getD i z3).2.1 = nI a ∧ nx C T (i + 1) (T i))
  ∨ ((C.getD i z3).1 = 3 ∧ nx C T (i + 1) ((T i).1, (T i).2.1, (T i).2.2 + 1))
  ∨ (∃ o : Nat, 4 ≤ o ∧ o ≤ 8 ∧ (C.getD i z3).1 = nI o ∧ ∃ k : Nat, (T i).2.2 = k + 1 ∧ nx C T (i + 1) ((T i).1, (T i).2.1, k))
  ∨ (∃ a : Nat, (C.getD i z3).1 = 9 ∧ (C.getD i z3).2.1 = nI a ∧ nx C T a (1, (T i).2.1 + 1, 0) ∧ nx C T (i + 1) (T i))
  ∨ (∃ a : Nat, (C.getD i z3).1 = 10 ∧ (C.getD i z3).2.1 = nI a ∧ nx C T a (1, (T i).2.1 + 2, 0) ∧ nx C T (i + 1) (T i))
  ∨ (∃ a : Nat, (C.getD i z3).1 = 11 ∧ (C.getD i z3).2.1 = nI a ∧ nx C T a (T i))
  ∨ ((C.getD i z3).1 = 12 ∧ (T i).1 = 1 ∧ (T i).2.2 = 0)
  ∨ ((C.getD i z3).1 = 13 ∧ ∃ k : Nat, (T i).2.2 = k + 1 ∧ nx C T (i + 1) ((T i).1, (T i).2.1, k))
  ∨ ((C.getD i z3).1 = 14 ∧ nx C T (i + 1) ((T i).1, (T i).2.1 + 1, (T i).2.2))
  ∨ (∃ a e : Nat, (T i).2.1 = e + a ∧ a ≤ 3 ∧ (C.getD i z3).1 = 15 ∧ (C.getD i z3).2.1 = nI a ∧ nx C T (i + 1) ((T i).1, e, (T i).2.2))
  ∨ (∃ t : Nat, t < 8 ∧ t % 4 = 0 ∧ (C.getD i z3).1 = 16 ∧ (C.getD i z3).2.1 = nI t ∧ nx C T (i + 1) (T i))
  ∨ (∃ t k : Nat, t < 8 ∧ 0 < t % 4 ∧ (T i).2.2 + 1 = k + t % 4 ∧ (C.getD i z3).1 = 17 ∧ (C.getD i z3).2.1 = nI t ∧ nx C T (i + 1) ((T i).1, (T i).2.1, k))
  ∨ (∃ n : Nat, n ≤ 8 ∧ (C.getD i z3).1 = 18 ∧ (C.getD i z3).2.1 = nI n ∧ ∀ j, 1 ≤ j → j ≤ n → ∃ t q : Nat, i + j < C.length ∧ C.getD (i + j) z3 = (19, nI t, nI q) ∧ t < 8 ∧ q < C.length ∧ T q = T i ∧ (t % 4 = 0 → ¬ (C.getD q z3).1 = 20) ∧ (0 < t % 4 → C.getD q z3 = (20, nI (t % 4), 0)))
  ∨ ((C.getD i z3).1 = 19 ∧ (T i).1 = 2)
  ∨ (∃ a : Nat, 0 < a ∧ a ≤ 3 ∧ (C.getD i z3).1 = 20 ∧ (C.getD i z3).2.1 = nI a ∧ (C.getD i z3).2.2 = 0 ∧ nx C T (i + 1) ((T i).1, (T i).2.1 + a, (T i).2.2))
def sub (C : List fr_C) (b : Nat) (l : List fr_C) : Prop := ∀ i, i < l.length → b + i < C.length ∧ C.getD (b + i) z3 = l.getD i z3
/-- a piece of code that leads from the label l0 to the label l1; fo: it may begin with an OPEN -/
def bt (fo : Bool) (F : fr_F) (l0 l1 : lb_T) : Prop := 0 < F.1 ∧ (∀ b, (F.2 b).length = F.1) ∧ (fo = false → ∀ b, ¬ ((F.2 b).getD 0 z3).1 = 20) ∧ ∃ lab : List lb_T, lab.length = F.1 ∧ lab.getD 0 (0, 0, 0) = l0 ∧ ∀ (C : List fr_C) (T : Nat → lb_T) (b : Nat), sub C b (F.2 b) → (∀ i, i < F.1 → T (b + i) = lab.getD i (0, 0, 0)) → nx C T (b + F.1) l1 → ∀ i, i < F.1 → cok C T (b + i)
theorem sub_app {C : List fr_C} {b : Nat} {A B : List fr_C} : sub C b (A ++ B) ↔ sub C b A ∧ sub C (b + A.length) B := by
  constructor
  · intro h
    refine ⟨fun i hi => ?_, fun i hi => ?_⟩
    · have := h i (by rw [List.length_append]; omega)
      rw [getD_app, if_pos hi] at this; exact this
    · have := h (A.length + i) (by rw [List.length_append]; omega)
      rw [getD_app, if_neg (by omega), show A.length + i - A.length = i by omega, ← Nat.add_assoc] at this; exact this
  · intro h i hi
    rw [getD_app]
    by_cases hA : i < A.length
    · rw [if_pos hA]; exact h.1 i hA
    · rw [if_neg hA]
      have := h.2 (i - A.length) (by rw [List.length_append] at hi; omega)
      rw [show b + A.length + (i - A.length) = b + i by omega] at this; exact this
theorem bt_ap {fo : Bool} {F H : fr_F} {l0 l1 l2 : lb_T} (h : bt fo F l0 l1) (h2 : bt false H l1 l2) : bt fo (fr_ap F H) l0 l2 := by
  obtain ⟨a1, a2, a3, lab, a4, a5, a6⟩ := h
  obtain ⟨b1, b2, b3, lab2, b4, b5, b6⟩ := h2
  have hap : ∀ b, (fr_ap F H).2 b = F.2 b ++ H.2 (b + F.1) := fun _ => rfl
  refine ⟨by show 0 < F.1 + H.1; omega, fun b => ?_, fun hfo b => ?_, lab ++ lab2, ?_, ?_, fun C T b hs hT hn i hi => ?_⟩
  · rw [hap, List.length_append, a2, b2]; rfl
  · rw [hap, getD_app, if_pos (by rw [a2]; exact a1)]; exact a3 hfo b
  · rw [List.length_append, a4, b4]; rfl
  · rw [getD_app, if_pos (by omega)]; exact a5
  · rw [hap] at hs
    obtain ⟨s1, s2⟩ := sub_app.mp hs
    rw [a2] at s2
    have hT1 : ∀ i, i < F.1 → T (b + i) = lab.getD i (0, 0, 0) := fun i hi => by
      rw [hT i (by show i < F.1 + H.1; omega), getD_app, if_pos (by omega)]
    have hT2 : ∀ i, i < H.1 → T (b + F.1 + i) = lab2.getD i (0, 0, 0) := fun i hi => by
      rw [Nat.add_assoc, hT (F.1 + i) (by show F.1 + i < F.1 + H.1; omega), getD_app, if_neg (by omega), a4, show F.1 + i - F.1 = i by omega]
    have hn2 : nx C T (b + F.1 + H.1) l2 := by rw [Nat.add_assoc]; exact hn
    have h0 := s2 0 (by rw [b2]; exact b1)
    have hn1 : nx C T (b + F.1) l1 := by
      refine ⟨h0.1, ?_, ?_⟩
      · have := hT2 0 b1; rw [b5] at this; exact this
      · have e0 := h0.2
        have e1 : C.getD (b + F.1) z3 = (H.2 (b + F.1)).getD 0 z3 := e0
        rw [e1]; exact b3 rfl (b + F.1)
    have hi : i < F.1 + H.1 := hi
    by_cases hiF : i < F.1
    · exact a6 C T b s1 hT1 hn1 i hiF
    · have := b6 C T (b + F.1) s2 hT2 hn2 (i - F.1) (by omega)
      rw [show b + F.1 + (i - F.1) = b + i by omega] at this; exact this
/-- one instruction -/
theorem bt_1 {fo : Bool} {k a : Nat} {l0 l1 : lb_T} (hk : k < 21) (hfo : fo = false → k ≠ 20) (h : ∀ (C : List fr_C) (T : Nat → lb_T) (i : Nat), (C.getD i z3).1 = nI k → (C.getD i z3).2.1 = nI a → (C.getD i z3).2.2 = 0 → T i = l0 → nx C T (i + 1) l1 → cok C T i) : bt fo (fr_1 k a) l0 l1 := by
  refine ⟨by show 0 < 1; omega, fun _ => rfl, fun hf b => ?_, [l0], rfl, rfl, fun C T b hs hT hn i hi => ?_⟩
  · show ¬ nI k = 20
    intro h9
    exact hfo hf ((nI_eq (b := 20) (by omega) (by omega)).mp h9)
  · have hi : i < 1 := hi
    have e : i = 0 := by omega
    subst e
    have h0 := hs 0 (by show 0 < 1; omega)
    have e1 : C.getD b z3 = (nI k, nI a, 0) := h0.2
    have e2 : T b = l0 := hT 0 (by show 0 < 1; omega)
    exact h C T b (by rw [e1]) (by rw [e1]) (by rw [e1]) e2 hn
section BT
variable {fn e k : Nat}
theorem bt_num {v : Nat} (hv : v < 10000) : bt false (fr_1 1 v) (fn, e, k) (fn, e, k) := bt_1 (by omega) (fun _ => by omega) (fun C T i h1 h2 h29 hT hn => by
  refine Or.inr (Or.inl ⟨v, hv, h1, h2, ?_⟩)
  rw [hT]; exact hn)
theorem bt_acc {a : Nat} (ha : a < e) (hk9 : a < 1000) : bt false (fr_1 2 a) (fn, e, k) (fn, e, k) := bt_1 (by omega) (fun _ => by omega) (fun C T i h1 h2 h29 hT hn => by
  refine Or.inr (Or.inr (Or.inl ⟨a, ?_, hk9, h1, h2, ?_⟩))
  · rw [hT]; exact ha
  · rw [hT]; exact hn)
theorem bt_push : bt false (fr_1 3 0) (fn, e, k) (fn, e, k + 1) := bt_1 (by omega) (fun _ => by omega) (fun C T i h1 h2 h29 hT hn => by
  refine Or.inr (Or.inr (Or.inr (Or.inl ⟨h1, ?_⟩)))
  rw [hT]; exact hn)
theorem bt_oper {o : Nat} (h4 : 4 ≤ o) (h8 : o ≤ 8) : bt false (fr_1 o 0) (fn, e, k + 1) (fn, e, k) := bt_1 (by omega) (fun _ => by omega) (fun C T i h1 h2 h29 hT hn => by
  refine Or.inr (Or.inr (Or.inr (Or.inr (Or.inl ⟨o, h4, h8, h1, k, ?_, ?_⟩))))
  · rw [hT]
  · rw [hT]; exact hn)
theorem bt_apply : bt false (fr_1 13 0) (fn, e, k + 1) (fn, e, k) := bt_1 (by omega) (fun _ => by omega) (fun C T i h1 h2 h29 hT hn => by
  refine Or.inr (Or.inr (Or.inr (Or.inr (Or.inr (Or.inr (Or.inr (Or.inr (Or.inr (Or.inl ⟨h1, k, ?_, ?_⟩)))))))))
  · rw [hT]
  · rw [hT]; exact hn)
theorem bt_bind : bt false (fr_1 14 0) (fn, e, k) (fn, e + 1, k) := bt_1 (by omega) (fun _ => by omega) (fun C T i h1 h2 h29 hT hn => by
  refine Or.inr (Or.inr (Or.inr (Or.inr (Or.inr (Or.inr (Or.inr (Or.inr (Or.inr (Or.inr (Or.inl ⟨h1, ?_⟩))))))))))
  rw [hT]; exact hn)
theorem bt_unbind {a : Nat} (ha : a ≤ 3) : bt false (fr_1 15 a) (fn, e + a, k) (fn, e, k) := bt_1 (by omega) (fun _ => by omega) (fun C T i h1 h2 h29 hT hn => by
  refine Or.inr (Or.inr (Or.inr (Or.inr (Or.inr (Or.inr (Or.inr (Or.inr (Or.inr (Or.inr (Or.inr (Or.inl ⟨a, e, ?_, ha, h1, h2, ?_⟩)))))))))))
  · rw [hT]
  · rw [hT]; exact hn)
theorem bt_tag {t : Nat} (h8 : t < 8) (h0 : t % 4 = 0) : bt false (fr_1 16 t) (fn, e, k) (fn, e, k) := bt_1 (by omega) (fun _ => by omega) (fun C T i h1 h2 h29 hT hn => by
  refine Or.inr (Or.inr (Or.inr (Or.inr (Or.inr (Or.inr (Or.inr (Or.inr (Or.inr (Or.inr (Or.inr (Or.inr (Or.inl ⟨t, h8, h0, h1, h2, ?_⟩))))))))))))
  rw [hT]; exact hn)
theorem bt_make {t k0 : Nat} (h8 : t < 8) (h0 : 0 < t % 4) (hk : k0 + 1 = k + t % 4) : bt false (fr_1 17 t) (fn, e, k0) (fn, e, k) := bt_1 (by omega) (fun _ => by omega) (fun C T i h1 h2 h29 hT hn => by
  refine Or.inr (Or.inr (Or.inr (Or.inr (Or.inr (Or.inr (Or.inr (Or.inr (Or.inr (Or.inr (Or.inr (Or.inr (Or.inr (Or.inl ⟨t, k, h8, h0, ?_, h1, h2, ?_⟩)))))))))))))
  · rw [hT]; exact hk
  · rw [hT]; exact hn)
theorem bt_open {a : Nat} (h0 : 0 < a) (ha : a ≤ 3) : bt true (fr_1 20 a) (fn, e, k) (fn, e + a, k) := bt_1 (by omega) (fun h => by cases h) (fun C T i h1 h2 h29 hT hn => by
  refine Or.inr (Or.inr (Or.inr (Or.inr (Or.inr (Or.inr (Or.inr (Or.inr (Or.inr (Or.inr (Or.inr (Or.inr (Or.inr (Or.inr (Or.inr (Or.inr ⟨a, h0, ha, h1, h2, h29, ?_⟩)))))))))))))))
  rw [hT]; exact hn)
end BT
/-- the code F: from e bindings to the same, whatever is on the stack -/
def fr_ty (F : fr_F) (e : Nat) : Prop := ∀ fn k : Nat, bt false F (fn, e, k) (fn, e, k)
theorem bt_e {fo : Bool} {F H : fr_F} {l0 l1 : lb_T} (h : bt fo F l0 l1) (e : F = H) : bt fo H l0 l1 := e ▸ h
theorem ty_op {e o : Nat} {A B : fr_F} (ha : fr_ty A e) (hb : fr_ty B e) (h4 : 4 ≤ o) (h8 : o ≤ 8) : fr_ty (fr_op o A B) e := fun fn k => bt_ap (bt_ap (bt_ap (ha fn k) bt_push) (hb fn (k + 1))) (bt_oper h4 h8)
theorem ty_let {e : Nat} {A B : fr_F} (ha : fr_ty A e) (hb : fr_ty B (e + 1)) : fr_ty (fr_let A B) e := fun fn k => by
  refine bt_e (bt_ap (ha fn k) (bt_ap bt_bind (bt_ap (hb fn k) (bt_unbind (a := 1) (by omega))))) ?_
  refine Prod.ext ?_ (funext fun b => ?_)
  · show A.1 + (1 + (B.1 + 1)) = A.1 + B.1 + 2; omega
  · show A.2 b ++ ([(14, 0, 0)] ++ (B.2 (b + A.1 + 1) ++ [(15, 1, 0)])) = A.2 b ++ (14, 0, 0) :: (B.2 (b + A.1 + 1) ++ [(15, 1, 0)]); rfl
theorem bt_rp {fn e k : Nat} : ∀ r : Nat, 0 < r → bt false (fr_rp r) (fn, e, k + r) (fn, e, k) := by
  intro r
  induction r with
  | zero => intro h; omega
  | succ r ih =>
    intro _
    by_cases h0 : r = 0
    · subst h0; exact bt_apply
    · refine bt_e (bt_ap (bt_apply (k := k + r)) (ih (by omega))) ?_
      refine Prod.ext ?_ (funext fun b => ?_)
      · show 1 + r = r + 1; omega
      · rfl
/-- CLOSURE or SELF, a jump over the body, the body, RETURN -/
theorem bt_fn {fn e k kk d : Nat} {A : fr_F} (hk : (kk = 9 ∧ d = 1) ∨ (kk = 10 ∧ d = 2)) (ha : fr_ty A (e + d)) : bt false (fnF kk A) (fn, e, k) (fn, e, k) := by
  obtain ⟨b1, b2, b3, lab, b4, b5, b6⟩ := ha 1 0
  refine ⟨by show 0 < A.1 + 3; omega, fnF_wf b2, fun _ b => ?_, [(fn, e, k), (fn, e, k)] ++ lab ++ [(1, e + d, 0)], ?_, rfl, fun C T b hs hT hn i hi => ?_⟩
  · show ¬ nI kk = 20
    rcases hk with ⟨rfl, _⟩ | ⟨rfl, _⟩ <;> decide
  · show ([(fn, e, k), (fn, e, k)] ++ lab ++ [(1, e + d, 0)]).length = A.1 + 3
    simp only [List.length_append, List.length_cons, List.length_nil, b4]; omega
  · have e0 : (fnF kk A).2 b = [(nI kk, nI (b + 2), 0), (11, nI (b + 2 + A.1 + 1), 0)] ++ A.2 (b + 2) ++ [(12, 0, 0)] := by
      show (nI kk, nI (b + 2), 0) :: (11, nI (b + 2 + A.1 + 1), 0) :: (A.2 (b + 2) ++ [(12, 0, 0)]) = _
      simp only [List.cons_append, List.nil_append, List.append_assoc]
    rw [e0] at hs
    obtain ⟨s1, s2⟩ := sub_app.mp hs
    obtain ⟨s3, s4⟩ := sub_app.mp s1
    have s4 : sub C (b + 2) (A.2 (b + 2)) := s4
    have hl2 : ([((nI kk : Int32), nI (b + 2), (0 : Int32)), (11, nI (b + 2 + A.1 + 1), 0)] ++ A.2 (b + 2)).length = A.1 + 2 := by
      simp only [List.length_append, List.length_cons, List.length_nil, b2]; omega
    rw [hl2] at s2
    have c0 := s3 0 (by simp)
    have c1 := s3 1 (by simp)
    have c2 := s2 0 (by decide)
    have c0' : C.getD b z3 = (nI kk, nI (b + 2), 0) := c0.2
    have c1' : C.getD (b + 1) z3 = (11, nI (b + 2 + A.1 + 1), 0) := c1.2
    have c2' : C.getD (b + (A.1 + 2)) z3 = (12, 0, 0) := c2.2
    have hA3 : (fnF kk A).1 = A.1 + 3 := rfl
    have t0 : T b = (fn, e, k) := hT 0 (by omega)
    have t1 : T (b + 1) = (fn, e, k) := hT 1 (by omega)
    have tA : ∀ i, i < A.1 → T (b + 2 + i) = lab.getD i (0, 0, 0) := fun i hi => by
      rw [Nat.add_assoc, hT (2 + i) (by omega), List.append_assoc, getD_app, if_neg (by simp), getD_app, show 2 + i - [((fn : Nat), (e : Nat), (k : Nat)), (fn, e, k)].length = i by simp, if_pos (by omega)]
    have t9 : T (b + (A.1 + 2)) = (1, e + d, 0) := by
      rw [hT (A.1 + 2) (by omega), getD_app, if_neg (by simp only [List.length_append, List.length_cons, List.length_nil, b4]; omega)]
      have : A.1 + 2 - ([((fn : Nat), (e : Nat), (k : Nat)), (fn, e, k)] ++ lab).length = 0 := by simp only [List.length_append, List.length_cons, List.length_nil, b4]; omega
      rw [this]; rfl
    have hA0 := s4 0 (by rw [b2]; exact b1)
    have nA : nx C T (b + 2) (1, e + d, 0) := by
      refine ⟨hA0.1, ?_, ?_⟩
      · have := tA 0 b1; rw [b5] at this; exact this
      · have e1 : C.getD (b + 2) z3 = (A.2 (b + 2)).getD 0 z3 := hA0.2
        rw [e1]; exact b3 rfl (b + 2)
    have nR : nx C T (b + 2 + A.1) (1, e + d, 0) := by
      rw [show b + 2 + A.1 = b + (A.1 + 2) by omega]
      exact ⟨c2.1, t9, by rw [c2']; decide⟩
    have n1 : nx C T (b + 1) (T b) := ⟨c1.1, by rw [t1, t0], by rw [c1']; show ¬ (11 : Int32) = 20; decide⟩
    have hi : i < A.1 + 3 := hi
    by_cases i0 : i = 0
    · subst i0
      show cok C T b
      rcases hk with ⟨rfl, rfl⟩ | ⟨rfl, rfl⟩
      · refine Or.inr (Or.inr (Or.inr (Or.inr (Or.inr (Or.inl ⟨b + 2, by rw [c0']; rfl, by rw [c0'], ?_, n1⟩)))))
        rw [t0]; exact nA
      · refine Or.inr (Or.inr (Or.inr (Or.inr (Or.inr (Or.inr (Or.inl ⟨b + 2, by rw [c0']; rfl, by rw [c0'], ?_, n1⟩))))))
        rw [t0]; exact nA
    · by_cases i1 : i = 1
      · subst i1
        refine Or.inr (Or.inr (Or.inr (Or.inr (Or.inr (Or.inr (Or.inr (Or.inl ⟨b + 2 + A.1 + 1, by rw [c1'], by rw [c1'], ?_⟩)))))))
        rw [t1]
        have hn' : nx C T (b + (A.1 + 3)) (fn, e, k) := hn
        rw [show b + 2 + A.1 + 1 = b + (A.1 + 3) by omega]; exact hn'
      · by_cases i9 : i = A.1 + 2
        · subst i9
          refine Or.inr (Or.inr (Or.inr (Or.inr (Or.inr (Or.inr (Or.inr (Or.inr (Or.inl ⟨by rw [c2'], by rw [t9], by rw [t9]⟩))))))))
        · have := b6 C T (b + 2) s4 tA nR (i - 2) (by omega)
          rw [show b + 2 + (i - 2) = b + i by omega] at this; exact this
theorem ty_fun {e : Nat} {A : fr_F} (ha : fr_ty A (e + 1)) : fr_ty (fr_fun A) e := fun fn k => bt_fn (kk := 9) (d := 1) (Or.inl ⟨rfl, rfl⟩) ha
theorem ty_fix {e : Nat} {A B : fr_F} (ha : fr_ty A (e + 2)) (hb : fr_ty B (e + 1)) : fr_ty (fr_fix A B) e := fun fn k => by
  refine bt_e (bt_ap (bt_fn (fn := fn) (k := k) (kk := 10) (d := 2) (Or.inr ⟨rfl, rfl⟩) ha) (bt_ap bt_bind (bt_ap (hb fn k) (bt_unbind (a := 1) (by omega))))) ?_
  refine Prod.ext ?_ (funext fun b => ?_)
  · show A.1 + 3 + (1 + (B.1 + 1)) = A.1 + B.1 + 5; omega
  · show ((10, nI (b + 2), 0) :: (11, nI (b + 2 + A.1 + 1), 0) :: (A.2 (b + 2) ++ [(12, 0, 0)])) ++ ([(14, 0, 0)] ++ (B.2 (b + (A.1 + 3) + 1) ++ [(15, 1, 0)])) = (10, nI (b + 2), 0) :: (11, nI (b + 2 + A.1 + 1), 0) :: (A.2 (b + 2) ++ (12, 0, 0) :: (14, 0, 0) :: (B.2 (b + 2 + A.1 + 2) ++ [(15, 1, 0)]))
    rw [show b + (A.1 + 3) + 1 = b + 2 + A.1 + 2 by omega]
    simp only [List.cons_append, List.append_assoc, List.nil_append]
/-! cases -/
def ca_ok (x : Nat × fr_F) (l : lb_T) : Prop := x.1 < 8 ∧ (x.1 % 4 = 0 → bt false x.2 l l) ∧ (0 < x.1 % 4 → bt true x.2 l l ∧ ∀ b, (x.2.2 b).getD 0 z3 = (20, nI (x.1 % 4), 0))
def tabp (C : List fr_C) (T : Nat → lb_T) (l : lb_T) (y : fr_C) : Prop := ∃ t q : Nat, y = (19, nI t, nI q) ∧ t < 8 ∧ q < C.length ∧ T q = l ∧ (t % 4 = 0 → ¬ (C.getD q z3).1 = 20) ∧ (0 < t % 4 → C.getD q z3 = (20, nI (t % 4), 0))
theorem ca_bt {x : Nat × fr_F} {l : lb_T} (h : ca_ok x l) : bt true x.2 l l := by
  by_cases h0 : x.1 % 4 = 0
  · obtain ⟨a1, a2, a3, a4⟩ := h.2.1 h0
    exact ⟨a1, a2, fun h9 => (by cases h9), a4⟩
  · exact (h.2.2 (by omega)).1
theorem bod_ty {l : lb_T} : ∀ cs : List (Nat × fr_F), (∀ x ∈ cs, ca_ok x l) → ∃ lab : List lb_T, lab.length = cs_len cs ∧ (∀ s en : Nat, (cs_bod cs s en).length = cs_len cs) ∧ ∀ (C : List fr_C) (T : Nat → lb_T) (s en : Nat), sub C s (cs_bod cs s en) → (∀ i, i < cs_len cs → T (s + i) = lab.getD i (0, 0, 0)) → nx C T en l → (∀ i, i < cs_len cs → cok C T (s + i)) ∧ ∀ y ∈ cs_tab cs s, tabp C T l y := by
  intro cs
  induction cs with
  | nil => intro _; exact ⟨[], rfl, fun _ _ => rfl, fun C T s en _ _ _ => ⟨fun i hi => absurd hi (Nat.not_lt_zero i), fun y hy => absurd hy List.not_mem_nil⟩⟩
  | cons x t ih =>
    intro h
    obtain ⟨lab, a1, a2, a3⟩ := ih (fun y hy => h y (List.mem_cons_of_mem _ hy))
    have hx := h x List.mem_cons_self
    obtain ⟨b1, b2, _, labx, b4, b5, b6⟩ := ca_bt hx
    have hlen : cs_len (x :: t) = x.2.1 + 1 + cs_len t := rfl
    refine ⟨labx ++ [l] ++ lab, by rw [List.length_append, List.length_append, b4, a1]; rfl, fun s en => ?_, fun C T s en hs hT hn => ?_⟩
    · show (x.2.2 s ++ (11, nI en, 0) :: cs_bod t (s + x.2.1 + 1) en).length = x.2.1 + 1 + cs_len t
      rw [List.length_append, List.length_cons, b2, a2]; omega
    · have e0 : cs_bod (x :: t) s en = x.2.2 s ++ [(11, nI en, 0)] ++ cs_bod t (s + x.2.1 + 1) en := by
        show x.2.2 s ++ (11, nI en, 0) :: cs_bod t (s + x.2.1 + 1) en = _
        simp only [List.append_assoc, List.cons_append, List.nil_append]
      rw [e0] at hs
      obtain ⟨s1, s2⟩ := sub_app.mp hs
      obtain ⟨s3, s4⟩ := sub_app.mp s1
      rw [b2] at s4
      have hl1 : (x.2.2 s ++ [((11 : Int32), nI en, (0 : Int32))]).length = x.2.1 + 1 := by rw [List.length_append, b2]; rfl
      rw [hl1, ← Nat.add_assoc] at s2
      have c1 := s4 0 (by simp)
      have c1' : C.getD (s + x.2.1) z3 = (11, nI en, 0) := c1.2
      have tX : ∀ i, i < x.2.1 → T (s + i) = labx.getD i (0, 0, 0) := fun i hi => by
        rw [hT i (by omega), List.append_assoc, getD_app, if_pos (by omega)]
      have tJ : T (s + x.2.1) = l := by
        rw [hT x.2.1 (by omega), List.append_assoc, getD_app, if_neg (by omega), b4, Nat.sub_self]; rfl
      have tR : ∀ i, i < cs_len t → T (s + x.2.1 + 1 + i) = lab.getD i (0, 0, 0) := fun i hi => by
        rw [show s + x.2.1 + 1 + i = s + (x.2.1 + 1 + i) by omega, hT (x.2.1 + 1 + i) (by omega), getD_app, if_neg (by rw [List.length_append, b4]; simp), List.length_append, b4]
        rw [show x.2.1 + 1 + i - (x.2.1 + [l].length) = i by simp]
      have nJ : nx C T (s + x.2.1) l := ⟨c1.1, tJ, by rw [c1']; show ¬ (11 : Int32) = 20; decide⟩
      obtain ⟨r1, r2⟩ := a3 C T (s + x.2.1 + 1) en s2 tR hn
      refine ⟨fun i hi => ?_, fun y hy => ?_⟩
      · by_cases i1 : i < x.2.1
        · exact b6 C T s s3 tX nJ i i1
        · by_cases i2 : i = x.2.1
          · subst i2
            refine Or.inr (Or.inr (Or.inr (Or.inr (Or.inr (Or.inr (Or.inr (Or.inl ⟨en, by rw [c1'], by rw [c1'], ?_⟩)))))))
            rw [tJ]; exact hn
          · have := r1 (i - (x.2.1 + 1)) (by omega)
            rw [show s + x.2.1 + 1 + (i - (x.2.1 + 1)) = s + i by omega] at this; exact this
      · rcases List.mem_cons.mp (show y ∈ (19, nI x.1, nI s) :: cs_tab t (s + x.2.1 + 1) from hy) with rfl | hy
        · have h0 := s3 0 (by rw [b2]; exact b1)
          have e1 : C.getD s z3 = (x.2.2 s).getD 0 z3 := h0.2
          have tS : T s = l := by have := tX 0 b1; rw [b5] at this; exact this
          refine ⟨x.1, s, rfl, hx.1, h0.1, tS, fun h9 => ?_, fun h9 => ?_⟩
          · rw [e1]; exact (hx.2.1 h9).2.2.1 rfl s
          · rw [e1]; exact (hx.2.2 h9).2 s
        · exact r2 y hy
theorem tab_len : ∀ (cs : List (Nat × fr_F)) (s : Nat), (cs_tab cs s).length = cs.length := by
  intro cs
  induction cs with
  | nil => intro s; rfl
  | cons x t ih => intro s; show (cs_tab t _).length + 1 = t.length + 1; rw [ih]
theorem ty_match {e : Nat} {A : fr_F} {cs : List (Nat × fr_F)} (ha : fr_ty A e) (hcs : ∀ fn k : Nat, ∀ x ∈ cs, ca_ok x (fn, e, k)) (hl : cs.length ≤ 8) : fr_ty (fr_ma A cs) e := by
  intro fn k
  obtain ⟨b1, b2, b3, labA, b4, b5, b6⟩ := ha fn k
  obtain ⟨labB, a1, a2, a3⟩ := bod_ty cs (hcs fn k)
  have hF : ∀ b, (fr_ma A cs).2 b = A.2 b ++ ((18, nI cs.length, 0) :: (cs_tab cs (b + A.1 + 1 + cs.length) ++ cs_bod cs (b + A.1 + 1 + cs.length) (b + A.1 + 1 + cs.length + cs_len cs))) := fun _ => rfl
  have h1 : (fr_ma A cs).1 = A.1 + 1 + cs.length + cs_len cs := rfl
  refine ⟨by omega, fun b => ?_, fun _ b => ?_, labA ++ ([(fn, e, k)] ++ (List.replicate cs.length (2, 0, 0) ++ labB)), ?_, ?_, fun C T b hs hT hn i hi => ?_⟩
  · rw [hF, List.length_append, List.length_cons, List.length_append, tab_len, a2, b2]; omega
  · rw [hF, getD_app, if_pos (by rw [b2]; exact b1)]; exact b3 rfl b
  · rw [List.length_append, List.length_append, List.length_append, List.length_replicate, a1, b4, h1]; simp; omega
  · rw [getD_app, if_pos (by omega)]; exact b5
  · rw [hF] at hs
    obtain ⟨s1, s2⟩ := sub_app.mp hs
    rw [b2] at s2
    have s2' : sub C (b + A.1) ([(18, nI cs.length, 0)] ++ (cs_tab cs (b + A.1 + 1 + cs.length) ++ cs_bod cs (b + A.1 + 1 + cs.length) (b + A.1 + 1 + cs.length + cs_len cs))) := s2
    obtain ⟨s3, s4⟩ := sub_app.mp s2'
    have s4 : sub C (b + A.1 + 1) (cs_tab cs (b + A.1 + 1 + cs.length) ++ cs_bod cs (b + A.1 + 1 + cs.length) (b + A.1 + 1 + cs.length + cs_len cs)) := s4
    obtain ⟨s5, s6⟩ := sub_app.mp s4
    rw [tab_len] at s6
    have c0 := s3 0 (by simp)
    have c0' : C.getD (b + A.1) z3 = (18, nI cs.length, 0) := c0.2
    have tA : ∀ i, i < A.1 → T (b + i) = labA.getD i (0, 0, 0) := fun i hi => by rw [hT i (by omega), getD_app, if_pos (by omega)]
    have tS : T (b + A.1) = (fn, e, k) := by
      rw [hT A.1 (by omega), getD_app, if_neg (by omega), b4, Nat.sub_self]; rfl
    have tB : ∀ i, i < cs_len cs → T (b + A.1 + 1 + cs.length + i) = labB.getD i (0, 0, 0) := fun i hi => by
      rw [show b + A.1 + 1 + cs.length + i = b + (A.1 + (1 + (cs.length + i))) by omega, hT _ (by omega), getD_app, if_neg (by omega), b4, show A.1 + (1 + (cs.length + i)) - A.1 = 1 + (cs.length + i) by omega, getD_app, if_neg (by simp), show 1 + (cs.length + i) - [((fn : Nat), (e : Nat), (k : Nat))].length = cs.length + i by simp, getD_app, if_neg (by simp), List.length_replicate, show cs.length + i - cs.length = i by omega]
    have nS : nx C T (b + A.1) (fn, e, k) := ⟨c0.1, tS, by rw [c0']; show ¬ (18 : Int32) = 20; decide⟩
    have hn' : nx C T (b + A.1 + 1 + cs.length + cs_len cs) (fn, e, k) := by
      rw [show b + A.1 + 1 + cs.length + cs_len cs = b + (fr_ma A cs).1 by omega]; exact hn
    obtain ⟨r1, r2⟩ := a3 C T (b + A.1 + 1 + cs.length) (b + A.1 + 1 + cs.length + cs_len cs) s6 tB hn'
    rw [h1] at hi
    by_cases i1 : i < A.1
    · exact b6 C T b s1 tA nS i i1
    · by_cases i2 : i = A.1
      · subst i2
        refine Or.inr (Or.inr (Or.inr (Or.inr (Or.inr (Or.inr (Or.inr (Or.inr (Or.inr (Or.inr (Or.inr (Or.inr (Or.inr (Or.inr (Or.inl ⟨cs.length, hl, by rw [c0'], by rw [c0'], fun j j1 j2 => ?_⟩))))))))))))))
        have hj := s5 (j - 1) (by rw [tab_len]; omega)
        rw [show b + A.1 + 1 + (j - 1) = b + A.1 + j by omega] at hj
        have hmem : (cs_tab cs (b + A.1 + 1 + cs.length)).getD (j - 1) z3 ∈ cs_tab cs (b + A.1 + 1 + cs.length) := by
          rw [List.getD_eq_getElem?_getD, List.getElem?_eq_getElem (by rw [tab_len]; omega)]
          exact List.getElem_mem _
        obtain ⟨t, q, e1, e2, e3, e4, e5, e6⟩ := r2 _ hmem
        exact ⟨t, q, hj.1, hj.2.trans e1, e2, e3, by rw [e4, tS], e5, e6⟩
      · by_cases i3 : i < A.1 + 1 + cs.length
        · have hj := s5 (i - (A.1 + 1)) (by rw [tab_len]; omega)
          rw [show b + A.1 + 1 + (i - (A.1 + 1)) = b + i by omega] at hj
          have hmem : (cs_tab cs (b + A.1 + 1 + cs.length)).getD (i - (A.1 + 1)) z3 ∈ cs_tab cs (b + A.1 + 1 + cs.length) := by
            rw [List.getD_eq_getElem?_getD, List.getElem?_eq_getElem (by rw [tab_len]; omega)]
            exact List.getElem_mem _
          obtain ⟨t, q, e1, _⟩ := r2 _ hmem
          refine Or.inr (Or.inr (Or.inr (Or.inr (Or.inr (Or.inr (Or.inr (Or.inr (Or.inr (Or.inr (Or.inr (Or.inr (Or.inr (Or.inr (Or.inr (Or.inl ⟨?_, ?_⟩)))))))))))))))
          · rw [hj.2, e1]
          · rw [hT i (by omega), getD_app, if_neg (by omega), b4, getD_app, if_neg (by simp; omega), getD_app, if_pos (by simp; omega), List.getD_eq_getElem?_getD, List.getElem?_replicate, if_pos (by simp; omega)]; rfl
        · have := r1 (i - (A.1 + 1 + cs.length)) (by omega)
          rw [show b + A.1 + 1 + cs.length + (i - (A.1 + 1 + cs.length)) = b + i by omega] at this; exact this
