/-! THE ABSTRACT MACHINE'S STEP: heap, accumulator, environment, stack, place, number of collections -/
abbrev am_T : Type := List hb_T × aw_T × aw_T × List aw_T × Nat × Int32
def opb : List aw_T → List hb_T → aw_T → List hb_T × aw_T
  | [], bs, e => (bs, e)
  | x :: t, bs, e => opb t (bs ++ [(10, [x, e])]) (.inr (hsz bs))
/-- the tag of a word -/
def co (bs : List hb_T) : aw_T → Int32
  | .inl w => if w &&& 3 = 2 then w >>> ((2 : Int32) &&& 31) else -1
  | .inr p => match bk bs p with
    | some b => if b.1 < 8 then nI b.1 else -1
    | none => -1
def knd (bs : List hb_T) : aw_T → Nat
  | .inl _ => 99
  | .inr p => match bk bs p with
    | some b => b.1
    | none => 99
/-- the place of the case -/
def fcs (C : List fr_C) (pc : Nat) (tag : Int32) : Nat → Nat → Int32
  | 0, _ => -1
  | r + 1, i => if (C.getD (pc + i) z3).2.1 = tag then (C.getD (pc + i) z3).2.2 else fcs C pc tag r (i + 1)
def aod (x : aw_T) : Prop := ∃ w : Int32, x = .inl w ∧ w &&& 1 = 1
def fnw (bs : List hb_T) (acc : aw_T) : Prop := knd bs acc = 8 ∨ knd bs acc = 9
def WR (C : List fr_C) (bs : List hb_T) (acc : aw_T) (st : List aw_T) (pc : Nat) : Prop :=
  (∃ (o : Nat) (x : aw_T) (st' : List aw_T), 4 ≤ o ∧ o ≤ 8 ∧ (C.getD pc z3).1 = nI o ∧ st = x :: st' ∧ ¬ (aod x ∧ aod acc))
  ∨ ((C.getD pc z3).1 = 13 ∧ ¬ fnw bs acc)
  ∨ (∃ n : Nat, n ≤ 8 ∧ (C.getD pc z3).1 = 18 ∧ (C.getD pc z3).2.1 = nI n ∧ fcs C pc (co bs acc) n 1 = -1)
def DP (C : List fr_C) (st : List aw_T) (pc : Nat) : Prop := st.length = 40 ∧ ((C.getD pc z3).1 = 3 ∨ (C.getD pc z3).1 = 13)
def wmf (i : fr_C) (kn : Nat) : Nat := if i.1 = 9 ∨ i.1 = 10 ∨ i.1 = 14 then 3 else if i.1 = 13 then (if kn = 9 then 6 else 3) else if i.1 = 17 then 1 + i.2.1.toNatClampNeg % 4 else if i.1 = 20 then 3 * i.2.1.toNatClampNeg else 0
def PF (C : List fr_C) (N : Nat) (bs : List hb_T) (acc env : aw_T) (st : List aw_T) (pc : Nat) (tn : Int32) (A : am_T) : Prop :=
  (∃ v : Nat, v < 10000 ∧ (C.getD pc z3).1 = 1 ∧ (C.getD pc z3).2.1 = nI v ∧ A = (bs, .inl (nI (2 * v + 1)), env, st, pc + 1, tn))
  ∨ (∃ (a p : Nat) (x w : aw_T), a < 1000 ∧ (C.getD pc z3).1 = 2 ∧ (C.getD pc z3).2.1 = nI a ∧ ev bs (1 + a) env ∧ ax bs a env = .inr p ∧ bk bs p = some (10, [x, w]) ∧ A = (bs, x, env, st, pc + 1, tn))
  ∨ ((C.getD pc z3).1 = 3 ∧ st.length < 40 ∧ A = (bs, acc, env, acc :: st, pc + 1, tn))
  ∨ (∃ (o : Nat) (x y : Int32) (st' : List aw_T), 4 ≤ o ∧ o ≤ 8 ∧ (C.getD pc z3).1 = nI o ∧ x &&& 1 = 1 ∧ y &&& 1 = 1 ∧ st = .inl x :: st' ∧ acc = .inl y ∧ A = (bs, .inl (mc_op o (x >>> ((1 : Int32) &&& 31)) (y >>> ((1 : Int32) &&& 31))), env, st', pc + 1, tn))
  ∨ (∃ a k : Nat, (((C.getD pc z3).1 = 9 ∧ k = 8) ∨ ((C.getD pc z3).1 = 10 ∧ k = 9)) ∧ (C.getD pc z3).2.1 = nI a ∧ hsz bs + 3 ≤ N ∧ A = (bs ++ [(k, [.inl (nI (2 * a + 1)), env])], .inr (hsz bs), env, st, pc + 1, tn))
  ∨ (∃ a : Nat, (C.getD pc z3).1 = 11 ∧ (C.getD pc z3).2.1 = nI a ∧ A = (bs, acc, env, st, a, tn))
  ∨ (∃ (a : Nat) (x : aw_T) (st' : List aw_T), (C.getD pc z3).1 = 12 ∧ a < C.length ∧ st = .inl (nI (2 * a + 1)) :: x :: st' ∧ A = (bs, acc, x, st', a, tn))
  ∨ (∃ (p a : Nat) (w x : aw_T) (st' : List aw_T), (C.getD pc z3).1 = 13 ∧ a < C.length ∧ acc = .inr p ∧ bk bs p = some (8, [.inl (nI (2 * a + 1)), w]) ∧ st = x :: st' ∧ st.length < 40 ∧ hsz bs + 3 ≤ N ∧ A = (bs ++ [(10, [x, w])], acc, .inr (hsz bs), .inl (nI (2 * (pc + 1) + 1)) :: env :: st', a, tn))
  ∨ (∃ (p a : Nat) (w x : aw_T) (st' : List aw_T), (C.getD pc z3).1 = 13 ∧ a < C.length ∧ acc = .inr p ∧ bk bs p = some (9, [.inl (nI (2 * a + 1)), w]) ∧ st = x :: st' ∧ st.length < 40 ∧ hsz bs + 6 ≤ N ∧ A = (bs ++ [(10, [acc, w])] ++ [(10, [x, .inr (hsz bs)])], acc, .inr (hsz bs + 3), .inl (nI (2 * (pc + 1) + 1)) :: env :: st', a, tn))
  ∨ ((C.getD pc z3).1 = 14 ∧ hsz bs + 3 ≤ N ∧ A = (bs ++ [(10, [acc, env])], acc, .inr (hsz bs), st, pc + 1, tn))
  ∨ (∃ a : Nat, a ≤ 3 ∧ (C.getD pc z3).1 = 15 ∧ (C.getD pc z3).2.1 = nI a ∧ ev bs a env ∧ A = (bs, acc, ax bs a env, st, pc + 1, tn))
  ∨ (∃ t : Nat, t < 8 ∧ (C.getD pc z3).1 = 16 ∧ (C.getD pc z3).2.1 = nI t ∧ A = (bs, .inl (nI (4 * t + 2)), env, st, pc + 1, tn))
  ∨ (∃ (t : Nat) (u st' : List aw_T), t < 8 ∧ 0 < t % 4 ∧ (C.getD pc z3).1 = 17 ∧ (C.getD pc z3).2.1 = nI t ∧ st = u ++ st' ∧ u.length + 1 = t % 4 ∧ hsz bs + (1 + t % 4) ≤ N ∧ A = (bs ++ [(t, u.reverse ++ [acc])], .inr (hsz bs), env, st', pc + 1, tn))
  ∨ (∃ n q : Nat, n ≤ 8 ∧ (C.getD pc z3).1 = 18 ∧ (C.getD pc z3).2.1 = nI n ∧ q < C.length ∧ (∀ j, 1 ≤ j → j ≤ n → pc + j < C.length ∧ ¬ (C.getD (pc + j) z3).2.1 = -1) ∧ fcs C pc (co bs acc) n 1 = nI q ∧ A = (bs, acc, env, st, q, tn))
  ∨ (∃ (a p : Nat) (b : hb_T), 0 < a ∧ a ≤ 3 ∧ (C.getD pc z3).1 = 20 ∧ (C.getD pc z3).2.1 = nI a ∧ acc = .inr p ∧ bk bs p = some b ∧ b.2.length = a ∧ hsz bs + 3 * a ≤ N ∧ A = ((opb b.2 bs env).1, acc, (opb b.2 bs env).2, st, pc + 1, tn))
theorem sv_fn2 {C : List fr_C} {T : Nat → lb_T} {bs : List hb_T} : ∀ (n : Nat) (s : List aw_T), s.length ≤ n → ∀ fn k : Nat, sv C T bs s fn k → fn = 0 ∨ fn = 1 := by
  intro n
  induction n with
  | zero =>
    intro s hs fn k h
    cases s with
    | nil => exact Or.inl h.1
    | cons w s => exact absurd hs (by simp)
  | succ n ih =>
    intro s hs fn k h
    match s, hs, h with
    | [], _, h => exact Or.inl h.1
    | [w], _, h => exact Or.inl h.2.2.1
    | w :: x :: s, hs, h =>
      have hs : s.length + 1 + 1 ≤ n + 1 := hs
      rcases h with ⟨h1, h2, h3⟩ | ⟨h1, h2, _⟩
      · exact ih (x :: s) (by show s.length + 1 ≤ n; omega) fn (k - 1) h3
      · exact Or.inr h2
theorem sv_pops {C : List fr_C} {T : Nat → lb_T} {bs : List hb_T} {fn : Nat} : ∀ (n : Nat) (s : List aw_T) (k : Nat), sv C T bs s fn (k + n) → ∃ u s' : List aw_T, s = u ++ s' ∧ u.length = n ∧ (∀ x ∈ u, vv bs x) ∧ sv C T bs s' fn k := by
  intro n
  induction n with
  | zero => intro s k h; exact ⟨[], s, rfl, rfl, fun x hx => absurd hx List.not_mem_nil, h⟩
  | succ n ih =>
    intro s k h
    obtain ⟨w, s1, rfl, hw, h1⟩ := sv_popv (k := k + n) h
    obtain ⟨u, s2, rfl, e2, h2, h3⟩ := ih s1 k h1
    refine ⟨w :: u, s2, rfl, by show u.length + 1 = n + 1; rw [e2], fun x hx => ?_, h3⟩
    rcases List.mem_cons.mp hx with rfl | hx
    · exact hw
    · exact h2 x hx
theorem opb_ok {C : List fr_C} {T : Nat → lb_T} : ∀ (l : List aw_T) (bs : List hb_T) (env : aw_T) (e : Nat), bv bs → (∀ b ∈ bs, bty C T bs b) → (∀ x ∈ l, vv bs x) → ev bs e env → bv (opb l bs env).1 ∧ (∀ b ∈ (opb l bs env).1, bty C T (opb l bs env).1 b) ∧ ev (opb l bs env).1 (e + l.length) (opb l bs env).2 ∧ (∀ w, vv bs w → vv (opb l bs env).1 w) ∧ (∀ (s : List aw_T) (fn k : Nat), sv C T bs s fn k → sv C T (opb l bs env).1 s fn k) ∧ hsz (opb l bs env).1 = hsz bs + 3 * l.length := by
  intro l
  induction l with
  | nil => intro bs env e h1 h2 h3 h4; exact ⟨h1, h2, h4, fun w h => h, fun _ _ _ h => h, rfl⟩
  | cons x t ih =>
    intro bs env e h1 h2 h3 h4
    have hb := mi_binding h1 h2 (h3 x List.mem_cons_self) (ev_wv h4)
    obtain ⟨g1, g2, g3, g4, g5, g6⟩ := ih (bs ++ [(10, [x, env])]) (.inr (hsz bs)) (e + 1) hb.1 hb.2 (fun y hy => vv_app (h3 y (List.mem_cons_of_mem _ hy))) (ev_bind h4)
    refine ⟨g1, g2, ?_, fun w hw => g4 w (vv_app hw), fun s fn k hs => g5 s fn k (sv_app _ s (Nat.le_refl _) fn k hs), ?_⟩
    · have : e + (x :: t).length = e + 1 + t.length := by show e + (t.length + 1) = _; omega
      rw [this]; exact g3
    · show hsz (opb t _ _).1 = hsz bs + 3 * (t.length + 1)
      rw [g6, hsz_app]; show hsz bs + (1 + 2) + 3 * t.length = _; omega
theorem fcs_ok {C : List fr_C} {pc : Nat} {tag : Int32} {P : Int32 → Prop} : ∀ (r i : Nat), (∀ j, i ≤ j → j < i + r → (C.getD (pc + j) z3).2.1 = tag → P (C.getD (pc + j) z3).2.2) → ¬ fcs C pc tag r i = -1 → P (fcs C pc tag r i) := by
  intro r
  induction r with
  | zero => intro i _ h; exact absurd rfl h
  | succ r ih =>
    intro i hP h
    unfold fcs at h ⊢
    by_cases e : (C.getD (pc + i) z3).2.1 = tag
    · rw [if_pos e]; exact hP i (Nat.le_refl _) (by omega) e
    · rw [if_neg e] at h ⊢
      exact ih (i + 1) (fun j j1 j2 => hP j (by omega) (by omega)) h
theorem tag_np : ∀ t, t < 8 → t % 4 = 0 → np (nI (4 * t + 2)) := by unfold np; decide
theorem op_np {o : Nat} {x y : Int32} (h4 : 4 ≤ o) (h8 : o ≤ 8) : np (mc_op o x y) := by
  have hodd : ∀ z : Int32, np (2 * z + 1) := fun z => by
    refine odd_np _ ?_
    refine Int32.toBitVec_inj.mp ?_
    rw [Int32.toBitVec_and, Int32.toBitVec_add, Int32.toBitVec_mul]
    generalize z.toBitVec = b
    show (BitVec.ofNat 32 2 * b + BitVec.ofNat 32 1) &&& BitVec.ofNat 32 1 = BitVec.ofNat 32 1
    refine BitVec.eq_of_toNat_eq ?_
    rw [BitVec.toNat_and, BitVec.toNat_add, BitVec.toNat_mul, BitVec.toNat_ofNat, BitVec.toNat_ofNat]
    rw [Nat.mod_eq_of_lt (show 1 < 2 ^ 32 by decide), Nat.mod_eq_of_lt (show 2 < 2 ^ 32 by decide), Nat.and_one_is_mod]; omega
  unfold mc_op
  by_cases o4 : o = 4
  · rw [if_pos o4]; exact hodd _
  by_cases o5 : o = 5
  · rw [if_neg o4, if_pos o5]; exact hodd _
  by_cases o6 : o = 6
  · rw [if_neg o4, if_neg o5, if_pos o6]; exact hodd _
  rw [if_neg o4, if_neg o5, if_neg o6]
  by_cases o7 : o = 7
  · rw [if_pos o7]
    split
    · exact Or.inr (Or.inr rfl)
    · exact Or.inr (Or.inl rfl)
  · rw [if_neg o7]
    split
    · exact Or.inr (Or.inr rfl)
    · exact Or.inr (Or.inl rfl)
theorem ax_get {bs : List hb_T} {a : Nat} {env : aw_T} (h : ev bs (1 + a) env) : ∃ (p : Nat) (x w : aw_T), ax bs a env = .inr p ∧ bk bs p = some (10, [x, w]) := by
  have h1 := ev_ax (a := a) (e := 1) h
  obtain ⟨p, x, w, e1, e2, _⟩ := h1
  exact ⟨p, x, w, e1, e2⟩
theorem ev_le {bs : List hb_T} {e a : Nat} (hb : bv bs) : ∀ {w : aw_T}, ev bs (e + a) w → ev bs a w := by
  induction a with
  | zero => intro w h; exact ev_wv h
  | succ a ih =>
    intro w h
    obtain ⟨p, x, w', rfl, h2, h3⟩ := h
    exact ⟨p, x, w', rfl, h2, ih h3⟩
theorem knd_some {bs : List hb_T} {acc : aw_T} {k : Nat} (hk : k < 99) (h : knd bs acc = k) : ∃ (p : Nat) (b : hb_T), acc = .inr p ∧ bk bs p = some b ∧ b.1 = k := by
  cases acc with
  | inl w => exact absurd h (by show ¬ 99 = k; omega)
  | inr p =>
    cases hb : bk bs p with
    | none =>
      have : knd bs (.inr p) = 99 := by simp only [knd, hb]
      omega
    | some b =>
      have : knd bs (.inr p) = b.1 := by simp only [knd, hb]
      exact ⟨p, b, rfl, hb, by omega⟩
theorem m1_ne {t : Nat} (h : t < 2 ^ 31) : ¬ (-1 : Int32) = nI t := fun e => nI_pos h (by rw [← e]; decide)
section DO
variable {C : List fr_C} {T : Nat → lb_T} {bs : List hb_T} {acc env : aw_T} {st : List aw_T} {pc N : Nat} {tn : Int32}
set_option maxHeartbeats 4000000 in
/-- what is not hindered can be done, and leaves a machine as it must be -/
theorem do_ok (hC : C.length ≤ 120) (h : MI C T bs acc env st pc) (hc : cok C T pc) (hw : ¬ WR C bs acc st pc) (hd : ¬ DP C st pc) (h0 : ¬ (C.getD pc z3).1 = 0) (hst : st.length ≤ 40) (hN : hsz bs + wmf (C.getD pc z3) (knd bs acc) ≤ N) : ∃ A : am_T, PF C N bs acc env st pc tn A ∧ MI C T A.1 A.2.1 A.2.2.1 A.2.2.2.1 A.2.2.2.2.1 ∧ A.2.2.2.1.length ≤ 40 ∧ hsz A.1 ≤ N := by
  obtain ⟨h1, h2, h3, h4, h5, h6, h7, h8⟩ := h
  have hlab : T pc = ((T pc).1, (T pc).2.1, (T pc).2.2) := rfl
  rcases hc with ⟨c0, _⟩ | ⟨v, cv, c0, c1, cn⟩ | ⟨a, ca, ca9, c0, c1, cn⟩ | ⟨c0, cn⟩ | ⟨o, o4, o8, c0, k, ck, cn⟩ | ⟨a, c0, c1, ca, cn⟩ | ⟨a, c0, c1, ca, cn⟩ | ⟨a, c0, c1, cn⟩ | ⟨c0, cf, ck⟩ | ⟨c0, k, ck, cn⟩ | ⟨c0, cn⟩ | ⟨a, e, ce, ca, c0, c1, cn⟩ | ⟨t, ct, ct4, c0, c1, cn⟩ | ⟨t, k, ct, ct4, ck, c0, c1, cn⟩ | ⟨n, cn8, c0, c1, cs⟩ | ⟨c0, c2⟩ | ⟨a, ca0, ca, c0, c1, c2, cn⟩
  · exact absurd c0 h0
  · refine ⟨_, Or.inl ⟨v, cv, c0, c1, rfl⟩, ?_, hst, by show hsz bs ≤ N; omega⟩
    exact mi_go (by rw [hlab] at cn; exact cn) h1 h2 (odd_np _ int_odd) h5 h6
  · have hev : ev bs (1 + a) env := ev_le (e := (T pc).2.1 - (1 + a)) h1 (by rw [show (T pc).2.1 - (1 + a) + (1 + a) = (T pc).2.1 by omega]; exact h5)
    obtain ⟨p, x, w, e1, e2⟩ := ax_get hev
    refine ⟨_, Or.inr (Or.inl ⟨a, p, x, w, ca9, c0, c1, hev, e1, e2, rfl⟩), ?_, hst, by show hsz bs ≤ N; omega⟩
    refine mi_go (by rw [hlab] at cn; exact cn) h1 h2 ?_ h5 h6
    rcases h2 _ (bk_lt e2).2 with ⟨b1, _⟩ | ⟨b1, _⟩ | ⟨b1, _⟩ | ⟨_, _, b1⟩
    · exact absurd b1 (by show ¬ 10 < 8; omega)
    · exact absurd b1 (by show ¬ 10 = 8; omega)
    · exact absurd b1 (by show ¬ 10 = 9; omega)
    · exact b1 x rfl
  · have hl : st.length < 40 := by
      refine Nat.lt_of_le_of_ne hst (fun e => hd ⟨e, Or.inl c0⟩)
    refine ⟨_, Or.inr (Or.inr (Or.inl ⟨c0, hl, rfl⟩)), ?_, by show st.length + 1 ≤ 40; omega, by show hsz bs ≤ N; omega⟩
    exact mi_go cn h1 h2 h8 h5 (sv_push h6 h8)
  · rw [ck] at h6
    obtain ⟨w, st', rfl, hw1, h6'⟩ := sv_pop h6
    have hodd : aod w ∧ aod acc := Classical.byContradiction (fun h9 => hw (Or.inl ⟨o, w, st', o4, o8, c0, rfl, h9⟩))
    obtain ⟨⟨x, rfl, hx⟩, ⟨y, rfl, hy⟩⟩ := hodd
    refine ⟨_, Or.inr (Or.inr (Or.inr (Or.inl ⟨o, x, y, st', o4, o8, c0, hx, hy, rfl, rfl, rfl⟩))), ?_, ?_, by show hsz bs ≤ N; omega⟩
    · exact mi_go cn h1 h2 (op_np o4 o8) h5 h6'
    · have hst : st'.length + 1 ≤ 40 := hst
      show st'.length ≤ 40; omega
  · have hwm : wmf (C.getD pc z3) (knd bs acc) = 3 := by unfold wmf; rw [if_pos (Or.inl c0)]
    refine ⟨_, Or.inr (Or.inr (Or.inr (Or.inr (Or.inl ⟨a, 8, Or.inl ⟨c0, rfl⟩, c1, by omega, rfl⟩)))), ?_, hst, by show hsz (bs ++ [_]) ≤ N; rw [hsz_app]; show hsz bs + (1 + 2) ≤ N; omega⟩
    have hb := mi_blk (k := 8) (ws := [.inl (nI (2 * a + 1)), env]) h1 h2 (by omega) (by simp) (fun y hy => by
      rcases List.mem_cons.mp hy with rfl | hy
      · exact odd_np _ int_odd
      · rw [List.mem_singleton] at hy; subst hy; exact ev_wv h5) (Or.inr (Or.inl ⟨rfl, a, (T pc).2.1, env, rfl, ca, ev_app h5⟩))
    exact mi_go (by rw [hlab] at cn; exact cn) hb.1 hb.2 (vv_top (by show ¬ 8 = 10; omega)) (ev_app h5) (sv_app _ _ (Nat.le_refl _) _ _ h6)
  · have hwm : wmf (C.getD pc z3) (knd bs acc) = 3 := by unfold wmf; rw [if_pos (Or.inr (Or.inl c0))]
    refine ⟨_, Or.inr (Or.inr (Or.inr (Or.inr (Or.inl ⟨a, 9, Or.inr ⟨c0, rfl⟩, c1, by omega, rfl⟩)))), ?_, hst, by show hsz (bs ++ [_]) ≤ N; rw [hsz_app]; show hsz bs + (1 + 2) ≤ N; omega⟩
    have hb := mi_blk (k := 9) (ws := [.inl (nI (2 * a + 1)), env]) h1 h2 (by omega) (by simp) (fun y hy => by
      rcases List.mem_cons.mp hy with rfl | hy
      · exact odd_np _ int_odd
      · rw [List.mem_singleton] at hy; subst hy; exact ev_wv h5) (Or.inr (Or.inr (Or.inl ⟨rfl, a, (T pc).2.1, env, rfl, ca, ev_app h5⟩)))
    exact mi_go (by rw [hlab] at cn; exact cn) hb.1 hb.2 (vv_top (by show ¬ 9 = 10; omega)) (ev_app h5) (sv_app _ _ (Nat.le_refl _) _ _ h6)
  · refine ⟨_, Or.inr (Or.inr (Or.inr (Or.inr (Or.inr (Or.inl ⟨a, c0, c1, rfl⟩))))), ?_, hst, by show hsz bs ≤ N; omega⟩
    exact mi_go (by rw [hlab] at cn; exact cn) h1 h2 h8 h5 h6
  · rw [cf, ck] at h6
    obtain ⟨a, fn', e', k', x, s', rfl, r1, r2, r3⟩ := sv_ret h6
    refine ⟨_, Or.inr (Or.inr (Or.inr (Or.inr (Or.inr (Or.inr (Or.inl ⟨a, x, s', c0, r1.1, rfl, rfl⟩)))))), ?_, ?_, by show hsz bs ≤ N; omega⟩
    · exact mi_go r1 h1 h2 h8 r2 r3
    · have hst : s'.length + 1 + 1 ≤ 40 := hst
      show s'.length ≤ 40; omega
  · rw [ck] at h6
    obtain ⟨x, st', rfl, hw1, h6'⟩ := sv_popv h6
    have hl : (x :: st').length < 40 := Nat.lt_of_le_of_ne hst (fun e => hd ⟨e, Or.inr c0⟩)
    have hl' : st'.length + 1 < 40 := hl
    have hfn : fnw bs acc := Classical.byContradiction (fun h9 => hw (Or.inr (Or.inl ⟨c0, h9⟩)))
    have hrt : ∀ bs', ev bs' (T pc).2.1 env → sv C T bs' st' (T pc).1 k → sv C T bs' (.inl (nI (2 * (pc + 1) + 1)) :: env :: st') 1 0 := fun bs' g1 g2 => Or.inr ⟨rfl, rfl, pc + 1, (T pc).1, (T pc).2.1, k, rfl, cn, g1, g2⟩
    rcases hfn with hk | hk
    · obtain ⟨p, b, rfl, e2, e3⟩ := knd_some (by omega) hk
      have hwm : wmf (C.getD pc z3) (knd bs (.inr p)) = 3 := by unfold wmf; rw [c0, hk]; rfl
      rcases h2 b (bk_lt e2).2 with ⟨b1, _⟩ | ⟨b1, a, e, w, b2, b3, b4⟩ | ⟨b1, _⟩ | ⟨b1, _⟩
      · omega
      · have eb : b = (8, [.inl (nI (2 * a + 1)), w]) := Prod.ext b1 b2
        rw [eb] at e2
        refine ⟨_, Or.inr (Or.inr (Or.inr (Or.inr (Or.inr (Or.inr (Or.inr (Or.inl ⟨p, a, w, x, st', c0, b3.1, rfl, e2, rfl, hl, by omega, rfl⟩))))))), ?_, by show st'.length + 1 + 1 ≤ 40; omega, by show hsz (bs ++ [_]) ≤ N; rw [hsz_app]; show hsz bs + (1 + 2) ≤ N; omega⟩
        have hb := mi_binding h1 h2 hw1 (ev_wv b4)
        exact mi_go b3 hb.1 hb.2 (vv_app h8) (ev_bind b4) (hrt _ (ev_app h5) (sv_app _ _ (Nat.le_refl _) _ _ h6'))
      · omega
      · omega
    · obtain ⟨p, b, rfl, e2, e3⟩ := knd_some (by omega) hk
      have hwm : wmf (C.getD pc z3) (knd bs (.inr p)) = 6 := by unfold wmf; rw [c0, hk]; rfl
      rcases h2 b (bk_lt e2).2 with ⟨b1, _⟩ | ⟨b1, _⟩ | ⟨b1, a, e, w, b2, b3, b4⟩ | ⟨b1, _⟩
      · omega
      · omega
      · have eb : b = (9, [.inl (nI (2 * a + 1)), w]) := Prod.ext b1 b2
        rw [eb] at e2
        have hz : hsz (bs ++ [(10, [(.inr p : aw_T), w])]) = hsz bs + 3 := by rw [hsz_app]; rfl
        refine ⟨_, Or.inr (Or.inr (Or.inr (Or.inr (Or.inr (Or.inr (Or.inr (Or.inr (Or.inl ⟨p, a, w, x, st', c0, b3.1, rfl, e2, rfl, hl, by omega, rfl⟩)))))))), ?_, by show st'.length + 1 + 1 ≤ 40; omega, by show hsz (bs ++ [_] ++ [_]) ≤ N; rw [hsz_app, hsz_app]; show hsz bs + (1 + 2) + (1 + 2) ≤ N; omega⟩
        have hb := mi_binding h1 h2 (x := .inr p) h8 (ev_wv b4)
        have he1 := ev_bind (x := .inr p) b4
        have hb2 := mi_binding hb.1 hb.2 (x := x) (vv_app hw1) (ev_wv he1)
        have he2 := ev_bind (x := x) he1
        rw [hz] at he2
        exact mi_go b3 hb2.1 hb2.2 (vv_app (vv_app h8)) he2 (hrt _ (ev_app (ev_app h5)) (sv_app _ _ (Nat.le_refl _) _ _ (sv_app _ _ (Nat.le_refl _) _ _ h6')))
      · omega
  · have hwm : wmf (C.getD pc z3) (knd bs acc) = 3 := by unfold wmf; rw [if_pos (Or.inr (Or.inr c0))]
    refine ⟨_, Or.inr (Or.inr (Or.inr (Or.inr (Or.inr (Or.inr (Or.inr (Or.inr (Or.inr (Or.inl ⟨c0, by omega, rfl⟩))))))))), ?_, hst, by show hsz (bs ++ [_]) ≤ N; rw [hsz_app]; show hsz bs + (1 + 2) ≤ N; omega⟩
    have hb := mi_binding h1 h2 h8 (ev_wv h5)
    exact mi_go cn hb.1 hb.2 (vv_app h8) (ev_bind h5) (sv_app _ _ (Nat.le_refl _) _ _ h6)
  · rw [ce] at h5
    refine ⟨_, Or.inr (Or.inr (Or.inr (Or.inr (Or.inr (Or.inr (Or.inr (Or.inr (Or.inr (Or.inr (Or.inl ⟨a, ca, c0, c1, ev_le h1 h5, rfl⟩)))))))))), ?_, hst, by show hsz bs ≤ N; omega⟩
    exact mi_go cn h1 h2 h8 (ev_ax h5) h6
  · refine ⟨_, Or.inr (Or.inr (Or.inr (Or.inr (Or.inr (Or.inr (Or.inr (Or.inr (Or.inr (Or.inr (Or.inr (Or.inl ⟨t, ct, c0, c1, rfl⟩))))))))))), ?_, hst, by show hsz bs ≤ N; omega⟩
    exact mi_go (by rw [hlab] at cn; exact cn) h1 h2 (tag_np t ct ct4) h5 h6
  · have hwm : wmf (C.getD pc z3) (knd bs acc) = 1 + t % 4 := by
      unfold wmf; rw [c0, c1, nI_clamp (by omega)]; rfl
    have hk : (T pc).2.2 = k + (t % 4 - 1) := by omega
    rw [hk] at h6
    obtain ⟨u, s', rfl, u1, u2, u3⟩ := sv_pops _ _ _ h6
    have hlen : (u.reverse ++ [acc]).length = t % 4 := by rw [List.length_append, List.length_reverse, u1]; show t % 4 - 1 + 1 = t % 4; omega
    refine ⟨_, Or.inr (Or.inr (Or.inr (Or.inr (Or.inr (Or.inr (Or.inr (Or.inr (Or.inr (Or.inr (Or.inr (Or.inr (Or.inl ⟨t, u, s', ct, ct4, c0, c1, rfl, by omega, by omega, rfl⟩)))))))))))), ?_, ?_, by show hsz (bs ++ [_]) ≤ N; rw [hsz_app]; show hsz bs + (1 + (u.reverse ++ [acc]).length) ≤ N; rw [hlen]; omega⟩
    · have hb := mi_blk (k := t) (ws := u.reverse ++ [acc]) h1 h2 (by omega) (by rw [hlen]; omega) (fun y hy => by
        rcases List.mem_append.mp hy with hy | hy
        · exact vv_wv (u2 y (List.mem_reverse.mp hy))
        · rw [List.mem_singleton] at hy; subst hy; exact h3) (Or.inl ⟨ct, ct4, hlen, fun y hy => by
        rcases List.mem_append.mp hy with hy | hy
        · exact vv_app (u2 y (List.mem_reverse.mp hy))
        · rw [List.mem_singleton] at hy; subst hy; exact vv_app h8⟩)
      exact mi_go cn hb.1 hb.2 (vv_top (by show ¬ t = 10; omega)) (ev_app h5) (sv_app _ _ (Nat.le_refl _) _ _ u3)
    · rw [List.length_append] at hst; show s'.length ≤ 40; omega
  · have hf : ¬ fcs C pc (co bs acc) n 1 = -1 := fun h9 => hw (Or.inr (Or.inr ⟨n, cn8, c0, c1, h9⟩))
    have hP := fcs_ok (P := fun v => ∃ t q : Nat, v = nI q ∧ co bs acc = nI t ∧ t < 8 ∧ q < C.length ∧ T q = T pc ∧ (t % 4 = 0 → ¬ (C.getD q z3).1 = 20) ∧ (0 < t % 4 → C.getD q z3 = (20, nI (t % 4), 0))) n 1 (fun j j1 j2 ej => by
      obtain ⟨t, q, s1, s2, s3, s4, s5, s6, s7⟩ := cs j j1 (by omega)
      rw [s2] at ej ⊢
      exact ⟨t, q, rfl, ej.symm, s3, s4, s5, s6, s7⟩) hf
    obtain ⟨t, q, s1, s2, s3, s4, s5, s6, s7⟩ := hP
    refine ⟨_, Or.inr (Or.inr (Or.inr (Or.inr (Or.inr (Or.inr (Or.inr (Or.inr (Or.inr (Or.inr (Or.inr (Or.inr (Or.inr (Or.inl ⟨n, q, cn8, c0, c1, s4, fun j j1 j2 => ?_, s1, rfl⟩))))))))))))), ?_, hst, by show hsz bs ≤ N; omega⟩
    · obtain ⟨t9, _, r1, r2, r3, _⟩ := cs j j1 j2
      exact ⟨r1, by rw [r2]; exact fun h9 => m1_ne (t := t9) (by omega) h9.symm⟩
    · refine ⟨h1, h2, h3, s4, by show ev bs (T q).2.1 env; rw [s5]; exact h5, by show sv C T bs st (T q).1 (T q).2.2; rw [s5]; exact h6, fun a ha9 ha => ?_, h8⟩
      have ha : C.getD q z3 = (20, nI a, 0) := ha
      by_cases t4 : t % 4 = 0
      · exact absurd (by rw [ha]) (s6 t4)
      · have e7 := s7 (by omega)
        rw [ha] at e7
        have e8 : nI a = nI (t % 4) := (Prod.mk.inj (Prod.mk.inj e7).2).1
        have e9 : a = t % 4 := (nI_eq (by omega) (by omega)).mp e8
        subst e9
        cases acc with
        | inl w =>
          have e10 : (if w &&& 3 = 2 then w >>> ((2 : Int32) &&& 31) else -1) = nI t := s2
          have h3 : np w := h3
          rcases h3 with h3 | rfl | rfl
          · rw [if_neg (odd_3 h3).2] at e10
            exact absurd e10 (m1_ne (by omega))
          · have : (0 : Int32) = nI t := e10
            have := (nI_eq (a := 0) (by omega) (by omega)).mp this
            omega
          · have : (4 : Int32) = nI t := e10
            have := (nI_eq (a := 4) (by omega) (by omega)).mp this
            omega
        | inr p =>
          obtain ⟨b, hb⟩ := h3
          have e10 : (if b.1 < 8 then nI b.1 else -1) = nI t := by simpa only [co, hb] using s2
          by_cases b8 : b.1 < 8
          · rw [if_pos b8] at e10
            have e11 : b.1 = t := (nI_eq (by omega) (by omega)).mp e10
            rcases h2 b (bk_lt hb).2 with ⟨_, _, b1, _⟩ | ⟨b1, _⟩ | ⟨b1, _⟩ | ⟨b1, _⟩
            · exact ⟨p, b, rfl, hb, b8, by rw [b1, e11]⟩
            · omega
            · omega
            · omega
          · rw [if_neg b8] at e10; exact absurd e10 (m1_ne (by omega))
  · rcases sv_fn2 _ st (Nat.le_refl _) _ _ h6 with h9 | h9 <;> omega
  · have hi : C.getD pc z3 = (20, nI a, 0) := Prod.ext c0 (Prod.ext c1 c2)
    obtain ⟨p, b, rfl, e2, e3, e4⟩ := h7 a ca hi
    have hwm : wmf (C.getD pc z3) (knd bs (.inr p)) = 3 * a := by
      unfold wmf; rw [c0, c1, nI_clamp (by omega)]; rfl
    have hfv : ∀ x ∈ b.2, vv bs x := by
      rcases h2 b (bk_lt e2).2 with ⟨_, _, _, b1⟩ | ⟨b1, _⟩ | ⟨b1, _⟩ | ⟨b1, _⟩
      · exact b1
      · omega
      · omega
      · omega
    obtain ⟨g1, g2, g3, g4, g5, g6⟩ := opb_ok (C := C) (T := T) b.2 bs env _ h1 h2 hfv h5
    refine ⟨_, Or.inr (Or.inr (Or.inr (Or.inr (Or.inr (Or.inr (Or.inr (Or.inr (Or.inr (Or.inr (Or.inr (Or.inr (Or.inr (Or.inr ⟨a, p, b, ca0, ca, c0, c1, rfl, e2, e4, by omega, rfl⟩))))))))))))), ?_, hst, by show hsz (opb _ _ _).1 ≤ N; rw [g6, e4]; omega⟩
    rw [e4] at g3
    exact mi_go cn g1 g2 (g4 _ h8) g3 (g5 _ _ _ h6)
end DO
