/-! THE MACHINE'S STATE, as it must be: heap (blocks), accumulator, environment, stack (top first), place -/
def ev (bs : List hb_T) : Nat → aw_T → Prop
  | 0, w => wv bs w
  | e + 1, w => ∃ (p : Nat) (x w' : aw_T), w = .inr p ∧ bk bs p = some (10, [x, w']) ∧ ev bs e w'
theorem ev_app {bs : List hb_T} {b : hb_T} : ∀ {e : Nat} {w : aw_T}, ev bs e w → ev (bs ++ [b]) e w := by
  intro e
  induction e with
  | zero => intro w h; exact wv_app h
  | succ e ih =>
    intro w h
    obtain ⟨p, x, w', h1, h2, h3⟩ := h
    exact ⟨p, x, w', h1, bk_app h2, ih h3⟩
theorem ev_wv {bs : List hb_T} {e : Nat} {w : aw_T} (h : ev bs e w) : wv bs w := by
  cases e with
  | zero => exact h
  | succ e => obtain ⟨p, x, w', rfl, h2, _⟩ := h; exact ⟨_, h2⟩
/-- word number a of an environment -/
def ax (bs : List hb_T) : Nat → aw_T → aw_T
  | 0, w => w
  | a + 1, w => match w with
    | .inl _ => .inl 1
    | .inr p => match bk bs p with
      | some b => ax bs a (b.2.getD 1 (.inl 1))
      | none => .inl 1
theorem ev_ax {bs : List hb_T} : ∀ {a e : Nat} {w : aw_T}, ev bs (e + a) w → ev bs e (ax bs a w) := by
  intro a
  induction a with
  | zero => intro e w h; exact h
  | succ a ih =>
    intro e w h
    obtain ⟨p, x, w', rfl, h2, h3⟩ := h
    show ev bs e (match bk bs p with | some b => ax bs a (b.2.getD 1 (.inl 1)) | none => .inl 1)
    rw [h2]
    exact ih h3
/-- a value: no BINDING -/
def vv (bs : List hb_T) : aw_T → Prop
  | .inl w => np w
  | .inr p => ∃ b : hb_T, bk bs p = some b ∧ ¬ b.1 = 10
theorem vv_wv {bs : List hb_T} {w : aw_T} (h : vv bs w) : wv bs w := by
  cases w with
  | inl x => exact h
  | inr p => obtain ⟨b, h0, _⟩ := h; exact ⟨b, h0⟩
theorem vv_app {bs : List hb_T} {b : hb_T} {w : aw_T} (h : vv bs w) : vv (bs ++ [b]) w := by
  cases w with
  | inl x => exact h
  | inr p => obtain ⟨b0, h0, h1⟩ := h; exact ⟨b0, bk_app h0, h1⟩
/-- a block of the right kind -/
def bty (C : List fr_C) (T : Nat → lb_T) (bs : List hb_T) (b : hb_T) : Prop := (b.1 < 8 ∧ 0 < b.1 % 4 ∧ b.2.length = b.1 % 4 ∧ ∀ x ∈ b.2, vv bs x) ∨ (b.1 = 8 ∧ ∃ (a e : Nat) (w : aw_T), b.2 = [.inl (nI (2 * a + 1)), w] ∧ nx C T a (1, e + 1, 0) ∧ ev bs e w) ∨ (b.1 = 9 ∧ ∃ (a e : Nat) (w : aw_T), b.2 = [.inl (nI (2 * a + 1)), w] ∧ nx C T a (1, e + 2, 0) ∧ ev bs e w) ∨ (b.1 = 10 ∧ b.2.length = 2 ∧ ∀ x : aw_T, b.2[0]? = some x → vv bs x)
theorem bty_app {C : List fr_C} {T : Nat → lb_T} {bs : List hb_T} {b c : hb_T} (h : bty C T bs b) : bty C T (bs ++ [c]) b := by
  rcases h with ⟨h, g1, g2, g3⟩ | ⟨h, a, e, w, h1, h2, h3⟩ | ⟨h, a, e, w, h1, h2, h3⟩ | ⟨h, g2, g3⟩
  · exact Or.inl ⟨h, g1, g2, fun x hx => vv_app (g3 x hx)⟩
  · exact Or.inr (Or.inl ⟨h, a, e, w, h1, h2, ev_app h3⟩)
  · exact Or.inr (Or.inr (Or.inl ⟨h, a, e, w, h1, h2, ev_app h3⟩))
  · exact Or.inr (Or.inr (Or.inr ⟨h, g2, fun x hx => vv_app (g3 x hx)⟩))
/-- the stack: k words, and below them, in a function, where to go on -/
def sv (C : List fr_C) (T : Nat → lb_T) (bs : List hb_T) : List aw_T → Nat → Nat → Prop
  | [], fn, k => fn = 0 ∧ k = 0
  | [w], fn, k => 0 < k ∧ vv bs w ∧ sv C T bs [] fn (k - 1)
  | w :: x :: s, fn, k => (0 < k ∧ vv bs w ∧ sv C T bs (x :: s) fn (k - 1)) ∨ (k = 0 ∧ fn = 1 ∧ ∃ a fn' e' k' : Nat, w = .inl (nI (2 * a + 1)) ∧ nx C T a (fn', e', k') ∧ ev bs e' x ∧ sv C T bs s fn' k')
theorem sv_app {C : List fr_C} {T : Nat → lb_T} {bs : List hb_T} {b : hb_T} : ∀ (n : Nat) (s : List aw_T), s.length ≤ n → ∀ fn k : Nat, sv C T bs s fn k → sv C T (bs ++ [b]) s fn k := by
  intro n
  induction n with
  | zero =>
    intro s hs fn k h
    cases s with
    | nil => exact h
    | cons w s => exact absurd hs (by simp)
  | succ n ih =>
    intro s hs fn k h
    match s, hs, h with
    | [], _, h => exact h
    | [w], _, h => exact ⟨h.1, vv_app h.2.1, h.2.2⟩
    | w :: x :: s, hs, h =>
      have hs : s.length + 1 + 1 ≤ n + 1 := hs
      rcases h with ⟨h1, h2, h3⟩ | ⟨h1, h2, a, fn', e', k', h3, h4, h5, h6⟩
      · exact Or.inl ⟨h1, vv_app h2, ih (x :: s) (by show s.length + 1 ≤ n; omega) fn (k - 1) h3⟩
      · exact Or.inr ⟨h1, h2, a, fn', e', k', h3, h4, ev_app h5, ih s (by omega) fn' k' h6⟩
theorem sv_push {C : List fr_C} {T : Nat → lb_T} {bs : List hb_T} {s : List aw_T} {w : aw_T} {fn k : Nat} (h : sv C T bs s fn k) (hw : vv bs w) : sv C T bs (w :: s) fn (k + 1) := by
  cases s with
  | nil => exact ⟨by omega, hw, h⟩
  | cons x s => exact Or.inl ⟨by omega, hw, h⟩
theorem sv_popv {C : List fr_C} {T : Nat → lb_T} {bs : List hb_T} {s : List aw_T} {fn k : Nat} (h : sv C T bs s fn (k + 1)) : ∃ (w : aw_T) (s' : List aw_T), s = w :: s' ∧ vv bs w ∧ sv C T bs s' fn k := by
  match s, h with
  | [], h => exact absurd h.2 (by omega)
  | [w], h => exact ⟨w, [], rfl, h.2.1, h.2.2⟩
  | w :: x :: s, h =>
    rcases h with ⟨h1, h2, h3⟩ | ⟨h1, _⟩
    · exact ⟨w, x :: s, rfl, h2, h3⟩
    · omega
theorem sv_pop {C : List fr_C} {T : Nat → lb_T} {bs : List hb_T} {s : List aw_T} {fn k : Nat} (h : sv C T bs s fn (k + 1)) : ∃ (w : aw_T) (s' : List aw_T), s = w :: s' ∧ wv bs w ∧ sv C T bs s' fn k := by
  obtain ⟨w, s', h1, h2, h3⟩ := sv_popv h
  exact ⟨w, s', h1, vv_wv h2, h3⟩
theorem sv_ret {C : List fr_C} {T : Nat → lb_T} {bs : List hb_T} {s : List aw_T} (h : sv C T bs s 1 0) : ∃ (a fn' e' k' : Nat) (x : aw_T) (s' : List aw_T), s = .inl (nI (2 * a + 1)) :: x :: s' ∧ nx C T a (fn', e', k') ∧ ev bs e' x ∧ sv C T bs s' fn' k' := by
  match s, h with
  | [], h => exact absurd h.1 (by omega)
  | [w], h => exact absurd h.1 (by omega)
  | w :: x :: s, h =>
    rcases h with ⟨h1, _⟩ | ⟨_, _, a, fn', e', k', rfl, h4, h5, h6⟩
    · omega
    · exact ⟨a, fn', e', k', x, s, rfl, h4, h5, h6⟩
theorem odd_np : ∀ w : Int32, w &&& 1 = 1 → np w := fun _ h => Or.inl h
def MI (C : List fr_C) (T : Nat → lb_T) (bs : List hb_T) (acc env : aw_T) (st : List aw_T) (pc : Nat) : Prop := bv bs ∧ (∀ b ∈ bs, bty C T bs b) ∧ wv bs acc ∧ pc < C.length ∧ ev bs (T pc).2.1 env ∧ sv C T bs st (T pc).1 (T pc).2.2 ∧ (∀ a : Nat, a ≤ 3 → C.getD pc z3 = (20, nI a, 0) → ∃ (p : Nat) (b : hb_T), acc = .inr p ∧ bk bs p = some b ∧ b.1 < 8 ∧ b.2.length = a) ∧ vv bs acc
section MS
variable {C : List fr_C} {T : Nat → lb_T} {bs : List hb_T} {acc env : aw_T} {st : List aw_T} {pc : Nat}
/-- on to a place that begins no case -/
theorem mi_go {bs' : List hb_T} {acc' env' : aw_T} {st' : List aw_T} {j fn e k : Nat} (hn : nx C T j (fn, e, k)) (h1 : bv bs') (h2 : ∀ b ∈ bs', bty C T bs' b) (h3 : vv bs' acc') (h4 : ev bs' e env') (h5 : sv C T bs' st' fn k) : MI C T bs' acc' env' st' j := by
  refine ⟨h1, h2, vv_wv h3, hn.1, by rw [hn.2.1]; exact h4, by rw [hn.2.1]; exact h5, fun a _ ha => absurd ?_ hn.2.2, h3⟩
  rw [ha]
/-- a block more -/
theorem mi_blk {k : Nat} {ws : List aw_T} (h1 : bv bs) (h2 : ∀ b ∈ bs, bty C T bs b) (hk : k < 16) (hw : ws.length < 4) (hv : ∀ w ∈ ws, wv bs w) (hb : bty C T (bs ++ [(k, ws)]) (k, ws)) : bv (bs ++ [(k, ws)]) ∧ ∀ b ∈ bs ++ [(k, ws)], bty C T (bs ++ [(k, ws)]) b := by
  refine ⟨fun b hb9 => ?_, fun b hb9 => ?_⟩
  · rcases List.mem_append.mp hb9 with hb9 | hb9
    · obtain ⟨a1, a2, a3⟩ := h1 b hb9
      exact ⟨a1, a2, fun w hw9 => wv_app (a3 w hw9)⟩
    · rw [List.mem_singleton] at hb9; subst hb9
      exact ⟨hk, hw, fun w hw9 => wv_app (hv w hw9)⟩
  · rcases List.mem_append.mp hb9 with hb9 | hb9
    · exact bty_app (h2 b hb9)
    · rw [List.mem_singleton] at hb9; subst hb9; exact hb
theorem vv_top {b : hb_T} (h : ¬ b.1 = 10) : vv (bs ++ [b]) (.inr (hsz bs)) := ⟨b, bk_new, h⟩
theorem wv_top {b : hb_T} : wv (bs ++ [b]) (.inr (hsz bs)) := ⟨b, bk_new⟩
/-- one binding more -/
theorem ev_bind {e : Nat} {x w : aw_T} (h : ev bs e w) : ev (bs ++ [(10, [x, w])]) (e + 1) (.inr (hsz bs)) := ⟨hsz bs, x, w, rfl, bk_new, ev_app h⟩
theorem mi_binding {x w : aw_T} (h1 : bv bs) (h2 : ∀ b ∈ bs, bty C T bs b) (hx : vv bs x) (hw : wv bs w) : bv (bs ++ [(10, [x, w])]) ∧ ∀ b ∈ bs ++ [(10, [x, w])], bty C T (bs ++ [(10, [x, w])]) b := mi_blk h1 h2 (by omega) (by simp) (fun y hy => by
  rcases List.mem_cons.mp hy with rfl | hy
  · exact vv_wv hx
  · rw [List.mem_singleton] at hy; subst hy; exact hw) (Or.inr (Or.inr (Or.inr ⟨rfl, rfl, fun y hy => by
    have e : x = y := Option.some.inj hy
    subst e; exact vv_app hx⟩)))
end MS
