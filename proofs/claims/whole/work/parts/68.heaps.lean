/-! THE HEAP AS A LIST OF BLOCKS: a word is a number or a tag (.inl), or points to the block at a place (.inr); kind and words of a block -/
abbrev aw_T : Type := Int32 ⊕ Nat
abbrev hb_T : Type := Nat × List aw_T
/-- the word as it stands in a heap that begins at place s -/
def cw (s : Nat) : aw_T → Int32
  | .inl w => w
  | .inr p => nI (4 * (p + s))
def hsz {α : Type} : List (Nat × List α) → Nat
  | [] => 0
  | b :: t => 1 + b.2.length + hsz t
def lay {α : Type} (f : Nat → Int32) (c : α → Int32) : Nat → List (Nat × List α) → Prop
  | _, [] => True
  | s, b :: t => f s = nI (16 * b.2.length + b.1) ∧ (∀ (j : Nat) (x : α), b.2[j]? = some x → f (s + 1 + j) = c x) ∧ lay f c (s + 1 + b.2.length) t
def bk {α : Type} : List (Nat × List α) → Nat → Option (Nat × List α)
  | [], _ => none
  | b :: t, p => if p = 0 then some b else if p < 1 + b.2.length then none else bk t (p - (1 + b.2.length))
theorem hsz_app {α : Type} {A : List (Nat × List α)} {b : Nat × List α} : hsz (A ++ [b]) = hsz A + (1 + b.2.length) := by
  induction A with
  | nil => show 1 + b.2.length + 0 = 0 + (1 + b.2.length); omega
  | cons x t ih => show 1 + x.2.length + hsz (t ++ [b]) = 1 + x.2.length + hsz t + (1 + b.2.length); rw [ih]; omega
theorem bk_lt {α : Type} : ∀ {A : List (Nat × List α)} {p : Nat} {b : Nat × List α}, bk A p = some b → p + 1 + b.2.length ≤ hsz A ∧ b ∈ A := by
  intro A
  induction A with
  | nil => intro p b h; cases h
  | cons x t ih =>
    intro p b h
    unfold bk at h
    by_cases h0 : p = 0
    · rw [if_pos h0] at h; cases h
      exact ⟨by show p + 1 + x.2.length ≤ 1 + x.2.length + hsz t; omega, List.mem_cons_self⟩
    · rw [if_neg h0] at h
      by_cases h1 : p < 1 + x.2.length
      · rw [if_pos h1] at h; cases h
      · rw [if_neg h1] at h
        obtain ⟨a1, a2⟩ := ih h
        exact ⟨by show p + 1 + b.2.length ≤ 1 + x.2.length + hsz t; omega, List.mem_cons_of_mem _ a2⟩
theorem bk_app {α : Type} {b2 : Nat × List α} : ∀ {A : List (Nat × List α)} {p : Nat} {b : Nat × List α}, bk A p = some b → bk (A ++ [b2]) p = some b := by
  intro A
  induction A with
  | nil => intro p b h; cases h
  | cons x t ih =>
    intro p b h
    unfold bk at h
    show (if p = 0 then some x else if p < 1 + x.2.length then none else bk (t ++ [b2]) (p - (1 + x.2.length))) = some b
    by_cases h0 : p = 0
    · rw [if_pos h0] at h ⊢; exact h
    · rw [if_neg h0] at h ⊢
      by_cases h1 : p < 1 + x.2.length
      · rw [if_pos h1] at h; cases h
      · rw [if_neg h1] at h ⊢; exact ih h
theorem bk_new {α : Type} {b : Nat × List α} : ∀ {A : List (Nat × List α)}, bk (A ++ [b]) (hsz A) = some b := by
  intro A
  induction A with
  | nil => rfl
  | cons x t ih =>
    show (if 1 + x.2.length + hsz t = 0 then some x else if 1 + x.2.length + hsz t < 1 + x.2.length then none else bk (t ++ [b]) (1 + x.2.length + hsz t - (1 + x.2.length))) = some b
    rw [if_neg (by omega), if_neg (by omega), show 1 + x.2.length + hsz t - (1 + x.2.length) = hsz t by omega]; exact ih
theorem lay_bk {α : Type} {f : Nat → Int32} {c : α → Int32} : ∀ {A : List (Nat × List α)} {s p : Nat} {b : Nat × List α}, lay f c s A → bk A p = some b → f (s + p) = nI (16 * b.2.length + b.1) ∧ ∀ (j : Nat) (x : α), b.2[j]? = some x → f (s + p + 1 + j) = c x := by
  intro A
  induction A with
  | nil => intro s p b _ h; cases h
  | cons x t ih =>
    intro s p b hl h
    unfold bk at h
    by_cases h0 : p = 0
    · rw [if_pos h0] at h; cases h
      subst h0
      exact ⟨hl.1, hl.2.1⟩
    · rw [if_neg h0] at h
      by_cases h1 : p < 1 + x.2.length
      · rw [if_pos h1] at h; cases h
      · rw [if_neg h1] at h
        have := ih hl.2.2 h
        rw [show s + 1 + x.2.length + (p - (1 + x.2.length)) = s + p by omega] at this
        exact this
theorem lay_eq {α : Type} {f g : Nat → Int32} {c : α → Int32} : ∀ {A : List (Nat × List α)} {s : Nat}, lay f c s A → (∀ i, s ≤ i → i < s + hsz A → g i = f i) → lay g c s A := by
  intro A
  induction A with
  | nil => intro s _ _; trivial
  | cons x t ih =>
    intro s hl h
    have hz : hsz (x :: t) = 1 + x.2.length + hsz t := rfl
    refine ⟨?_, fun j y hj => ?_, ih hl.2.2 (fun i i1 i2 => h i (by omega) (by omega))⟩
    · rw [h s (Nat.le_refl _) (by omega)]; exact hl.1
    · have hlt := (List.getElem?_eq_some_iff.mp hj).1
      rw [h (s + 1 + j) (by omega) (by omega)]; exact hl.2.1 j y hj
theorem lay_app {α : Type} {f : Nat → Int32} {c : α → Int32} {b : Nat × List α} : ∀ {A : List (Nat × List α)} {s : Nat}, lay f c s A → f (s + hsz A) = nI (16 * b.2.length + b.1) → (∀ (j : Nat) (x : α), b.2[j]? = some x → f (s + hsz A + 1 + j) = c x) → lay f c s (A ++ [b]) := by
  intro A
  induction A with
  | nil => intro s _ h1 h2; exact ⟨h1, h2, trivial⟩
  | cons x t ih =>
    intro s hl h1 h2
    have hz : hsz (x :: t) = 1 + x.2.length + hsz t := rfl
    refine ⟨hl.1, hl.2.1, ih hl.2.2 ?_ (fun j y hj => ?_)⟩
    · rw [show s + 1 + x.2.length + hsz t = s + hsz (x :: t) by omega]; exact h1
    · rw [show s + 1 + x.2.length + hsz t + 1 + j = s + hsz (x :: t) + 1 + j by omega]; exact h2 j y hj
/-! numbers, tags, pointers -/
theorem hdr_and : ∀ n, n < 4 → ∀ k, k < 16 → nI (16 * n + k) &&& 15 = nI k := by decide
theorem hdr_shr : ∀ n, n < 4 → ∀ k, k < 16 → nI (16 * n + k) >>> ((4 : Int32) &&& 31) = nI n := by decide
theorem ptr_and : ∀ p, p < 400 → nI (4 * p) &&& 3 = 0 := by decide +kernel
theorem ptr_shr : ∀ p, p < 400 → nI (4 * p) >>> ((2 : Int32) &&& 31) = nI p := by decide +kernel
theorem ptr_odd : ∀ p, p < 400 → nI (4 * p) &&& 1 = 0 := by decide +kernel
theorem nI_4 {p : Nat} : (4 : Int32) * nI p = nI (4 * p) := (Int32.ofNat_mul 4 p).symm
/-- no pointer -/
def np (w : Int32) : Prop := w &&& 1 = 1 ∨ w = 2 ∨ w = 18
theorem odd_3 {w : Int32} (h : w &&& 1 = 1) : ¬ w &&& 3 = 0 ∧ ¬ w &&& 3 = 2 := by
  have h1 : w &&& 1 = (w &&& 3) &&& 1 := by
    rw [Int32.and_assoc]; rfl
  rw [h1] at h
  refine ⟨fun h0 => ?_, fun h0 => ?_⟩ <;> (rw [h0] at h; exact absurd h (by decide))
theorem np_3 {w : Int32} (h : np w) : ¬ w &&& 3 = 0 := by
  rcases h with h | rfl | rfl
  · exact (odd_3 h).1
  · decide
  · decide
/-- the words and blocks of a heap: no pointer, or to a block -/
def wv (bs : List hb_T) : aw_T → Prop
  | .inl w => np w
  | .inr p => ∃ b : hb_T, bk bs p = some b
def bv (bs : List hb_T) : Prop := ∀ b ∈ bs, b.1 < 16 ∧ b.2.length < 4 ∧ ∀ w ∈ b.2, wv bs w
theorem wv_app {bs : List hb_T} {b : hb_T} {w : aw_T} (h : wv bs w) : wv (bs ++ [b]) w := by
  cases w with
  | inl x => exact h
  | inr p => obtain ⟨b0, h0⟩ := h; exact ⟨b0, bk_app h0⟩
section HC
variable {f : Nat → Int32} {t : Nat} {bs : List hb_T}
/-- the class's heap -/
def hc (f : Nat → Int32) (t : Nat) (bs : List hb_T) : Prop := lay f (cw 0) 0 bs ∧ t = hsz bs ∧ bv bs ∧ t ≤ 200
theorem hc_isp {p : Nat} {b : hb_T} (h : hc f t bs) (hb : bk bs p = some b) : hp_isp (nI t) (nI (4 * p)) = true := by
  have h1 := (bk_lt hb).1
  have ht := h.2.1
  have h2 := h.2.2.2
  unfold hp_isp
  rw [ptr_and p (by omega), show (2 : Int32) &&& 31 = (2 : Int32) &&& 31 from rfl, ptr_shr p (by omega)]
  simp only [Bool.and_eq_true, decide_eq_true_eq]
  exact ⟨trivial, nI_pos (by omega), nI_ge (by omega) (by omega)⟩
theorem hc_np {w : Int32} (h : np w) : hp_isp (nI t) w = false := by
  unfold hp_isp
  have : decide (w &&& 3 = 0) = false := by simp only [decide_eq_false_iff_not]; exact np_3 h
  rw [this, Bool.false_and]
theorem hc_bk {p : Nat} {b : hb_T} (h : hc f t bs) (hb : bk bs p = some b) : hp_bk f (nI t) (nI (4 * p)) = nI b.1 ∧ hp_bw f (nI t) (nI (4 * p)) = nI b.2.length := by
  have h1 := (bk_lt hb).1
  have ht := h.2.1
  have h2 := h.2.2.2
  have hbv := h.2.2.1 b (bk_lt hb).2
  have hl := (lay_bk h.1 hb).1
  rw [Nat.zero_add] at hl
  unfold hp_bk hp_bw
  rw [if_pos (hc_isp h hb), if_pos (hc_isp h hb), ptr_shr p (by omega), nI_clamp (by omega), hl]
  exact ⟨hdr_and _ hbv.2.1 _ hbv.1, hdr_shr _ hbv.2.1 _ hbv.1⟩
theorem hc_bk_np {w : Int32} (h : np w) : hp_bk f (nI t) w = -1 ∧ hp_bw f (nI t) w = 0 := by
  unfold hp_bk hp_bw
  have := hc_np (t := t) h
  rw [this]
  exact ⟨if_neg (by decide), if_neg (by decide)⟩
theorem hc_wo {p k : Nat} {b : hb_T} (h : hc f t bs) (hb : bk bs p = some b) (hk : k < b.2.length) : hp_wo f (nI t) (nI (4 * p)) (nI (k + 1)) = cw 0 (b.2.getD k (.inl 1)) := by
  have h1 := (bk_lt hb).1
  have ht := h.2.1
  have h2 := h.2.2.2
  have hl := (lay_bk h.1 hb).2 k (b.2.getD k (.inl 1)) (by rw [List.getD_eq_getElem?_getD, List.getElem?_eq_getElem hk]; rfl)
  have hbw := (hc_bk h hb).2
  unfold hp_wo
  rw [hbw, ptr_shr p (by omega), nI_add]
  rw [if_pos ⟨hc_isp h hb, nI_nlt (b := 1) (by omega) (by omega), nI_le (by omega) (by omega), nI_ge (by omega) (by omega)⟩, nI_clamp (by omega)]
  rw [Nat.zero_add] at hl
  rw [show p + (k + 1) = p + 1 + k by omega]; exact hl
end HC
