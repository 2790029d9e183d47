/-! THE REFERENCE MARKS -/
section LV
variable {P : Nat → Prop} {bs : List hb_T} {s0 p0 : Nat} {S0 S : rm_S} {Q : rm_S → Prop}
def mk9 (s0 : Nat) (S : rm_S) (p : Nat) : Int32 := S.2 48 (p + s0)
/-- while it marks: p0 is the block whose words are being looked at -/
def LV (P : Nat → Prop) (bs : List hb_T) (s0 p0 : Nat) (S0 S : rm_S) : Prop := S.1 = S0.1 ∧ (∀ k, k ≠ 48 → S.2 k = S0.2 k) ∧ (∀ p, p < hsz bs → mk9 s0 S p = -1 ∨ ((mk9 s0 S p = 0 ∨ mk9 s0 S p = 1) ∧ P p ∧ ∃ b : hb_T, bk bs p = some b)) ∧ ∀ (p : Nat) (b : hb_T), p ≠ p0 → mk9 s0 S p = 1 → bk bs p = some b → ∀ q : Nat, .inr q ∈ b.2 → ¬ mk9 s0 S q = -1
/-- marks only grow; what is done is the same -/
def LE (bs : List hb_T) (s0 : Nat) (S S' : rm_S) : Prop := (∀ p, p < hsz bs → ¬ mk9 s0 S p = -1 → ¬ mk9 s0 S' p = -1) ∧ ∀ p, p < hsz bs → (mk9 s0 S' p = 1 ↔ mk9 s0 S p = 1)
theorem LE.rf : LE bs s0 S S := ⟨fun _ _ h => h, fun _ _ => Iff.rfl⟩
theorem LE.trans {S1 S2 : rm_S} (h : LE bs s0 S S1) (h2 : LE bs s0 S1 S2) : LE bs s0 S S2 := ⟨fun p hp h9 => h2.1 p hp (h.1 p hp h9), fun p hp => (h2.2 p hp).trans (h.2 p hp)⟩
def mkd (s0 : Nat) (S : rm_S) (x : aw_T) : Prop := ∀ p : Nat, x = .inr p → ¬ mk9 s0 S p = -1
theorem lv_reach {x : aw_T} (hb : bv bs) (hz : s0 + hsz bs ≤ 400) (h : LV P bs s0 p0 S0 S) (hx : wv bs x) (hp : pw P x) (hQ : ∀ S' : rm_S, LV P bs s0 p0 S0 S' → LE bs s0 S S' → mkd s0 S' x → Q S') : wp_reach S (cw s0 x) Q := by
  cases x with
  | inl w => exact ri_n hx ⟨fun _ => hQ S h LE.rf (fun p hp => by cases hp), fun h9 => absurd rfl h9⟩
  | inr p =>
    obtain ⟨b, hb9⟩ := hx
    have hlt := (bk_lt hb9).1
    have ec : cw s0 (.inr p) = nI (4 * (p + s0)) := rfl
    rw [ec]
    refine ri_p (by omega) ⟨fun h9 => absurd h9 (by decide), fun _ => ⟨rb_in (by omega), ?_⟩⟩
    rw [rb_at (p := p + s0) (by omega)]
    obtain ⟨h1, h2, h3, h4⟩ := h
    have hm := h3 p (by omega)
    refine ⟨fun h9 => hQ S ⟨h1, h2, h3, h4⟩ LE.rf (fun q hq => ?_), fun h9 => ⟨rb_in (by omega), ?_⟩⟩
    · have e : p = q := Sum.inr.inj hq
      subst e
      intro h8
      have h8 : S.2 48 (p + s0) = -1 := h8
      rw [h8] at h9; exact absurd h9 (by decide)
    · have hm1 : mk9 s0 S p = -1 := by
        rcases hm with hm | ⟨hm | hm, _⟩
        · exact hm
        · have hm : S.2 48 (p + s0) = 0 := hm
          rw [hm] at h9; exact absurd (by decide) h9
        · have hm : S.2 48 (p + s0) = 1 := hm
          rw [hm] at h9; exact absurd (by decide) h9
      have hs : ∀ q, mk9 s0 (rm_pa S 48 (p + s0) 0) q = if q = p then 0 else mk9 s0 S q := fun q => by
        show (rm_pa S 48 (p + s0) 0).2 48 (q + s0) = _
        rw [pa_s]
        by_cases e : q = p
        · rw [e, upd_s, if_pos rfl]
        · rw [upd_n (by omega), if_neg e]; rfl
      refine hQ _ ⟨h1, fun k hk => by rw [pa_n hk]; exact h2 k hk, fun q hq => ?_, fun q b' hq hq1 hb' q' hq' => ?_⟩ ⟨fun q hq h8 => ?_, fun q hq => ?_⟩ (fun q hq => ?_)
      · rw [hs q]
        by_cases e : q = p
        · rw [if_pos e, e]; exact Or.inr ⟨Or.inl rfl, hp p rfl, b, hb9⟩
        · rw [if_neg e]; exact h3 q hq
      · rw [hs q] at hq1
        rw [hs q']
        by_cases e : q = p
        · rw [if_pos e] at hq1; exact absurd hq1 (by decide)
        · rw [if_neg e] at hq1
          by_cases e2 : q' = p
          · rw [if_pos e2]; decide
          · rw [if_neg e2]; exact h4 q b' hq hq1 hb' q' hq'
      · rw [hs q]
        by_cases e : q = p
        · rw [if_pos e]; decide
        · rw [if_neg e]; exact h8
      · rw [hs q]
        by_cases e : q = p
        · rw [if_pos e, e, hm1]; exact ⟨fun h9 => absurd h9 (by decide), fun h9 => absurd h9 (by decide)⟩
        · rw [if_neg e]
      · have e : p = q := Sum.inr.inj hq
        subst e
        rw [hs p, if_pos rfl]; decide
theorem lv_rh (h : LV P bs s0 p0 S0 S) (hr : rh s0 S0 bs) : rh s0 S bs := ⟨by rw [h.2.1 44 (by omega)]; exact hr.1, hr.2⟩
/-- the words of a block -/
theorem lv_134 {p : Nat} {b : hb_T} {v1 v2 : Int32} {Q : Int32 → rm_S → Prop} {K : Int32 → rm_S → Prop} (hr : rh s0 S0 bs) (hb : bk bs p = some b) (hP : P p) (hc : clo bs P) : ∀ (m k : Nat) (S : rm_S), k + m = b.2.length → LV P bs s0 p S0 S → (∀ (j : Nat) (x : aw_T), j < k → b.2[j]? = some x → mkd s0 S x) → (∀ (S' : rm_S) (v : Int32), LV P bs s0 p S0 S' → LE bs s0 S S' → (∀ x ∈ b.2, mkd s0 S' x) → K v S') → wl_live_134 v1 v2 (nI (p + s0)) Q K (m + 1) (nI (k + 1)) S := by
  have hz := hr.2.2
  have hlt := (bk_lt hb).1
  have hbv := hr.2.1 b (bk_lt hb).2
  intro m
  induction m with
  | zero =>
    intro k S hk h hj hK
    have hl := (lay_bk (lv_rh h hr).1 hb).1
    refine ⟨nI_vp (by omega) (by omega), ?_⟩
    rw [nI_clamp (by omega), show p + s0 = s0 + p by omega, hl, hdr_shr _ hbv.2.1 _ hbv.1]
    refine ⟨fun _ => hK S _ h LE.rf (fun x hx => ?_), fun h9 => absurd (nI_lt (by omega) (by omega)) h9⟩
    obtain ⟨j, hj9⟩ := List.getElem?_of_mem hx
    exact hj j x (by have := (List.getElem?_eq_some_iff.mp hj9).1; omega) hj9
  | succ m ih =>
    intro k S hk h hj hK
    have hl := (lay_bk (lv_rh h hr).1 hb)
    have hkl : k < b.2.length := by omega
    have hx : b.2[k]? = some b.2[k] := List.getElem?_eq_getElem hkl
    refine ⟨nI_vp (by omega) (by omega), ?_⟩
    rw [nI_clamp (by omega), show p + s0 = s0 + p by omega, hl.1, hdr_shr _ hbv.2.1 _ hbv.1]
    refine ⟨fun h9 => absurd h9 (nI_nlt (by omega) (by omega)), fun _ => ?_⟩
    rw [nI_add]
    refine ⟨nI_vp (by omega) (by omega), ?_⟩
    rw [nI_clamp (by omega), show s0 + p + (k + 1) = s0 + p + 1 + k by omega, hl.2 k _ hx]
    refine lv_reach hr.2.1 hz h (hbv.2.2 _ (List.getElem_mem _)) (fun q hq => hc p b hP hb q (by rw [← hq]; exact List.getElem_mem _)) (fun S' g1 g2 g3 => ?_)
    rw [nI_1, show s0 + p = p + s0 by omega]
    refine ih (k + 1) S' (by omega) g1 (fun j x hj1 hj2 => ?_) (fun S2 v f1 f2 f3 => hK S2 v f1 (LE.trans g2 f2) f3)
    by_cases e : j = k
    · subst e
      rw [hx] at hj2
      have e9 : b.2[j] = x := Option.some.inj hj2
      rw [← e9]; exact g3
    · intro q hq
      subst hq
      have hm := hj j (.inr q) (by omega) hj2 q rfl
      have hwv : wv bs (.inr q) := hbv.2.2 _ (List.mem_of_getElem? hj2)
      obtain ⟨b', hb'⟩ := hwv
      exact g2.1 q (by have := (bk_lt hb').1; omega) hm
def dm9 (s0 : Nat) (S : rm_S) (p : Nat) : Option Nat := if mk9 s0 S p = 1 then some 0 else none
def LE1 (bs : List hb_T) (s0 : Nat) (S S' : rm_S) : Prop := ∀ p, p < hsz bs → ¬ mk9 s0 S p = -1 → ¬ mk9 s0 S' p = -1
def LF (P : Nat → Prop) (bs : List hb_T) (s0 : Nat) (S0 S : rm_S) (W : Nat) : Prop := LV P bs s0 (hsz bs) S0 S ∧ W + um bs 0 (dm9 s0 S) = hsz bs
theorem bk_in {α : Type} : ∀ {A : List (Nat × List α)} {o p : Nat} {b : Nat × List α}, bk A o = some b → o < p → p < o + 1 + b.2.length → bk A p = none := by
  intro A
  induction A with
  | nil => intro o p b h; cases h
  | cons x t ih =>
    intro o p b h h1 h2
    unfold bk at h ⊢
    rw [if_neg (by omega)]
    by_cases h0 : o = 0
    · rw [if_pos h0] at h
      have e : x = b := Option.some.inj h
      subst e
      rw [if_pos (by omega)]
    · rw [if_neg h0] at h
      by_cases h3 : o < 1 + x.2.length
      · rw [if_pos h3] at h; cases h
      · rw [if_neg h3] at h
        rw [if_neg (by omega)]
        exact ih h (by omega) (by omega)
/-- one pass: t the blocks from place o on -/
theorem lv_84 {Q : Int32 → rm_S → Prop} {K : Int32 → Int32 → Int32 → rm_S → Prop} {W0 : Nat} (hr : rh s0 S0 bs) (h45 : S0.1 45 = nI s0) (h46 : S0.1 46 = nI (hsz bs)) (hc : clo bs P) : ∀ (t : List hb_T) (o W c : Nat) (S : rm_S), o + hsz t = hsz bs → (∀ (p : Nat) (b : hb_T), bk t p = some b → bk bs (o + p) = some b) → LF P bs s0 S0 S W → c ≤ 1 → W0 ≤ W → (c = 1 → W0 < W) → (c = 0 → ∀ (p : Nat) (b : hb_T), p < o → bk bs p = some b → ¬ mk9 s0 S p = 0) → (∀ (S' : rm_S) (W' c' : Nat) (v : Int32), LF P bs s0 S0 S' W' → LE1 bs s0 S S' → c' ≤ 1 → W0 ≤ W' → (c' = 1 → W0 < W') → (c' = 0 → ∀ (p : Nat) (b : hb_T), bk bs p = some b → ¬ mk9 s0 S' p = 0) → K (nI W') (nI c') v S') → wl_live_84 Q K (t.length + 1) (nI W) (nI c) (nI (o + s0)) S := by
  have hz := hr.2.2
  intro t
  induction t with
  | nil =>
    intro o W c S ho ht h c1 w1 w2 hn hK
    have ho : o + 0 = hsz bs := ho
    have e : S.1 45 + S.1 46 = nI (s0 + hsz bs) := by rw [h.1.1, h45, h46, nI_add]
    unfold wl_live_84
    rw [e]
    exact ⟨fun _ => hK S W c _ h (fun _ _ h9 => h9) c1 w1 w2 (fun c0 p b hb => hn c0 p b (by have := (bk_lt hb).1; omega) hb), fun h9 => absurd (nI_le (by omega) (by omega)) h9⟩
  | cons b t ih =>
    intro o W c S ho ht h c1 w1 w2 hn hK
    have ho : o + (1 + b.2.length + hsz t) = hsz bs := ho
    have hb : bk bs o = some b := ht 0 b (by unfold bk; rw [if_pos rfl])
    have hbv := hr.2.1 b (bk_lt hb).2
    have ht' : ∀ (p : Nat) (b' : hb_T), bk t p = some b' → bk bs (o + (1 + b.2.length) + p) = some b' := fun p b' hb' => by
      have := ht (1 + b.2.length + p) b' (by unfold bk; rw [if_neg (by omega), if_neg (by omega), show 1 + b.2.length + p - (1 + b.2.length) = p by omega]; exact hb')
      rw [show o + (1 + b.2.length) + p = o + (1 + b.2.length + p) by omega]; exact this
    have e : S.1 45 + S.1 46 = nI (s0 + hsz bs) := by rw [h.1.1, h45, h46, nI_add]
    have hl := (lay_bk (lv_rh h.1 hr).1 hb).1
    have hsh : S.2 44 (o + s0) >>> ((4 : Int32) &&& 31) = nI b.2.length := by rw [show o + s0 = s0 + o by omega, hl, hdr_shr _ hbv.2.1 _ hbv.1]
    have ep : ∀ x : Nat, nI x + (1 + nI b.2.length) = nI (x + (1 + b.2.length)) := fun x => by rw [show (1 : Int32) + nI b.2.length = nI (1 + b.2.length) from nI_add 1 _, nI_add]
    show _ ∧ _
    rw [e, nI_clamp (by omega), hsh]
    refine ⟨fun h9 => absurd h9 (nI_ge (by omega) (by omega)), fun _ => ⟨nI_vp (by omega) (by omega), fun h0 => ⟨nI_vp (by omega) (by omega), nI_vp (by omega) (by omega), b.2.length + 1, ?_⟩, fun h0 => ⟨nI_vp (by omega) (by omega), ?_⟩⟩⟩
    · have h0 : mk9 s0 S o = 0 := h0
      obtain ⟨⟨l1, l2, l3, l4⟩, lW⟩ := h
      have hPo : P o := by
        rcases l3 o (by omega) with h9 | ⟨_, h9, _⟩
        · rw [h0] at h9; exact absurd h9 (by decide)
        · exact h9
      have hs : ∀ q, mk9 s0 (rm_pa S 48 (o + s0) 1) q = if q = o then 1 else mk9 s0 S q := fun q => by
        show (rm_pa S 48 (o + s0) 1).2 48 (q + s0) = _
        rw [pa_s]
        by_cases e9 : q = o
        · rw [e9, upd_s, if_pos rfl]
        · rw [upd_n (by omega), if_neg e9]; rfl
      have hLV : LV P bs s0 o S0 (rm_pa S 48 (o + s0) 1) := by
        refine ⟨l1, fun k hk => by rw [pa_n hk]; exact l2 k hk, fun q hq => ?_, fun q b' hq hq1 hb' q' hq' => ?_⟩
        · rw [hs q]
          by_cases e9 : q = o
          · rw [if_pos e9, e9]; exact Or.inr ⟨Or.inr rfl, hPo, b, hb⟩
          · rw [if_neg e9]; exact l3 q hq
        · rw [hs q, if_neg hq] at hq1
          rw [hs q']
          by_cases e2 : q' = o
          · rw [if_pos e2]; decide
          · rw [if_neg e2]; exact l4 q b' (by have := (bk_lt hb').1; omega) hq1 hb' q' hq'
      rw [ep W]
      refine lv_134 hr hb hPo hc b.2.length 0 _ (by omega) hLV (fun j x hj => by omega) (fun S2 v g1 g2 g3 => ⟨nI_vp (by omega) (by omega), ?_⟩)
      have hl2 := (lay_bk (lv_rh g1 hr).1 hb).1
      rw [show S2.2 44 (o + s0) >>> ((4 : Int32) &&& 31) = nI b.2.length by rw [show o + s0 = s0 + o by omega, hl2, hdr_shr _ hbv.2.1 _ hbv.1], ep (o + s0), show o + s0 + (1 + b.2.length) = o + (1 + b.2.length) + s0 by omega]
      have hW2 : W + (1 + b.2.length) + um bs 0 (dm9 s0 S2) = hsz bs := by
        have u1 := um_set (mv := dm9 s0 S) (p := o) (q := 0) (b := b) (by unfold dm9; rw [h0]; rfl) bs 0 (Nat.zero_le _) (by rw [Nat.sub_zero]; exact hb)
        have u2 : um bs 0 (dm9 s0 S2) = um bs 0 (fun j => if j = o then some 0 else dm9 s0 S j) := um_cong bs 0 (fun p b' hb' => by
          have hp := (bk_lt hb').1
          rw [Nat.zero_add]
          have := g2.2 p (by omega)
          rw [hs p] at this
          unfold dm9
          by_cases e9 : p = o
          · rw [if_pos e9] at this
            rw [if_pos (this.mpr rfl), if_pos e9]
          · rw [if_neg e9] at this
            rw [if_neg e9]
            by_cases e8 : mk9 s0 S p = 1
            · rw [if_pos e8, if_pos (this.mpr e8)]
            · rw [if_neg e8, if_neg (fun h9 => e8 (this.mp h9))])
        omega
      have hLF : LF P bs s0 S0 S2 (W + (1 + b.2.length)) := by
        refine ⟨⟨g1.1, g1.2.1, g1.2.2.1, fun q b' hq hq1 hb' q' hq' => ?_⟩, hW2⟩
        by_cases e9 : q = o
        · subst e9
          rw [hb] at hb'
          have eb : b = b' := Option.some.inj hb'
          subst eb
          exact g3 _ hq' q' rfl
        · exact g1.2.2.2 q b' e9 hq1 hb' q' hq'
      refine ih (o + (1 + b.2.length)) (W + (1 + b.2.length)) 1 S2 (by omega) ht' hLF (by omega) (by omega) (fun _ => by omega) (fun h9 => absurd h9 (by omega)) (fun S3 W3 c3 v3 f1 f2 f3 f4 f5 f6 => hK S3 W3 c3 v3 f1 (fun p hp h9 => f2 p hp (g2.1 p hp ?_)) f3 f4 f5 f6)
      rw [hs p]
      by_cases e9 : p = o
      · rw [if_pos e9]; decide
      · rw [if_neg e9]; exact h9
    · rw [ep (o + s0), show o + s0 + (1 + b.2.length) = o + (1 + b.2.length) + s0 by omega]
      refine ih (o + (1 + b.2.length)) W c S (by omega) ht' h c1 w1 w2 (fun c0 p b' hp hb' => ?_) hK
      by_cases e1 : p < o
      · exact hn c0 p b' e1 hb'
      · by_cases e2 : p = o
        · rw [e2]; exact h0
        · rw [bk_in hb (by omega) (by omega)] at hb'; cases hb'
/-- until nothing more is marked -/
theorem lv_73 {Q : Int32 → rm_S → Prop} {K : Int32 → Int32 → rm_S → Prop} (hr : rh s0 S0 bs) (h45 : S0.1 45 = nI s0) (h46 : S0.1 46 = nI (hsz bs)) (hc : clo bs P) : ∀ (n W : Nat) (S : rm_S), hsz bs + 1 ≤ W + n → LF P bs s0 S0 S W → (∀ (S' : rm_S) (W' : Nat) (v : Int32), LF P bs s0 S0 S' W' → LE1 bs s0 S S' → (∀ (p : Nat) (b : hb_T), bk bs p = some b → ¬ mk9 s0 S' p = 0) → K (nI W') v S') → wl_live_73 Q K (n + 1) (nI W) 1 S := by
  intro n
  induction n with
  | zero => intro W S hn h hK; have := h.2; omega
  | succ n ih =>
    intro W S hn h hK
    refine ⟨fun h9 => absurd h9 (by decide), fun _ => ⟨bs.length + 1, ?_⟩⟩
    have e45 : S.1 45 = nI (0 + s0) := by rw [h.1.1, h45, Nat.zero_add]
    rw [e45]
    refine lv_84 (W0 := W) hr h45 h46 hc bs 0 W 0 S (by omega) (fun p b hb => by rw [Nat.zero_add]; exact hb) h (by omega) (Nat.le_refl _) (fun h9 => absurd h9 (by omega)) (fun _ p b hp => by omega) (fun S' W' c' v f1 f2 f3 f4 f5 f6 => ?_)
    by_cases e : c' = 0
    · subst e
      exact ⟨fun _ => hK S' W' _ f1 f2 (f6 rfl), fun h9 => absurd rfl h9⟩
    · have e1 : c' = 1 := by omega
      subst e1
      exact ih W' S' (by have := f5 rfl; omega) f1 (fun S2 W2 v2 g1 g2 g3 => hK S2 W2 v2 g1 (fun p hp h9 => g2 p hp (f2 p hp h9)) g3)
theorem lv_45 {Q : Int32 → rm_S → Prop} {K : Int32 → rm_S → Prop} (hr : rh s0 S0 bs) : ∀ (l : List aw_T) (k : Nat) (S : rm_S), k + l.length ≤ 40 → S0.1 51 = nI (k + l.length) → (∀ x ∈ l, wv bs x ∧ pw P x) → (∀ (c : Nat) (x : aw_T), l[c]? = some x → S0.2 52 (k + c) = cw s0 x) → LV P bs s0 (hsz bs) S0 S → (∀ (S' : rm_S) (v : Int32), LV P bs s0 (hsz bs) S0 S' → LE bs s0 S S' → (∀ x ∈ l, mkd s0 S' x) → K v S') → wl_live_45 Q K (l.length + 1) (nI k) S := by
  intro l
  induction l with
  | nil =>
    intro k S hk hd hl hs h hK
    unfold wl_live_45
    rw [h.1, hd]
    exact ⟨fun _ => hK S _ h LE.rf (fun x hx => absurd hx List.not_mem_nil), fun h9 => absurd (nI_le (by simp) (by omega)) h9⟩
  | cons y t ih =>
    intro k S hk hd hl hs h hK
    have hk : k + (t.length + 1) ≤ 40 := hk
    have hd : S0.1 51 = nI (k + (t.length + 1)) := hd
    show _ ∧ _
    rw [h.1, hd, nI_clamp (by omega), h.2.1 52 (by omega), show S0.2 52 k = cw s0 y from hs 0 y rfl]
    refine ⟨fun h9 => absurd h9 (nI_ge (by omega) (by omega)), fun _ => ⟨nI_vp (by omega) (by omega), ?_⟩⟩
    obtain ⟨y1, y2⟩ := hl y List.mem_cons_self
    refine lv_reach hr.2.1 hr.2.2 h y1 y2 (fun S' g1 g2 g3 => ?_)
    rw [nI_1]
    refine ih (k + 1) S' (by omega) (by rw [hd, show k + 1 + t.length = k + (t.length + 1) by omega]) (fun x hx => hl x (List.mem_cons_of_mem _ hx)) (fun c x hc => by rw [show k + 1 + c = k + (c + 1) by omega]; exact hs (c + 1) x hc) g1 (fun S2 v f1 f2 f3 => hK S2 v f1 (LE.trans g2 f2) (fun x hx => ?_))
    rcases List.mem_cons.mp hx with rfl | hx
    · intro p hp
      subst hp
      obtain ⟨b', hb'⟩ := y1
      exact f2.1 p (by have := (bk_lt hb').1; omega) (g3 p rfl)
    · exact f3 x hx
theorem lv_7 {Q : Int32 → rm_S → Prop} {K : Int32 → rm_S → Prop} : ∀ (m k : Nat) (S : rm_S), k + m = 400 → (∀ (S' : rm_S) (v : Int32), S'.1 = S.1 → (∀ j, j ≠ 48 → S'.2 j = S.2 j) → (∀ i, S'.2 48 i = if k ≤ i ∧ i < 400 then -1 else S.2 48 i) → K v S') → wl_live_7 Q K (m + 1) (nI k) S := by
  intro m
  induction m with
  | zero =>
    intro k S hk hK
    have e : k = 400 := by omega
    subst e
    exact ⟨fun _ => hK S _ rfl (fun _ _ => rfl) (fun i => by rw [if_neg (by omega)]), fun h9 => absurd (by decide) h9⟩
  | succ m ih =>
    intro k S hk hK
    refine ⟨fun h9 => absurd h9 (nI_ge (b := 400) (by omega) (by omega)), fun _ => ⟨nI_vp (by omega) (by omega), ?_⟩⟩
    rw [nI_1, nI_clamp (by omega)]
    refine ih (k + 1) _ (by omega) (fun S' v h1 h2 h3 => hK S' v h1 (fun j hj => by rw [h2 j hj, pa_n hj]) (fun i => ?_))
    rw [h3 i, pa_s]
    by_cases c1 : k + 1 ≤ i ∧ i < 400
    · rw [if_pos c1, if_pos (by omega)]
    · rw [if_neg c1]
      by_cases c2 : i = k
      · rw [c2, upd_s, if_pos (by omega)]
      · rw [upd_n c2, if_neg (by omega)]
end LV
/-- live -/
theorem r_live {N s0 : Nat} {C : List fr_C} {A : am_T} {S : rm_S} {Q : Int32 → rm_S → Prop} (hN : N ≤ 200) (h : GA N A) (hk : RK N C A s0 S) (hQ : ∀ S' : rm_S, S'.1 = (rm_pf S 0 0).1 → (∀ k, k ≠ 48 → S'.2 k = S.2 k) → Q (nI (hsz (ag_all A.1 N A.2.1 A.2.2.1 A.2.2.2.1).1)) S') : wp_live S Q := by
  obtain ⟨k1, k2, k3, k4, k5, k6, k7, k8, k9, k10, k11, k12⟩ := hk
  obtain ⟨G1, G2, G3, G4⟩ := ga_gc h
  obtain ⟨h1, h2, h3, h4, h5, h6, _⟩ := h
  have hz := k11.2.2
  have hsum : hsz (ag_all A.1 N A.2.1 A.2.2.1 A.2.2.2.1).1 + um A.1 0 (ag_all A.1 N A.2.1 A.2.2.1 A.2.2.2.1).2 = hsz A.1 := by
    obtain ⟨og, o1, o2, o3, o4, _⟩ := G1
    exact o4
  have hPc : clo A.1 (fun p => ∃ q : Nat, (ag_all A.1 N A.2.1 A.2.2.1 A.2.2.2.1).2 p = some q) := fun p b hp hb q hq => by
    obtain ⟨q9, hq9⟩ := hp
    obtain ⟨b', z1, _, z3⟩ := gf_bk G1 hq9
    rw [hb] at z1
    have e : b = b' := Option.some.inj z1
    subst e
    exact z3 _ hq
  have pwm : ∀ x : aw_T, mvd (ag_all A.1 N A.2.1 A.2.2.1 A.2.2.2.1).2 x → pw (fun p => ∃ q : Nat, (ag_all A.1 N A.2.1 A.2.2.1 A.2.2.2.1).2 p = some q) x := fun x hx p hp => by
    subst hp; exact hx
  refine ⟨401, lv_7 400 0 _ rfl (fun S1 v1 a1 a2 a3 => ?_)⟩
  have hr1 : rh s0 S1 A.1 := ⟨by rw [a2 44 (by omega)]; exact k11.1, k11.2⟩
  have hm1 : ∀ p, p < hsz A.1 → mk9 s0 S1 p = -1 := fun p hp => by
    show S1.2 48 (p + s0) = -1
    rw [a3, if_pos (by omega)]
  have hLV1 : LV (fun p => ∃ q : Nat, (ag_all A.1 N A.2.1 A.2.2.1 A.2.2.2.1).2 p = some q) A.1 s0 (hsz A.1) S1 S1 := ⟨rfl, fun _ _ => rfl, fun p hp => Or.inl (hm1 p hp), fun p b _ hp hb => by
    rw [hm1 p (by have := (bk_lt hb).1; omega)] at hp; exact absurd hp (by decide)⟩
  have b49 : S1.1 49 = cw s0 A.2.1 := by rw [a1]; exact k6
  rw [b49]
  refine lv_reach h1 hz hLV1 (vv_wv h2) (pwm _ G2) (fun S2 g1 g2 g3 => ?_)
  have b50 : S2.1 50 = cw s0 A.2.2.1 := by rw [g1.1, a1]; exact k7
  rw [b50]
  refine lv_reach h1 hz g1 h3 (pwm _ G3) (fun S3 f1 f2 f3 => ⟨A.2.2.2.1.reverse.length + 1, ?_⟩)
  refine lv_45 hr1 A.2.2.2.1.reverse 0 S3 (by rw [List.length_reverse]; omega) (by rw [a1, List.length_reverse, Nat.zero_add]; exact k8) (fun x hx => ⟨h4 x (List.mem_reverse.mp hx), pwm x (G4 x (List.mem_reverse.mp hx))⟩) (fun c x hc => by rw [Nat.zero_add, a2 52 (by omega)]; exact k9 c x hc) f1 (fun S4 v4 e1 e2 e3 => ⟨hsz A.1 + 1 + 1, ?_⟩)
  have hd4 : ∀ p, p < hsz A.1 → ¬ mk9 s0 S4 p = 1 := fun p hp h9 => by
    have := (f2.2 p hp).mp ((e2.2 p hp).mp h9)
    have := (g2.2 p hp).mp this
    rw [hm1 p hp] at this; exact absurd this (by decide)
  have hu4 : um A.1 0 (dm9 s0 S4) = hsz A.1 := by
    rw [← um_all A.1 0]
    refine um_cong A.1 0 (fun p b hb => ?_)
    rw [Nat.zero_add]
    unfold dm9
    rw [if_neg (hd4 p (by have := (bk_lt hb).1; omega))]
  refine lv_73 hr1 (by rw [a1]; exact k2) (by rw [a1]; exact k4) hPc (hsz A.1 + 1) 0 S4 (by omega) ⟨e1, by omega⟩ (fun S5 W5 v5 c1 c2 c3 => ?_)
  have hmark : ∀ x : aw_T, wv A.1 x → mkd s0 S4 x → pw (fun p => p < hsz A.1 ∧ ¬ mk9 s0 S5 p = -1) x := fun x hx hm p hp => by
    subst hp
    obtain ⟨b, hb⟩ := hx
    have := (bk_lt hb).1
    exact ⟨by omega, c2 p (by omega) (hm p rfl)⟩
  have up1 : ∀ x : aw_T, wv A.1 x → mkd s0 S2 x → mkd s0 S4 x := fun x hx hm p hp => by
    subst hp
    obtain ⟨b, hb⟩ := hx
    have := (bk_lt hb).1
    exact e2.1 p (by omega) (f2.1 p (by omega) (hm p rfl))
  have up2' : ∀ x : aw_T, wv A.1 x → mkd s0 S3 x → mkd s0 S4 x := fun x hx hm p hp => by
    subst hp
    obtain ⟨b, hb⟩ := hx
    have := (bk_lt hb).1
    exact e2.1 p (by omega) (hm p rfl)
  have hcl5 : clo A.1 (fun p => p < hsz A.1 ∧ ¬ mk9 s0 S5 p = -1) := fun p b hp hb q hq => by
    have hb' := h1 b (bk_lt hb).2
    have hq' : wv A.1 (.inr q) := hb'.2.2 _ hq
    obtain ⟨b2, hb2⟩ := hq'
    refine ⟨by have := (bk_lt hb2).1; omega, ?_⟩
    refine c1.1.2.2.2 p b (by have := hp.1; omega) ?_ hb q hq
    rcases c1.1.2.2.1 p hp.1 with h9 | ⟨h9 | h9, _⟩
    · exact absurd h9 hp.2
    · exact absurd h9 (c3 p b hb)
    · exact h9
  have hmn := mn_all (N := N) hcl5 (hmark _ (vv_wv h2) (up1 _ (vv_wv h2) g3)) (hmark _ h3 (up2' _ h3 f3)) (fun x hx => hmark x (h4 x hx) (e3 x (List.mem_reverse.mpr hx)))
  have hum : um A.1 0 (dm9 s0 S5) = um A.1 0 (ag_all A.1 N A.2.1 A.2.2.1 A.2.2.2.1).2 := um_cong A.1 0 (fun p b hb => by
    have hp := (bk_lt hb).1
    rw [Nat.zero_add]
    unfold dm9
    rcases c1.1.2.2.1 p (by omega) with h9 | ⟨h9 | h9, ⟨q, hq⟩, _⟩
    · rw [if_neg (by rw [h9]; decide)]
      refine ⟨fun _ => ?_, fun _ => rfl⟩
      cases hv : (ag_all A.1 N A.2.1 A.2.2.1 A.2.2.2.1).2 p with
      | none => rfl
      | some q => exact absurd h9 (hmn p q hv).2
    · exact absurd h9 (c3 p b hb)
    · rw [if_pos h9, hq]; exact ⟨fun h8 => (by cases h8), fun h8 => (by cases h8)⟩)
  have hW := c1.2
  rw [hum] at hW
  have eW : W5 = hsz (ag_all A.1 N A.2.1 A.2.2.1 A.2.2.2.1).1 := by omega
  rw [eW]
  refine hQ S5 ?_ (fun k hk9 => ?_)
  · rw [c1.1.1, a1]
  · rw [c1.1.2.1 k hk9, a2 k hk9]; rfl
