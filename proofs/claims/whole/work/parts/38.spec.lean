/-! THE READING, as a function of the text: rd_ch tx L p is the character at p. A result is the place of an ill text, or the place behind and what was read. A code (fr_F): its number of instructions, and the instructions by the place of the first one. -/
abbrev fr_C : Type := Int32 × Int32 × Int32
abbrev fr_F : Type := Nat × (Nat → List fr_C)
abbrev ps_Q (α : Type) : Type := Nat ⊕ (Nat × α)
def fr_0 : fr_F := (0, fun _ => [])
def fr_1 (k a : Nat) : fr_F := (1, fun _ => [(nI k, nI a, 0)])
def fr_ap (A B : fr_F) : fr_F := (A.1 + B.1, fun b => A.2 b ++ B.2 (b + A.1))
def fr_op (k : Nat) (A B : fr_F) : fr_F := fr_ap (fr_ap (fr_ap A (fr_1 3 0)) B) (fr_1 k 0)
def fr_rp (m : Nat) : fr_F := (m, fun _ => List.replicate m ((13 : Int32), (0 : Int32), (0 : Int32)))
def fr_fun (F : fr_F) : fr_F := (F.1 + 3, fun b => (9, nI (b + 2), 0) :: (11, nI (b + 2 + F.1 + 1), 0) :: (F.2 (b + 2) ++ [(12, 0, 0)]))
def fr_let (B F : fr_F) : fr_F := (B.1 + F.1 + 2, fun b => B.2 b ++ (14, 0, 0) :: (F.2 (b + B.1 + 1) ++ [(15, 1, 0)]))
def fr_fix (B F : fr_F) : fr_F := (B.1 + F.1 + 5, fun b => (10, nI (b + 2), 0) :: (11, nI (b + 2 + B.1 + 1), 0) :: (B.2 (b + 2) ++ (12, 0, 0) :: (14, 0, 0) :: (F.2 (b + 2 + B.1 + 2) ++ [(15, 1, 0)])))
def fr_cb (f : Nat) (F : fr_F) : fr_F := if f = 0 then F else fr_ap (fr_ap (fr_1 20 f) F) (fr_1 15 f)
def cs_tab : List (Nat × fr_F) → Nat → List fr_C
  | [], _ => []
  | x :: cs, s => (19, nI x.1, nI s) :: cs_tab cs (s + x.2.1 + 1)
def cs_bod : List (Nat × fr_F) → Nat → Nat → List fr_C
  | [], _, _ => []
  | x :: cs, s, e => x.2.2 s ++ (11, nI e, 0) :: cs_bod cs (s + x.2.1 + 1) e
def cs_len : List (Nat × fr_F) → Nat
  | [] => 0
  | x :: cs => x.2.1 + 1 + cs_len cs
def fr_ma (F : fr_F) (cs : List (Nat × fr_F)) : fr_F := (F.1 + 1 + cs.length + cs_len cs, fun b => F.2 b ++ (18, nI cs.length, 0) :: (cs_tab cs (b + F.1 + 1 + cs.length) ++ cs_bod cs (b + F.1 + 1 + cs.length) (b + F.1 + 1 + cs.length + cs_len cs)))
def ps_bd {α β : Type} (r : ps_Q α) (k : Nat → α → ps_Q β) : ps_Q β := match r with
  | .inl q => .inl q
  | .inr x => k x.1 x.2
theorem ps_bd_l {α β : Type} {q : Nat} {k : Nat → α → ps_Q β} : ps_bd (.inl q) k = .inl q := rfl
theorem ps_bd_r {α β : Type} {p : Nat} {x : α} {k : Nat → α → ps_Q β} : ps_bd (.inr (p, x)) k = k p x := rfl
def ps_fo (sc : List Nat) (x : Nat) : Option Nat := rd_fo (fun j => sc.getD j 0) x sc.length 0
def ps_in (sc : List Nat) (i c : Nat) : Bool := match ps_fo sc c with
  | some k => decide (k < i)
  | none => false
section PS
variable (tx : Nat → Nat) (L : Nat)
def ps_xp {β : Type} (c p : Nat) (k : Nat → ps_Q β) : ps_Q β := if rd_ch tx L p = c then k (p + 1) else .inl p
def ps_dg : Nat → Nat → Nat → Nat × Nat
  | 0, p, v => (p, v)
  | r + 1, p, v => if 48 ≤ rd_ch tx L p ∧ rd_ch tx L p ≤ 57 then ps_dg r (p + 1) (10 * v + (rd_ch tx L p - 48)) else (p, v)
def ps_nu (p : Nat) : ps_Q fr_F := .inr ((ps_dg tx L 4 p 0).1, fr_1 1 (ps_dg tx L 4 p 0).2)
def ps_ac (sc : List Nat) (p : Nat) : ps_Q fr_F := match ps_fo sc (rd_ch tx L p) with
  | some k => .inr (p + 1, fr_1 2 k)
  | none => .inl p
def ps_nm : Nat → Nat → List Nat → Nat → ps_Q (List Nat)
  | 0, _, sc, p => .inr (p, sc)
  | r + 1, i, sc, p => if ps_in sc i (rd_ch tx L p) = true then .inl p else if 97 ≤ rd_ch tx L p ∧ rd_ch tx L p ≤ 122 then ps_nm r (i + 1) (sc ++ [rd_ch tx L p]) (p + 1) else .inl p
variable (E : List Nat → Nat → ps_Q fr_F)
def ps_fl (sc : List Nat) : Nat → Nat → Nat → fr_F → ps_Q fr_F
  | 0, _, p, F => .inr (p, F)
  | r + 1, i, p, F => ps_xp tx L (if i = 0 then 40 else 44) p (fun p1 => ps_bd (E sc p1) (fun p2 A => ps_fl sc r (i + 1) p2 (fr_ap (if i = 0 then F else fr_ap F (fr_1 3 0)) A)))
def ps_co (sc : List Nat) (p : Nat) : ps_Q fr_F := if (rd_ch tx L p - 65) % 4 = 0 then .inr (p + 1, fr_1 16 (rd_ch tx L p - 65)) else ps_bd (ps_fl tx L E sc ((rd_ch tx L p - 65) % 4) 0 (p + 1) fr_0) (fun p1 F => ps_xp tx L 41 p1 (fun p2 => .inr (p2, fr_ap F (fr_1 17 (rd_ch tx L p - 65)))))
def ps_at (sc : List Nat) (p : Nat) : ps_Q fr_F := if 48 ≤ rd_ch tx L p ∧ rd_ch tx L p ≤ 57 then ps_nu tx L p else if 97 ≤ rd_ch tx L p ∧ rd_ch tx L p ≤ 122 then ps_ac tx L sc p else if 65 ≤ rd_ch tx L p ∧ rd_ch tx L p ≤ 72 then ps_co tx L E sc p else ps_xp tx L 40 p (fun p1 => ps_bd (E sc p1) (fun p2 F => ps_xp tx L 41 p2 (fun p3 => .inr (p3, F))))
def ps_ag (sc : List Nat) : Nat → Nat → Nat → fr_F → ps_Q (Nat × fr_F)
  | 0, p, m, F => .inr (p, (m, F))
  | r + 1, p, m, F => if rd_atomb (rd_ch tx L p) = true then ps_bd (ps_at tx L E sc p) (fun p1 A => ps_ag sc r p1 (m + 1) (fr_ap (fr_ap A (fr_1 3 0)) F)) else .inr (p, (m, F))
def ps_ap (sc : List Nat) (p : Nat) : ps_Q fr_F := ps_bd (ps_at tx L E sc p) (fun p1 A => ps_bd (ps_ag tx L E sc L p1 0 fr_0) (fun p2 x => .inr (p2, fr_ap (fr_ap x.2 A) (fr_rp x.1))))
def ps_pl (sc : List Nat) : Nat → Nat → fr_F → ps_Q fr_F
  | 0, p, F => .inr (p, F)
  | r + 1, p, F => if rd_ch tx L p = 42 then ps_bd (ps_ap tx L E sc (p + 1)) (fun p1 A => ps_pl sc r p1 (fr_op 6 F A)) else .inr (p, F)
def ps_pr (sc : List Nat) (p : Nat) : ps_Q fr_F := ps_bd (ps_ap tx L E sc p) (fun p1 F => ps_pl tx L E sc L p1 F)
def ps_sl (sc : List Nat) : Nat → Nat → fr_F → ps_Q fr_F
  | 0, p, F => .inr (p, F)
  | r + 1, p, F => if rd_ch tx L p = 43 ∨ rd_ch tx L p = 45 then ps_bd (ps_pr tx L E sc (p + 1)) (fun p1 A => ps_sl sc r p1 (fr_op (if rd_ch tx L p = 43 then 4 else 5) F A)) else .inr (p, F)
def ps_su (sc : List Nat) (p : Nat) : ps_Q fr_F := ps_bd (ps_pr tx L E sc p) (fun p1 F => ps_sl tx L E sc L p1 F)
def ps_cm (sc : List Nat) (p : Nat) : ps_Q fr_F := ps_bd (ps_su tx L E sc p) (fun p1 F => if rd_ch tx L p1 = 60 ∨ rd_ch tx L p1 = 126 then ps_bd (ps_su tx L E sc (p1 + 1)) (fun p2 A => .inr (p2, fr_op (if rd_ch tx L p1 = 60 then 7 else 8) F A)) else .inr (p1, F))
def ps_cb (sc : List Nat) (tag p : Nat) : ps_Q fr_F := ps_bd (ps_nm tx L (tag % 4) 0 sc p) (fun p1 sc1 => ps_xp tx L 58 p1 (fun p2 => ps_bd (E sc1 p2) (fun p3 F => ps_xp tx L 59 p3 (fun p4 => .inr (p4, fr_cb (tag % 4) F)))))
def ps_cs (sc : List Nat) : Nat → Nat → Nat → Nat → List (Nat × fr_F) → ps_Q (List (Nat × fr_F))
  | 0, _, _, p, cs => .inr (p, cs)
  | r + 1, m, seen, p, cs => if m = 0 ∨ ¬ rd_ch tx L p = 125 then (if (65 ≤ rd_ch tx L p ∧ rd_ch tx L p ≤ 72) ∧ ¬ seen.testBit (rd_ch tx L p - 65) = true then ps_bd (ps_cb tx L E sc (rd_ch tx L p - 65) (p + 1)) (fun p1 B => ps_cs sc r (m + 1) (seen ||| 2 ^ (rd_ch tx L p - 65)) p1 (cs ++ [(rd_ch tx L p - 65, B)])) else .inl p) else .inr (p, cs)
def ps_ma (sc : List Nat) (p : Nat) : ps_Q fr_F := ps_bd (ps_cm tx L E sc (p + 1)) (fun p1 F => ps_xp tx L 123 p1 (fun p2 => ps_bd (ps_cs tx L E sc 8 0 0 p2 []) (fun p3 cs => ps_xp tx L 125 p3 (fun p4 => .inr (p4, fr_ma F cs)))))
def ps_bo (sc : List Nat) (p : Nat) : ps_Q fr_F := if rd_ch tx L p = 63 then ps_ma tx L E sc p else ps_cm tx L E sc p
def ps_h1 (sc : List Nat) (p : Nat) : ps_Q (List Nat × (fr_F → fr_F)) :=
  if rd_ch tx L p = 92 then (if 97 ≤ rd_ch tx L (p + 1) ∧ rd_ch tx L (p + 1) ≤ 122 then .inr (p + 2, (sc ++ [rd_ch tx L (p + 1)], fr_fun)) else .inl (p + 1))
  else if rd_ch tx L p = 64 then (if 97 ≤ rd_ch tx L (p + 1) ∧ rd_ch tx L (p + 1) ≤ 122 then (if rd_ch tx L (p + 2) = rd_ch tx L (p + 1) then .inl (p + 2) else if 97 ≤ rd_ch tx L (p + 2) ∧ rd_ch tx L (p + 2) ≤ 122 then ps_xp tx L 61 (p + 3) (fun p4 => ps_bd (E (sc ++ [rd_ch tx L (p + 1), rd_ch tx L (p + 2)]) p4) (fun p5 B => ps_xp tx L 59 p5 (fun p6 => .inr (p6, (sc ++ [rd_ch tx L (p + 1)], fr_fix B))))) else .inl (p + 2)) else .inl (p + 1))
  else ps_bd (E sc (p + 2)) (fun p3 B => ps_xp tx L 59 p3 (fun p4 => .inr (p4, (sc ++ [rd_ch tx L p], fr_let B))))
def ps_hs : Nat → List Nat → Nat → (fr_F → fr_F) → ps_Q fr_F
  | 0, sc, p, W => ps_bd (ps_bo tx L E sc p) (fun p1 F => .inr (p1, W F))
  | r + 1, sc, p, W => if rd_hd tx L p = true then ps_bd (ps_h1 tx L E sc p) (fun p1 x => ps_hs r x.1 p1 (fun F => W (x.2 F))) else ps_bd (ps_bo tx L E sc p) (fun p1 F => .inr (p1, W F))
def ps_e1 (sc : List Nat) (p : Nat) : ps_Q fr_F := ps_hs tx L E L sc p id
end PS
def ps_ex (tx : Nat → Nat) (L : Nat) : Nat → List Nat → Nat → ps_Q fr_F
  | 0 => fun _ p => .inl p
  | k + 1 => ps_e1 tx L (ps_ex tx L k)
/-- the whole text: the place of an ill one, or its code -/
def ps_tx (tx : Nat → Nat) (L : Nat) : Nat ⊕ fr_F := match ps_ex tx L 6 [] 0 with
  | .inl q => .inl q
  | .inr (p, F) => if p < L then .inl p else if 120 < F.1 + 1 then .inl p else .inr (fr_ap F (fr_1 0 0))
/-! places -/
def ps_ad (L p : Nat) {α : Type} : ps_Q α → Prop
  | .inl q => p ≤ q ∧ q ≤ L
  | .inr x => p < x.1 ∧ x.1 ≤ L
def ps_ae (L p : Nat) {α : Type} : ps_Q α → Prop
  | .inl q => p ≤ q ∧ q ≤ L
  | .inr x => p ≤ x.1 ∧ x.1 ≤ L
section PA
variable {tx : Nat → Nat} {L : Nat}
theorem rd_ch_in {p : Nat} (h : ¬ rd_ch tx L p = 0) : p < L := by
  unfold rd_ch at h; split at h
  · assumption
  · exact absurd rfl h
theorem ps_ae_of {p : Nat} {α : Type} {r : ps_Q α} (h : ps_ad L p r) : ps_ae L p r := by
  cases r with
  | inl q => exact h
  | inr x => exact ⟨Nat.le_of_lt h.1, h.2⟩
theorem ps_ad_bd {p : Nat} {α β : Type} {r : ps_Q α} {k : Nat → α → ps_Q β} (h : ps_ad L p r) (hk : ∀ p1 x, r = .inr (p1, x) → p1 ≤ L → ps_ae L p1 (k p1 x)) : ps_ad L p (ps_bd r k) := by
  cases r with
  | inl q => exact h
  | inr x =>
    obtain ⟨p1, x⟩ := x
    have h1 := hk p1 x rfl h.2
    rw [ps_bd_r]
    have h2 : p < p1 := h.1
    revert h1
    cases k p1 x with
    | inl q => intro h1; exact ⟨by have := h1.1; omega, h1.2⟩
    | inr y => intro h1; exact ⟨by have := h1.1; omega, h1.2⟩
theorem ps_ae_bd {p : Nat} {α β : Type} {r : ps_Q α} {k : Nat → α → ps_Q β} (h : ps_ae L p r) (hk : ∀ p1 x, r = .inr (p1, x) → p1 ≤ L → ps_ae L p1 (k p1 x)) : ps_ae L p (ps_bd r k) := by
  cases r with
  | inl q => exact h
  | inr x =>
    obtain ⟨p1, x⟩ := x
    have h1 := hk p1 x rfl h.2
    rw [ps_bd_r]
    have h2 : p ≤ p1 := h.1
    revert h1
    cases k p1 x with
    | inl q => intro h1; exact ⟨by have := h1.1; omega, h1.2⟩
    | inr y => intro h1; exact ⟨by have := h1.1; omega, h1.2⟩
theorem ps_ad_le {p p' : Nat} {α : Type} {r : ps_Q α} (hp : p ≤ p') (h : ps_ad L p' r) : ps_ad L p r := by
  cases r with
  | inl q => exact ⟨Nat.le_trans hp h.1, h.2⟩
  | inr x => exact ⟨Nat.lt_of_le_of_lt hp h.1, h.2⟩
theorem ps_ad_lt {p p' : Nat} {α : Type} {r : ps_Q α} (hp : p < p') (h : ps_ae L p' r) : ps_ad L p r := by
  cases r with
  | inl q => exact ⟨by have := h.1; omega, h.2⟩
  | inr x => exact ⟨by have := h.1; omega, h.2⟩
theorem ps_ad_xp {c p : Nat} {β : Type} {k : Nat → ps_Q β} (hc : ¬ c = 0) (hp : p ≤ L) (hk : p + 1 ≤ L → ps_ae L (p + 1) (k (p + 1))) : ps_ad L p (ps_xp tx L c p k) := by
  unfold ps_xp
  split
  · next h =>
    have := rd_ch_in (tx := tx) (L := L) (p := p) (by rw [h]; exact hc)
    exact ps_ad_lt (Nat.lt_succ_self p) (hk this)
  · exact ⟨Nat.le_refl _, hp⟩
theorem ps_ad_dg : ∀ (r p v : Nat), p ≤ L → p ≤ (ps_dg tx L r p v).1 ∧ (ps_dg tx L r p v).1 ≤ L := by
  intro r
  induction r with
  | zero => intro p v hp; exact ⟨Nat.le_refl _, hp⟩
  | succ r ih =>
    intro p v hp
    unfold ps_dg
    split
    · next h =>
      have := rd_ch_in (tx := tx) (L := L) (p := p) (by omega)
      have h2 := ih (p + 1) (10 * v + (rd_ch tx L p - 48)) (by omega)
      omega
    · exact ⟨Nat.le_refl _, hp⟩
theorem ps_ad_nu {p : Nat} (hp : p ≤ L) (h : 48 ≤ rd_ch tx L p ∧ rd_ch tx L p ≤ 57) : ps_ad L p (ps_nu tx L p) := by
  have h0 := rd_ch_in (tx := tx) (L := L) (p := p) (by omega)
  have h1 := ps_ad_dg (tx := tx) (L := L) 3 (p + 1) (10 * 0 + (rd_ch tx L p - 48)) (by omega)
  have h2 : ps_dg tx L 4 p 0 = ps_dg tx L 3 (p + 1) (10 * 0 + (rd_ch tx L p - 48)) := by rw [show (4 : Nat) = 3 + 1 from rfl]; unfold ps_dg; rw [if_pos h]; rfl
  unfold ps_nu
  rw [h2]
  exact ⟨by show p < _; omega, h1.2⟩
theorem ps_ad_ac {sc : List Nat} {p : Nat} (hp : p < L) : ps_ad L p (ps_ac tx L sc p) := by
  unfold ps_ac
  split
  · exact ⟨Nat.lt_succ_self p, hp⟩
  · exact ⟨Nat.le_refl _, Nat.le_of_lt hp⟩
theorem ps_ae_nm : ∀ (r i : Nat) (sc : List Nat) (p : Nat), p ≤ L → ps_ae L p (ps_nm tx L r i sc p) := by
  intro r
  induction r with
  | zero => intro i sc p hp; exact ⟨Nat.le_refl _, hp⟩
  | succ r ih =>
    intro i sc p hp
    unfold ps_nm
    split
    · exact ⟨Nat.le_refl _, hp⟩
    · split
      · next h =>
        have := rd_ch_in (tx := tx) (L := L) (p := p) (by omega)
        exact ps_ae_of (ps_ad_lt (Nat.lt_succ_self p) (ih (i + 1) _ (p + 1) this))
      · exact ⟨Nat.le_refl _, hp⟩
end PA
section PB
variable {tx : Nat → Nat} {L : Nat} {E : List Nat → Nat → ps_Q fr_F}
theorem ps_ae_fl (hE : ∀ sc p, p ≤ L → ps_ad L p (E sc p)) (sc : List Nat) : ∀ (r i p : Nat) (F : fr_F), p ≤ L → ps_ae L p (ps_fl tx L E sc r i p F) := by
  intro r
  induction r with
  | zero => intro i p F hp; exact ⟨Nat.le_refl _, hp⟩
  | succ r ih =>
    intro i p F hp
    unfold ps_fl
    refine ps_ae_of (ps_ad_xp (by split <;> omega) hp (fun h1 => ps_ae_of (ps_ad_bd (hE sc (p + 1) h1) (fun p1 x _ hp1 => ih _ _ _ hp1))))
theorem ps_ad_co (hE : ∀ sc p, p ≤ L → ps_ad L p (E sc p)) {sc : List Nat} {p : Nat} (hp : p < L) : ps_ad L p (ps_co tx L E sc p) := by
  unfold ps_co
  split
  · exact ⟨Nat.lt_succ_self p, hp⟩
  · refine ps_ad_lt (Nat.lt_succ_self p) (ps_ae_bd (ps_ae_fl hE sc _ _ _ _ hp) (fun p1 x _ hp1 => ps_ae_of (ps_ad_xp (by omega) hp1 (fun h2 => ⟨Nat.le_refl _, h2⟩))))
theorem ps_ad_at (hE : ∀ sc p, p ≤ L → ps_ad L p (E sc p)) {sc : List Nat} {p : Nat} (hp : p ≤ L) : ps_ad L p (ps_at tx L E sc p) := by
  unfold ps_at
  split
  · next h => exact ps_ad_nu hp h
  · split
    · exact ps_ad_ac (rd_ch_in (tx := tx) (by omega))
    · split
      · exact ps_ad_co hE (rd_ch_in (tx := tx) (by omega))
      · exact ps_ad_xp (by omega) hp (fun h1 => ps_ae_of (ps_ad_bd (hE sc (p + 1) h1) (fun p1 x _ hp1 => ps_ae_of (ps_ad_xp (by omega) hp1 (fun h2 => ⟨Nat.le_refl _, h2⟩)))))
theorem ps_ae_ag (hE : ∀ sc p, p ≤ L → ps_ad L p (E sc p)) (sc : List Nat) : ∀ (r p m : Nat) (F : fr_F), p ≤ L → ps_ae L p (ps_ag tx L E sc r p m F) := by
  intro r
  induction r with
  | zero => intro p m F hp; exact ⟨Nat.le_refl _, hp⟩
  | succ r ih =>
    intro p m F hp
    unfold ps_ag
    split
    · exact ps_ae_of (ps_ad_bd (ps_ad_at hE hp) (fun p1 x _ hp1 => ih _ _ _ hp1))
    · exact ⟨Nat.le_refl _, hp⟩
theorem ps_ad_ap (hE : ∀ sc p, p ≤ L → ps_ad L p (E sc p)) {sc : List Nat} {p : Nat} (hp : p ≤ L) : ps_ad L p (ps_ap tx L E sc p) :=
  ps_ad_bd (ps_ad_at hE hp) (fun p1 x _ hp1 => ps_ae_bd (ps_ae_ag hE sc _ _ _ _ hp1) (fun p2 y _ hp2 => ⟨Nat.le_refl _, hp2⟩))
theorem ps_ae_pl (hE : ∀ sc p, p ≤ L → ps_ad L p (E sc p)) (sc : List Nat) : ∀ (r p : Nat) (F : fr_F), p ≤ L → ps_ae L p (ps_pl tx L E sc r p F) := by
  intro r
  induction r with
  | zero => intro p F hp; exact ⟨Nat.le_refl _, hp⟩
  | succ r ih =>
    intro p F hp
    unfold ps_pl
    split
    · next h =>
      have := rd_ch_in (tx := tx) (L := L) (p := p) (by omega)
      exact ps_ae_of (ps_ad_le (Nat.le_succ p) (ps_ad_bd (ps_ad_ap hE this) (fun p1 x _ hp1 => ih _ _ hp1)))
    · exact ⟨Nat.le_refl _, hp⟩
theorem ps_ad_pr (hE : ∀ sc p, p ≤ L → ps_ad L p (E sc p)) {sc : List Nat} {p : Nat} (hp : p ≤ L) : ps_ad L p (ps_pr tx L E sc p) :=
  ps_ad_bd (ps_ad_ap hE hp) (fun p1 x _ hp1 => ps_ae_pl hE sc _ _ _ hp1)
theorem ps_ae_sl (hE : ∀ sc p, p ≤ L → ps_ad L p (E sc p)) (sc : List Nat) : ∀ (r p : Nat) (F : fr_F), p ≤ L → ps_ae L p (ps_sl tx L E sc r p F) := by
  intro r
  induction r with
  | zero => intro p F hp; exact ⟨Nat.le_refl _, hp⟩
  | succ r ih =>
    intro p F hp
    unfold ps_sl
    split
    · next h =>
      have := rd_ch_in (tx := tx) (L := L) (p := p) (by omega)
      exact ps_ae_of (ps_ad_le (Nat.le_succ p) (ps_ad_bd (ps_ad_pr hE this) (fun p1 x _ hp1 => ih _ _ hp1)))
    · exact ⟨Nat.le_refl _, hp⟩
theorem ps_ad_su (hE : ∀ sc p, p ≤ L → ps_ad L p (E sc p)) {sc : List Nat} {p : Nat} (hp : p ≤ L) : ps_ad L p (ps_su tx L E sc p) :=
  ps_ad_bd (ps_ad_pr hE hp) (fun p1 x _ hp1 => ps_ae_sl hE sc _ _ _ hp1)
theorem ps_ad_cm (hE : ∀ sc p, p ≤ L → ps_ad L p (E sc p)) {sc : List Nat} {p : Nat} (hp : p ≤ L) : ps_ad L p (ps_cm tx L E sc p) := by
  refine ps_ad_bd (ps_ad_su hE hp) (fun p1 x _ hp1 => ?_)
  split
  · next h =>
    have := rd_ch_in (tx := tx) (L := L) (p := p1) (by omega)
    exact ps_ae_of (ps_ad_le (Nat.le_succ p1) (ps_ad_bd (ps_ad_su hE this) (fun p2 y _ hp2 => ⟨Nat.le_refl _, hp2⟩)))
  · exact ⟨Nat.le_refl _, hp1⟩
theorem ps_ad_cb (hE : ∀ sc p, p ≤ L → ps_ad L p (E sc p)) {sc : List Nat} {tag p : Nat} (hp : p ≤ L) : ps_ae L p (ps_cb tx L E sc tag p) :=
  ps_ae_bd (ps_ae_nm _ _ _ _ hp) (fun p1 x _ hp1 => ps_ae_of (ps_ad_xp (by omega) hp1 (fun h2 => ps_ae_of (ps_ad_bd (hE _ _ h2) (fun p3 y _ hp3 => ps_ae_of (ps_ad_xp (by omega) hp3 (fun h4 => ⟨Nat.le_refl _, h4⟩)))))))
theorem ps_ae_cs (hE : ∀ sc p, p ≤ L → ps_ad L p (E sc p)) (sc : List Nat) : ∀ (r m seen p : Nat) (cs : List (Nat × fr_F)), p ≤ L → ps_ae L p (ps_cs tx L E sc r m seen p cs) := by
  intro r
  induction r with
  | zero => intro m seen p cs hp; exact ⟨Nat.le_refl _, hp⟩
  | succ r ih =>
    intro m seen p cs hp
    unfold ps_cs
    split
    · split
      · next h =>
        have := rd_ch_in (tx := tx) (L := L) (p := p) (by omega)
        exact ps_ae_of (ps_ad_lt (Nat.lt_succ_self p) (ps_ae_bd (ps_ad_cb hE this) (fun p1 x _ hp1 => ih _ _ _ _ hp1)))
      · exact ⟨Nat.le_refl _, hp⟩
    · exact ⟨Nat.le_refl _, hp⟩
theorem ps_ad_ma (hE : ∀ sc p, p ≤ L → ps_ad L p (E sc p)) {sc : List Nat} {p : Nat} (hp : p < L) : ps_ad L p (ps_ma tx L E sc p) :=
  ps_ad_le (Nat.le_succ p) (ps_ad_bd (ps_ad_cm hE hp) (fun p1 x _ hp1 => ps_ae_of (ps_ad_xp (by omega) hp1 (fun h2 => ps_ae_bd (ps_ae_cs hE sc _ _ _ _ _ h2) (fun p3 y _ hp3 => ps_ae_of (ps_ad_xp (by omega) hp3 (fun h4 => ⟨Nat.le_refl _, h4⟩)))))))
theorem ps_ad_bo (hE : ∀ sc p, p ≤ L → ps_ad L p (E sc p)) {sc : List Nat} {p : Nat} (hp : p ≤ L) : ps_ad L p (ps_bo tx L E sc p) := by
  unfold ps_bo
  split
  · next h => exact ps_ad_ma hE (rd_ch_in (tx := tx) (by omega))
  · exact ps_ad_cm hE hp
theorem ps_ad_h1 (hE : ∀ sc p, p ≤ L → ps_ad L p (E sc p)) {sc : List Nat} {p : Nat} (h : rd_hd tx L p = true) : ps_ad L p (ps_h1 tx L E sc p) := by
  unfold ps_h1
  split
  · next h1 =>
    have h0 := rd_ch_in (tx := tx) (L := L) (p := p) (by omega)
    split
    · have h2 := rd_ch_in (tx := tx) (L := L) (p := p + 1) (by omega)
      exact ⟨by show p < p + 2; omega, by show p + 2 ≤ L; omega⟩
    · exact ⟨by omega, by omega⟩
  · split
    · next h1 =>
      have h0 := rd_ch_in (tx := tx) (L := L) (p := p) (by omega)
      split
      · have h2 := rd_ch_in (tx := tx) (L := L) (p := p + 1) (by omega)
        split
        · exact ⟨by omega, by omega⟩
        · split
          · have h3 := rd_ch_in (tx := tx) (L := L) (p := p + 2) (by omega)
            refine ps_ad_le (p' := p + 3) (by omega) (ps_ad_xp (by omega) (by omega) (fun h4 => ps_ae_of (ps_ad_bd (hE _ _ h4) (fun p5 x _ hp5 => ps_ae_of (ps_ad_xp (by omega) hp5 (fun h6 => ⟨Nat.le_refl _, h6⟩))))))
          · exact ⟨by omega, by omega⟩
      · exact ⟨by omega, by omega⟩
    · next h1 h2 =>
      simp only [rd_hd, h1, h2, decide_false, Bool.false_or, Bool.and_eq_true, decide_eq_true_eq] at h
      have h3 := rd_ch_in (tx := tx) (L := L) (p := p + 1) (by omega)
      exact ps_ad_le (p' := p + 2) (by omega) (ps_ad_bd (hE _ _ h3) (fun p5 x _ hp5 => ps_ae_of (ps_ad_xp (by omega) hp5 (fun h6 => ⟨Nat.le_refl _, h6⟩))))
theorem ps_ad_hs (hE : ∀ sc p, p ≤ L → ps_ad L p (E sc p)) : ∀ (r : Nat) (sc : List Nat) (p : Nat) (W : fr_F → fr_F), p ≤ L → ps_ad L p (ps_hs tx L E r sc p W) := by
  intro r
  induction r with
  | zero => intro sc p W hp; exact ps_ad_bd (ps_ad_bo hE hp) (fun p1 x _ hp1 => ⟨Nat.le_refl _, hp1⟩)
  | succ r ih =>
    intro sc p W hp
    unfold ps_hs
    split
    · next h => exact ps_ad_bd (ps_ad_h1 hE h) (fun p1 x _ hp1 => ps_ae_of (ih _ _ _ hp1))
    · exact ps_ad_bd (ps_ad_bo hE hp) (fun p1 x _ hp1 => ⟨Nat.le_refl _, hp1⟩)
end PB
theorem ps_ad_ex {tx : Nat → Nat} {L : Nat} : ∀ (k : Nat) (sc : List Nat) (p : Nat), p ≤ L → ps_ad L p (ps_ex tx L k sc p) := by
  intro k
  induction k with
  | zero => intro sc p hp; exact ⟨Nat.le_refl _, hp⟩
  | succ k ih => intro sc p hp; exact ps_ad_hs ih L sc p id hp
