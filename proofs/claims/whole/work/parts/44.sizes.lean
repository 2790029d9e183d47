/-! HOW LONG A CODE CAN BE: at most four instructions a character -/
theorem ps_bd_i {α β : Type} {r : ps_Q α} {k : Nat → α → ps_Q β} {y : Nat × β} (h : ps_bd r k = .inr y) : ∃ (p1 : Nat) (x : α), r = .inr (p1, x) ∧ k p1 x = .inr y := by
  cases r with
  | inl q => cases h
  | inr x => exact ⟨x.1, x.2, rfl, h⟩
theorem ps_xp_i {tx : Nat → Nat} {L c p : Nat} {β : Type} {k : Nat → ps_Q β} {y : Nat × β} (h : ps_xp tx L c p k = .inr y) : rd_ch tx L p = c ∧ k (p + 1) = .inr y := by
  unfold ps_xp at h
  split at h
  · next e => exact ⟨e, h⟩
  · cases h
def ps_le (p : Nat) (R : ps_Q fr_F) : Prop := ∀ (p' : Nat) (F : fr_F), R = .inr (p', F) → F.1 + 2 + 4 * p ≤ 4 * p'
section SZ
variable {tx : Nat → Nat} {L : Nat} {E : List Nat → Nat → ps_Q fr_F}
theorem sz_fl (hE : ∀ sc p, p ≤ L → ps_le p (E sc p)) {sc : List Nat} : ∀ (r i p : Nat) (F : fr_F) (p' : Nat) (F' : fr_F), ps_fl tx L E sc r i p F = .inr (p', F') → F'.1 + 4 * p ≤ F.1 + 4 * p' := by
  intro r
  induction r with
  | zero => intro i p F p' F' h; cases h; omega
  | succ r ih =>
    intro i p F p' F' h
    simp only [ps_fl] at h
    obtain ⟨hch, h⟩ := ps_xp_i h
    have hpl : p < L := rd_ch_in (tx := tx) (by rw [hch]; split <;> omega)
    obtain ⟨p1, A, e, h⟩ := ps_bd_i h
    have h1 := ih _ _ _ _ _ h
    have h2 := hE sc _ hpl p1 A e
    by_cases hi : i = 0
    · rw [if_pos hi] at h1
      have : (fr_ap F A).1 = F.1 + A.1 := rfl
      omega
    · rw [if_neg hi] at h1
      have : (fr_ap (fr_ap F (fr_1 3 0)) A).1 = F.1 + 1 + A.1 := rfl
      omega
theorem sz_at (hE : ∀ sc p, p ≤ L → ps_le p (E sc p)) {sc : List Nat} {p : Nat} (hp : p ≤ L) : ps_le p (ps_at tx L E sc p) := by
  intro p' F h
  unfold ps_at at h
  split at h
  · next hd =>
    have := ps_ad_nu (tx := tx) hp hd
    rw [h] at this
    have h1 : p < p' := this.1
    cases h
    show 1 + 2 + 4 * p ≤ 4 * _
    omega
  · split at h
    · unfold ps_ac at h
      split at h
      · cases h; show 1 + 2 + 4 * p ≤ 4 * (p + 1); omega
      · cases h
    · split at h
      · unfold ps_co at h
        split at h
        · cases h; show 1 + 2 + 4 * p ≤ 4 * (p + 1); omega
        · obtain ⟨p1, A, e, h⟩ := ps_bd_i h
          obtain ⟨_, h⟩ := ps_xp_i h
          cases h
          have h1 := sz_fl hE _ _ _ _ _ _ e
          have : fr_0.1 = 0 := rfl
          show A.1 + 1 + 2 + 4 * p ≤ 4 * (p1 + 1)
          omega
      · obtain ⟨hch, h⟩ := ps_xp_i h
        have hpl : p < L := rd_ch_in (tx := tx) (by omega)
        obtain ⟨p1, A, e, h⟩ := ps_bd_i h
        obtain ⟨_, h⟩ := ps_xp_i h
        cases h
        have := hE sc _ hpl p1 _ e
        omega
theorem sz_ag (hE : ∀ sc p, p ≤ L → ps_le p (E sc p)) (hA : ∀ sc p, p ≤ L → ps_ad L p (E sc p)) {sc : List Nat} : ∀ (r p m : Nat) (F : fr_F) (p' : Nat) (x : Nat × fr_F), p ≤ L → ps_ag tx L E sc r p m F = .inr (p', x) → x.2.1 + x.1 + 4 * p ≤ F.1 + m + 4 * p' := by
  intro r
  induction r with
  | zero => intro p m F p' x _ h; cases h; show F.1 + m + 4 * p ≤ F.1 + m + 4 * p; omega
  | succ r ih =>
    intro p m F p' x hp h
    simp only [ps_ag] at h
    split at h
    · obtain ⟨p1, A, e, h⟩ := ps_bd_i h
      have hp1 : ps_ad L p (ps_at tx L E sc p) := ps_ad_at hA hp
      rw [e] at hp1
      have h1 := ih _ _ _ _ _ hp1.2 h
      have h2 := sz_at hE hp p1 A e
      have : (fr_ap (fr_ap A (fr_1 3 0)) F).1 = A.1 + 1 + F.1 := rfl
      omega
    · cases h; show F.1 + m + 4 * p ≤ F.1 + m + 4 * p; omega
theorem sz_ap (hE : ∀ sc p, p ≤ L → ps_le p (E sc p)) (hA : ∀ sc p, p ≤ L → ps_ad L p (E sc p)) {sc : List Nat} {p : Nat} (hp : p ≤ L) : ps_le p (ps_ap tx L E sc p) := by
  intro p' F h
  unfold ps_ap at h
  obtain ⟨p1, A, e, h⟩ := ps_bd_i h
  obtain ⟨p2, x, e2, h⟩ := ps_bd_i h
  have hp1 : ps_ad L p (ps_at tx L E sc p) := ps_ad_at hA hp
  rw [e] at hp1
  have h1 := sz_at hE hp p1 A e
  have h2 := sz_ag hE hA _ _ _ _ _ _ hp1.2 e2
  cases h
  have : fr_0.1 = 0 := rfl
  show x.2.1 + A.1 + x.1 + 2 + 4 * p ≤ 4 * _
  omega
theorem sz_pl (hE : ∀ sc p, p ≤ L → ps_le p (E sc p)) (hA : ∀ sc p, p ≤ L → ps_ad L p (E sc p)) {sc : List Nat} : ∀ (r p : Nat) (F : fr_F) (p' : Nat) (F' : fr_F), p ≤ L → ps_pl tx L E sc r p F = .inr (p', F') → F'.1 + 4 * p ≤ F.1 + 4 * p' := by
  intro r
  induction r with
  | zero => intro p F p' F' _ h; cases h; omega
  | succ r ih =>
    intro p F p' F' hp h
    simp only [ps_pl] at h
    split at h
    · next hc =>
      have hpl : p < L := rd_ch_in (tx := tx) (by omega)
      obtain ⟨p1, A, e, h⟩ := ps_bd_i h
      have hp1 : ps_ad L (p + 1) (ps_ap tx L E sc (p + 1)) := ps_ad_ap hA hpl
      rw [e] at hp1
      have h1 := ih _ _ _ _ hp1.2 h
      have h2 := sz_ap hE hA hpl p1 A e
      have : (fr_op 6 F A).1 = F.1 + 1 + A.1 + 1 := rfl
      omega
    · cases h; omega
theorem sz_pr (hE : ∀ sc p, p ≤ L → ps_le p (E sc p)) (hA : ∀ sc p, p ≤ L → ps_ad L p (E sc p)) {sc : List Nat} {p : Nat} (hp : p ≤ L) : ps_le p (ps_pr tx L E sc p) := by
  intro p' F h
  unfold ps_pr at h
  obtain ⟨p1, A, e, h⟩ := ps_bd_i h
  have hp1 : ps_ad L p (ps_ap tx L E sc p) := ps_ad_ap hA hp
  rw [e] at hp1
  have h1 := sz_ap hE hA hp p1 A e
  have h2 := sz_pl hE hA _ _ _ _ _ hp1.2 h
  omega
theorem sz_sl (hE : ∀ sc p, p ≤ L → ps_le p (E sc p)) (hA : ∀ sc p, p ≤ L → ps_ad L p (E sc p)) {sc : List Nat} : ∀ (r p : Nat) (F : fr_F) (p' : Nat) (F' : fr_F), p ≤ L → ps_sl tx L E sc r p F = .inr (p', F') → F'.1 + 4 * p ≤ F.1 + 4 * p' := by
  intro r
  induction r with
  | zero => intro p F p' F' _ h; cases h; omega
  | succ r ih =>
    intro p F p' F' hp h
    simp only [ps_sl] at h
    split at h
    · next hc =>
      have hpl : p < L := rd_ch_in (tx := tx) (by omega)
      obtain ⟨p1, A, e, h⟩ := ps_bd_i h
      have hp1 : ps_ad L (p + 1) (ps_pr tx L E sc (p + 1)) := ps_ad_pr hA hpl
      rw [e] at hp1
      have h1 := ih _ _ _ _ hp1.2 h
      have h2 := sz_pr hE hA hpl p1 A e
      have : ∀ c, (fr_op c F A).1 = F.1 + 1 + A.1 + 1 := fun _ => rfl
      rw [this] at h1
      omega
    · cases h; omega
theorem sz_su (hE : ∀ sc p, p ≤ L → ps_le p (E sc p)) (hA : ∀ sc p, p ≤ L → ps_ad L p (E sc p)) {sc : List Nat} {p : Nat} (hp : p ≤ L) : ps_le p (ps_su tx L E sc p) := by
  intro p' F h
  unfold ps_su at h
  obtain ⟨p1, A, e, h⟩ := ps_bd_i h
  have hp1 : ps_ad L p (ps_pr tx L E sc p) := ps_ad_pr hA hp
  rw [e] at hp1
  have h1 := sz_pr hE hA hp p1 A e
  have h2 := sz_sl hE hA _ _ _ _ _ hp1.2 h
  omega
theorem sz_cm (hE : ∀ sc p, p ≤ L → ps_le p (E sc p)) (hA : ∀ sc p, p ≤ L → ps_ad L p (E sc p)) {sc : List Nat} {p : Nat} (hp : p ≤ L) : ps_le p (ps_cm tx L E sc p) := by
  intro p' F h
  unfold ps_cm at h
  obtain ⟨p1, A, e, h⟩ := ps_bd_i h
  have h1 := sz_su hE hA hp p1 A e
  split at h
  · next hc =>
    have hpl : p1 < L := rd_ch_in (tx := tx) (by omega)
    obtain ⟨p2, B, e2, h⟩ := ps_bd_i h
    have h2 := sz_su hE hA hpl p2 B e2
    cases h
    show A.1 + 1 + B.1 + 1 + 2 + 4 * p ≤ 4 * _
    omega
  · cases h; exact h1
theorem sz_cb (hE : ∀ sc p, p ≤ L → ps_le p (E sc p)) {sc : List Nat} {tag p : Nat} (hp : p ≤ L) {p' : Nat} {F : fr_F} (h : ps_cb tx L E sc tag p = .inr (p', F)) : F.1 + 8 + 4 * p ≤ 4 * p' := by
  unfold ps_cb at h
  obtain ⟨p1, sc1, e, h⟩ := ps_bd_i h
  obtain ⟨hch, h⟩ := ps_xp_i h
  have hpl : p1 < L := rd_ch_in (tx := tx) (by omega)
  obtain ⟨p3, B, e3, h⟩ := ps_bd_i h
  obtain ⟨_, h⟩ := ps_xp_i h
  have h0 := ps_ae_nm (tx := tx) (L := L) (tag % 4) 0 sc p hp
  rw [e] at h0
  have h9 : p ≤ p1 := h0.1
  have h2 := hE _ _ hpl p3 B e3
  cases h
  have h3 : (fr_cb (tag % 4) B).1 ≤ B.1 + 2 := by
    unfold fr_cb
    split
    · omega
    · show 1 + B.1 + 1 ≤ B.1 + 2; omega
  omega
theorem sz_cs (hE : ∀ sc p, p ≤ L → ps_le p (E sc p)) (hA : ∀ sc p, p ≤ L → ps_ad L p (E sc p)) {sc : List Nat} : ∀ (r m seen p : Nat) (cs : List (Nat × fr_F)) (p' : Nat) (cs' : List (Nat × fr_F)), p ≤ L → ps_cs tx L E sc r m seen p cs = .inr (p', cs') → cs'.length + cs_len cs' + 4 * p ≤ cs.length + cs_len cs + 4 * p' := by
  intro r
  induction r with
  | zero => intro m seen p cs p' cs' _ h; cases h; omega
  | succ r ih =>
    intro m seen p cs p' cs' hp h
    simp only [ps_cs] at h
    split at h
    · split at h
      · next hc =>
        have hpl : p < L := rd_ch_in (tx := tx) (by omega)
        obtain ⟨p1, B, e, h⟩ := ps_bd_i h
        have hp1 := ps_ad_cbd (tx := tx) hA (sc := sc) (tag := rd_ch tx L p - 65) hpl
        rw [e] at hp1
        have h1 := ih _ _ _ _ _ _ hp1.2 h
        have h2 := sz_cb hE hpl e
        rw [cs_len_app, List.length_append] at h1
        simp only [List.length_cons, List.length_nil] at h1
        omega
      · cases h
    · cases h; omega
theorem sz_bo (hE : ∀ sc p, p ≤ L → ps_le p (E sc p)) (hA : ∀ sc p, p ≤ L → ps_ad L p (E sc p)) {sc : List Nat} {p : Nat} (hp : p ≤ L) : ps_le p (ps_bo tx L E sc p) := by
  intro p' F h
  unfold ps_bo at h
  split at h
  · next hc =>
    have hpl : p < L := rd_ch_in (tx := tx) (by omega)
    unfold ps_ma at h
    obtain ⟨p1, A, e, h⟩ := ps_bd_i h
    obtain ⟨hch, h⟩ := ps_xp_i h
    obtain ⟨p3, cs, e3, h⟩ := ps_bd_i h
    obtain ⟨_, h⟩ := ps_xp_i h
    have h1 := sz_cm hE hA hpl p1 A e
    have hp1 : p1 < L := rd_ch_in (tx := tx) (by omega)
    have h2 := sz_cs hE hA _ _ _ _ _ _ _ hp1 e3
    have h3 : cs_len ([] : List (Nat × fr_F)) = 0 := rfl
    simp only [List.length_nil] at h2
    cases h
    show A.1 + 1 + cs.length + cs_len cs + 2 + 4 * p ≤ 4 * (p3 + 1)
    omega
  · exact sz_cm hE hA hp p' F h
theorem sz_h1 (hE : ∀ sc p, p ≤ L → ps_le p (E sc p)) {sc : List Nat} {p p' : Nat} {x : List Nat × (fr_F → fr_F)} (hh : rd_hd tx L p = true) (h : ps_h1 tx L E sc p = .inr (p', x)) : ∀ F : fr_F, (x.2 F).1 + 4 * p ≤ F.1 + 4 * p' := by
  intro F
  unfold ps_h1 at h
  split at h
  · split at h
    · cases h; show F.1 + 3 + 4 * p ≤ F.1 + 4 * (p + 2); omega
    · cases h
  · split at h
    · split at h
      · split at h
        · cases h
        · split at h
          · obtain ⟨hch, h⟩ := ps_xp_i h
            have hpl : p + 3 < L := rd_ch_in (tx := tx) (by omega)
            obtain ⟨p1, A, e, h⟩ := ps_bd_i h
            obtain ⟨_, h⟩ := ps_xp_i h
            have h2 := hE _ _ hpl p1 A e
            cases h
            show A.1 + F.1 + 5 + 4 * p ≤ F.1 + 4 * (p1 + 1)
            omega
          · cases h
      · cases h
    · next n1 n2 =>
      have hq : rd_ch tx L (p + 1) = 61 := by
        unfold rd_hd at hh
        simp only [Bool.or_eq_true, Bool.and_eq_true, decide_eq_true_eq] at hh
        rcases hh with h9 | h9 | h9
        · exact absurd h9 n1
        · exact absurd h9 n2
        · exact h9.2
      have hpl : p + 1 < L := rd_ch_in (tx := tx) (by omega)
      obtain ⟨p1, A, e, h⟩ := ps_bd_i h
      obtain ⟨_, h⟩ := ps_xp_i h
      have h2 := hE _ _ hpl p1 A e
      cases h
      show A.1 + F.1 + 2 + 4 * p ≤ F.1 + 4 * (p1 + 1)
      omega
theorem sz_hs (hE : ∀ sc p, p ≤ L → ps_le p (E sc p)) (hA : ∀ sc p, p ≤ L → ps_ad L p (E sc p)) {p0 : Nat} : ∀ (r : Nat) (sc : List Nat) (p : Nat) (W : fr_F → fr_F), p ≤ L → (∀ F : fr_F, (W F).1 + 4 * p0 ≤ F.1 + 4 * p) → ps_le p0 (ps_hs tx L E r sc p W) := by
  intro r
  have last : ∀ (sc : List Nat) (p : Nat) (W : fr_F → fr_F), p ≤ L → (∀ F : fr_F, (W F).1 + 4 * p0 ≤ F.1 + 4 * p) → ps_le p0 (ps_bd (ps_bo tx L E sc p) (fun p1 F => .inr (p1, W F))) := by
    intro sc p W hp hW p' F h
    obtain ⟨p1, A, e, h⟩ := ps_bd_i h
    have h1 := sz_bo hE hA hp p1 A e
    have h2 := hW A
    cases h
    omega
  induction r with
  | zero => intro sc p W hp hW; exact last sc p W hp hW
  | succ r ih =>
    intro sc p W hp hW
    simp only [ps_hs]
    split
    · next hh =>
      intro p' F h
      obtain ⟨p1, x, e, h⟩ := ps_bd_i h
      have hp1 := ps_ad_h1 (sc := sc) hA hh
      rw [e] at hp1
      have h1 := sz_h1 hE hh e
      exact ih x.1 p1 _ hp1.2 (fun F => by have := hW (x.2 F); have := h1 F; omega) p' F h
    · exact last sc p W hp hW
end SZ
theorem sz_ex {tx : Nat → Nat} {L : Nat} : ∀ (m : Nat) (sc : List Nat) (p : Nat), p ≤ L → ps_le p (ps_ex tx L m sc p) := by
  intro m
  induction m with
  | zero => intro sc p _ p' F h; cases h
  | succ m ih =>
    intro sc p hp
    exact sz_hs ih (fun sc p hp => ps_ad_ex m sc p hp) L sc p id hp (fun F => Nat.le_refl _)
