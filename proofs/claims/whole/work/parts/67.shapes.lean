/-! EVERY CODE THAT IS READ HAS ITS SHAPE -/
section TY
variable {tx : Nat → Nat} {L K : Nat} {E : List Nat → Nat → ps_Q fr_F}
theorem dg_lt : ∀ (r i p v : Nat), i + r = 4 → v < 10 ^ i → (ps_dg tx L r p v).2 < 10000 := by
  intro r
  induction r with
  | zero =>
    intro i p v hi hv
    have e : i = 4 := by omega
    subst e; exact hv
  | succ r ih =>
    intro i p v hi hv
    simp only [ps_dg]
    split
    · next h =>
      refine ih (i + 1) _ _ (by omega) ?_
      rw [Nat.pow_succ]
      have := h.1
      have := h.2
      omega
    · have : 10 ^ i ≤ 10 ^ 4 := Nat.pow_le_pow_right (by omega) (by omega)
      exact Nat.lt_of_lt_of_le hv this
def tyE (L K : Nat) (E : List Nat → Nat → ps_Q fr_F) : Prop := K ≤ 1000 ∧ ∀ (sc : List Nat) (p : Nat), p ≤ L → sc.length ≤ K → ∀ (p' : Nat) (F : fr_F), E sc p = .inr (p', F) → fr_ty F sc.length
theorem ty_fl (hE : tyE L K E) {sc : List Nat} (hs : sc.length + 3 ≤ K) : ∀ (r i p : Nat) (F : fr_F) (p' : Nat) (F' : fr_F), (0 < i → ∀ fn k, bt false F (fn, sc.length, k) (fn, sc.length, k + (i - 1))) → (i = 0 → F = fr_0) → ps_fl tx L E sc r i p F = .inr (p', F') → (0 < i + r → ∀ fn k, bt false F' (fn, sc.length, k) (fn, sc.length, k + (i + r - 1))) := by
  intro r
  induction r with
  | zero => intro i p F p' F' h1 h2 h h0; cases h; exact h1 h0
  | succ r ih =>
    intro i p F p' F' h1 h2 h h0
    simp only [ps_fl] at h
    obtain ⟨hch, h⟩ := ps_xp_i h
    have hpl : p < L := rd_ch_in (tx := tx) (by rw [hch]; split <;> omega)
    obtain ⟨p1, A, e, h⟩ := ps_bd_i h
    have hA := hE.2 sc _ hpl (by omega) p1 A e
    have := ih (i + 1) p1 _ p' F' (fun _ fn k => ?_) (fun h9 => by omega) h (by omega)
    · rw [show i + 1 + r = i + (r + 1) by omega] at this; exact this
    · by_cases hi : i = 0
      · rw [if_pos hi, h2 hi, fr_0_ap, hi]; exact hA fn k
      · rw [if_neg hi]
        have b1 := bt_ap (h1 (by omega) fn k) (bt_push (k := k + (i - 1)))
        rw [show k + (i - 1) + 1 = k + i by omega] at b1
        have b2 := bt_ap b1 (hA fn (k + i))
        rw [show i + 1 - 1 = i by omega]; exact b2
theorem ty_at (hE : tyE L K E) {sc : List Nat} (hs : sc.length + 3 ≤ K) {p : Nat} (hp : p ≤ L) {p' : Nat} {F : fr_F} (h : ps_at tx L E sc p = .inr (p', F)) : fr_ty F sc.length := by
  unfold ps_at at h
  split at h
  · cases h
    exact fun fn k => bt_num (dg_lt 4 0 p 0 (by omega) (by decide))
  · split at h
    · unfold ps_ac at h
      split at h
      · next j hj => cases h; exact fun fn k => bt_acc (ps_fo_lt hj) (by have h9 := ps_fo_lt hj; have h8 := hE.1; omega)
      · cases h
    · split at h
      · next hk =>
        have htag : rd_ch tx L p - 65 < 8 := by omega
        unfold ps_co at h
        split at h
        · next h0 => cases h; exact fun fn k => bt_tag htag h0
        · next h0 =>
          obtain ⟨p1, A, e, h⟩ := ps_bd_i h
          obtain ⟨_, h⟩ := ps_xp_i h
          cases h
          intro fn k
          have b1 := ty_fl hE hs _ 0 _ fr_0 _ _ (fun h9 => by omega) (fun _ => rfl) e (by omega) fn k
          rw [Nat.zero_add] at b1
          exact bt_ap b1 (bt_make htag (by omega) (by omega))
      · obtain ⟨hch, h⟩ := ps_xp_i h
        have hpl : p < L := rd_ch_in (tx := tx) (by omega)
        obtain ⟨p1, A, e, h⟩ := ps_bd_i h
        obtain ⟨_, h⟩ := ps_xp_i h
        cases h
        exact hE.2 sc _ hpl (by omega) p1 _ e
theorem ty_ag (hE : tyE L K E) (hA : ∀ sc p, p ≤ L → ps_ad L p (E sc p)) {sc : List Nat} (hs : sc.length + 3 ≤ K) : ∀ (r p m : Nat) (F : fr_F) (p' : Nat) (x : Nat × fr_F), p ≤ L → (0 < m → ∀ fn k, bt false F (fn, sc.length, k) (fn, sc.length, k + m)) → (m = 0 → F = fr_0) → ps_ag tx L E sc r p m F = .inr (p', x) → (0 < x.1 → ∀ fn k, bt false x.2 (fn, sc.length, k) (fn, sc.length, k + x.1)) ∧ (x.1 = 0 → x.2 = fr_0) := by
  intro r
  induction r with
  | zero => intro p m F p' x _ h1 h2 h; cases h; exact ⟨h1, h2⟩
  | succ r ih =>
    intro p m F p' x hp h1 h2 h
    simp only [ps_ag] at h
    split at h
    · obtain ⟨p1, A, e, h⟩ := ps_bd_i h
      have hp1 : ps_ad L p (ps_at tx L E sc p) := ps_ad_at hA hp
      rw [e] at hp1
      have hAt := ty_at hE hs hp e
      refine ih p1 (m + 1) _ p' x hp1.2 (fun _ fn k => ?_) (fun h9 => by omega) h
      have b1 := bt_ap (hAt fn k) (bt_push (k := k))
      by_cases hm : m = 0
      · rw [h2 hm, fr_ap_0, hm]; exact b1
      · have b2 := bt_ap b1 (h1 (by omega) fn (k + 1))
        rw [show k + 1 + m = k + (m + 1) by omega] at b2; exact b2
    · cases h; exact ⟨h1, h2⟩
theorem ty_ap (hE : tyE L K E) (hA : ∀ sc p, p ≤ L → ps_ad L p (E sc p)) {sc : List Nat} (hs : sc.length + 3 ≤ K) {p : Nat} (hp : p ≤ L) {p' : Nat} {F : fr_F} (h : ps_ap tx L E sc p = .inr (p', F)) : fr_ty F sc.length := by
  unfold ps_ap at h
  obtain ⟨p1, A, e, h⟩ := ps_bd_i h
  obtain ⟨p2, x, e2, h⟩ := ps_bd_i h
  have hp1 : ps_ad L p (ps_at tx L E sc p) := ps_ad_at hA hp
  rw [e] at hp1
  have h1 := ty_at hE hs hp e
  obtain ⟨a1, a2⟩ := ty_ag hE hA hs _ p1 0 fr_0 p2 x hp1.2 (fun h9 => by omega) (fun _ => rfl) e2
  cases h
  intro fn k
  by_cases hm : x.1 = 0
  · rw [a2 hm, hm, fr_0_ap]
    have : fr_ap A (fr_rp 0) = A := fr_ap_0
    rw [this]; exact h1 fn k
  · exact bt_ap (bt_ap (a1 (by omega) fn k) (h1 fn (k + x.1))) (bt_rp x.1 (by omega))
theorem ty_pl (hE : tyE L K E) (hA : ∀ sc p, p ≤ L → ps_ad L p (E sc p)) {sc : List Nat} (hs : sc.length + 3 ≤ K) : ∀ (r p : Nat) (F : fr_F) (p' : Nat) (F' : fr_F), p ≤ L → fr_ty F sc.length → ps_pl tx L E sc r p F = .inr (p', F') → fr_ty F' sc.length := by
  intro r
  induction r with
  | zero => intro p F p' F' _ hF h; cases h; exact hF
  | succ r ih =>
    intro p F p' F' hp hF h
    simp only [ps_pl] at h
    split at h
    · next hc =>
      have hpl : p < L := rd_ch_in (tx := tx) (by omega)
      obtain ⟨p1, A, e, h⟩ := ps_bd_i h
      have hp1 : ps_ad L (p + 1) (ps_ap tx L E sc (p + 1)) := ps_ad_ap hA hpl
      rw [e] at hp1
      exact ih p1 _ p' F' hp1.2 (ty_op hF (ty_ap hE hA hs hpl e) (by omega) (by omega)) h
    · cases h; exact hF
theorem ty_pr (hE : tyE L K E) (hA : ∀ sc p, p ≤ L → ps_ad L p (E sc p)) {sc : List Nat} (hs : sc.length + 3 ≤ K) {p : Nat} (hp : p ≤ L) {p' : Nat} {F : fr_F} (h : ps_pr tx L E sc p = .inr (p', F)) : fr_ty F sc.length := by
  unfold ps_pr at h
  obtain ⟨p1, A, e, h⟩ := ps_bd_i h
  have hp1 : ps_ad L p (ps_ap tx L E sc p) := ps_ad_ap hA hp
  rw [e] at hp1
  exact ty_pl hE hA hs _ p1 A p' F hp1.2 (ty_ap hE hA hs hp e) h
theorem ty_sl (hE : tyE L K E) (hA : ∀ sc p, p ≤ L → ps_ad L p (E sc p)) {sc : List Nat} (hs : sc.length + 3 ≤ K) : ∀ (r p : Nat) (F : fr_F) (p' : Nat) (F' : fr_F), p ≤ L → fr_ty F sc.length → ps_sl tx L E sc r p F = .inr (p', F') → fr_ty F' sc.length := by
  intro r
  induction r with
  | zero => intro p F p' F' _ hF h; cases h; exact hF
  | succ r ih =>
    intro p F p' F' hp hF h
    simp only [ps_sl] at h
    split at h
    · next hc =>
      have hpl : p < L := rd_ch_in (tx := tx) (by omega)
      obtain ⟨p1, A, e, h⟩ := ps_bd_i h
      have hp1 : ps_ad L (p + 1) (ps_pr tx L E sc (p + 1)) := ps_ad_pr hA hpl
      rw [e] at hp1
      exact ih p1 _ p' F' hp1.2 (ty_op hF (ty_pr hE hA hs hpl e) (by split <;> omega) (by split <;> omega)) h
    · cases h; exact hF
theorem ty_su (hE : tyE L K E) (hA : ∀ sc p, p ≤ L → ps_ad L p (E sc p)) {sc : List Nat} (hs : sc.length + 3 ≤ K) {p : Nat} (hp : p ≤ L) {p' : Nat} {F : fr_F} (h : ps_su tx L E sc p = .inr (p', F)) : fr_ty F sc.length := by
  unfold ps_su at h
  obtain ⟨p1, A, e, h⟩ := ps_bd_i h
  have hp1 : ps_ad L p (ps_pr tx L E sc p) := ps_ad_pr hA hp
  rw [e] at hp1
  exact ty_sl hE hA hs _ p1 A p' F hp1.2 (ty_pr hE hA hs hp e) h
theorem ty_cm (hE : tyE L K E) (hA : ∀ sc p, p ≤ L → ps_ad L p (E sc p)) {sc : List Nat} (hs : sc.length + 3 ≤ K) {p : Nat} (hp : p ≤ L) {p' : Nat} {F : fr_F} (h : ps_cm tx L E sc p = .inr (p', F)) : fr_ty F sc.length := by
  unfold ps_cm at h
  obtain ⟨p1, A, e, h⟩ := ps_bd_i h
  have h1 := ty_su hE hA hs hp e
  split at h
  · next hc =>
    have hpl : p1 < L := rd_ch_in (tx := tx) (by omega)
    obtain ⟨p2, B, e2, h⟩ := ps_bd_i h
    have h2 := ty_su hE hA hs hpl e2
    cases h
    exact ty_op h1 h2 (by split <;> omega) (by split <;> omega)
  · cases h; exact h1
theorem nm_len : ∀ (r i : Nat) (sc : List Nat) (p p' : Nat) (sc' : List Nat), ps_nm tx L r i sc p = .inr (p', sc') → sc'.length = sc.length + r := by
  intro r
  induction r with
  | zero => intro i sc p p' sc' h; cases h; rfl
  | succ r ih =>
    intro i sc p p' sc' h
    simp only [ps_nm] at h
    split at h
    · cases h
    · split at h
      · have := ih _ _ _ _ _ h
        rw [List.length_append] at this
        have e1 : [rd_ch tx L p].length = 1 := rfl
        omega
      · cases h
theorem ty_cb (hE : tyE L K E) {sc : List Nat} (hs : sc.length + 3 ≤ K) {tag p : Nat} (htag : tag < 8) (hp : p ≤ L) {p' : Nat} {F : fr_F} (h : ps_cb tx L E sc tag p = .inr (p', F)) : ∀ fn k : Nat, ca_ok (tag, F) (fn, sc.length, k) := by
  unfold ps_cb at h
  obtain ⟨p1, sc1, e, h⟩ := ps_bd_i h
  obtain ⟨hch, h⟩ := ps_xp_i h
  have hpl : p1 < L := rd_ch_in (tx := tx) (by omega)
  obtain ⟨p3, B, e3, h⟩ := ps_bd_i h
  obtain ⟨_, h⟩ := ps_xp_i h
  have hB := hE.2 sc1 _ hpl (by rw [nm_len _ _ _ _ _ _ e]; omega) p3 B e3
  rw [nm_len _ _ _ _ _ _ e] at hB
  cases h
  intro fn k
  refine ⟨htag, fun h0 => ?_, fun h0 => ?_⟩
  · have h0 : tag % 4 = 0 := h0
    show bt false (fr_cb (tag % 4) B) _ _
    unfold fr_cb; rw [if_pos h0]
    rw [h0] at hB; exact hB fn k
  · have h0 : 0 < tag % 4 := h0
    have e9 : fr_cb (tag % 4) B = fr_ap (fr_ap (fr_1 20 (tag % 4)) B) (fr_1 15 (tag % 4)) := by unfold fr_cb; rw [if_neg (by omega)]
    refine ⟨?_, fun b => ?_⟩
    · show bt true (fr_cb (tag % 4) B) _ _
      rw [e9]
      exact bt_ap (bt_ap (bt_open h0 (by omega)) (hB fn k)) (bt_unbind (by omega))
    · show ((fr_cb (tag % 4) B).2 b).getD 0 z3 = _
      rw [e9]; rfl
theorem ty_cs (hE : tyE L K E) (hA : ∀ sc p, p ≤ L → ps_ad L p (E sc p)) {sc : List Nat} (hs : sc.length + 3 ≤ K) : ∀ (r m seen p : Nat) (cs : List (Nat × fr_F)) (p' : Nat) (cs' : List (Nat × fr_F)), p ≤ L → (∀ fn k : Nat, ∀ x ∈ cs, ca_ok x (fn, sc.length, k)) → ps_cs tx L E sc r m seen p cs = .inr (p', cs') → (∀ fn k : Nat, ∀ x ∈ cs', ca_ok x (fn, sc.length, k)) ∧ cs'.length ≤ cs.length + r := by
  intro r
  induction r with
  | zero => intro m seen p cs p' cs' _ hcs h; cases h; exact ⟨hcs, by omega⟩
  | succ r ih =>
    intro m seen p cs p' cs' hp hcs h
    simp only [ps_cs] at h
    split at h
    · split at h
      · next hc =>
        have hpl : p < L := rd_ch_in (tx := tx) (by omega)
        obtain ⟨p1, B, e, h⟩ := ps_bd_i h
        have hp1 := ps_ad_cbd (tx := tx) hA (sc := sc) (tag := rd_ch tx L p - 65) hpl
        rw [e] at hp1
        have hB := ty_cb hE hs (by omega) hpl e
        obtain ⟨a1, a2⟩ := ih _ _ _ _ _ _ hp1.2 (fun fn k x hx => by
          rcases List.mem_append.mp hx with hx | hx
          · exact hcs fn k x hx
          · rw [List.mem_singleton] at hx; subst hx; exact hB fn k) h
        rw [List.length_append] at a2
        have e1 : [((rd_ch tx L p - 65 : Nat), B)].length = 1 := rfl
        exact ⟨a1, by omega⟩
      · cases h
    · cases h; exact ⟨hcs, by omega⟩
theorem ty_bo (hE : tyE L K E) (hA : ∀ sc p, p ≤ L → ps_ad L p (E sc p)) {sc : List Nat} (hs : sc.length + 3 ≤ K) {p : Nat} (hp : p ≤ L) {p' : Nat} {F : fr_F} (h : ps_bo tx L E sc p = .inr (p', F)) : fr_ty F sc.length := by
  unfold ps_bo at h
  split at h
  · next hc =>
    have hpl : p < L := rd_ch_in (tx := tx) (by omega)
    unfold ps_ma at h
    obtain ⟨p1, A, e, h⟩ := ps_bd_i h
    obtain ⟨hch, h⟩ := ps_xp_i h
    obtain ⟨p3, cs, e3, h⟩ := ps_bd_i h
    obtain ⟨_, h⟩ := ps_xp_i h
    have hp1 : p1 < L := rd_ch_in (tx := tx) (by omega)
    have h1 := ty_cm hE hA hs hpl e
    obtain ⟨a1, a2⟩ := ty_cs hE hA hs 8 0 0 _ [] _ _ hp1 (fun fn k x hx => absurd hx List.not_mem_nil) e3
    cases h
    exact ty_match h1 a1 (by simpa using a2)
  · exact ty_cm hE hA hs hp h
theorem ty_h1 (hE : tyE L K E) {sc : List Nat} (hs : sc.length + 3 ≤ K) {p p' : Nat} {x : List Nat × (fr_F → fr_F)} (hh : rd_hd tx L p = true) (h : ps_h1 tx L E sc p = .inr (p', x)) : x.1.length ≤ sc.length + 1 ∧ ∀ F : fr_F, fr_ty F x.1.length → fr_ty (x.2 F) sc.length := by
  unfold ps_h1 at h
  split at h
  · split at h
    · cases h
      refine ⟨by show (sc ++ [_]).length ≤ _; rw [List.length_append]; exact Nat.le_refl _, fun F hF => ?_⟩
      have hF : fr_ty F (sc ++ [rd_ch tx L (p + 1)]).length := hF
      rw [List.length_append] at hF
      exact ty_fun hF
    · cases h
  · split at h
    · split at h
      · split at h
        · cases h
        · split at h
          · obtain ⟨hch, h⟩ := ps_xp_i h
            have hpl : p + 3 < L := rd_ch_in (tx := tx) (by omega)
            obtain ⟨p1, A, e, h⟩ := ps_bd_i h
            obtain ⟨_, h⟩ := ps_xp_i h
            have h2 := hE.2 _ _ hpl (by rw [List.length_append]; show sc.length + 2 ≤ K; omega) p1 A e
            cases h
            refine ⟨by show (sc ++ [_]).length ≤ _; rw [List.length_append]; exact Nat.le_refl _, fun F hF => ?_⟩
            have hF : fr_ty F (sc ++ [rd_ch tx L (p + 1)]).length := hF
            rw [List.length_append] at hF h2
            exact ty_fix h2 hF
          · cases h
      · cases h
    · next n1 n2 =>
      have hq : rd_ch tx L (p + 1) = 61 := by
        unfold rd_hd at hh
        simp only [Bool.or_eq_true, Bool.and_eq_true, decide_eq_true_eq] at hh
        rcases hh with h9 | h9 | h9
        · exact absurd h9 n1
        · exact absurd h9 n2
        · exact h9.2
      have hpl : p + 1 < L := rd_ch_in (tx := tx) (by omega)
      obtain ⟨p1, A, e, h⟩ := ps_bd_i h
      obtain ⟨_, h⟩ := ps_xp_i h
      have h2 := hE.2 _ _ hpl (by omega) p1 A e
      cases h
      refine ⟨by show (sc ++ [_]).length ≤ _; rw [List.length_append]; exact Nat.le_refl _, fun F hF => ?_⟩
      have hF : fr_ty F (sc ++ [rd_ch tx L p]).length := hF
      rw [List.length_append] at hF
      exact ty_let h2 hF
theorem ty_hs (hE : tyE L K E) (hA : ∀ sc p, p ≤ L → ps_ad L p (E sc p)) {e0 : Nat} : ∀ (r : Nat) (sc : List Nat) (p : Nat) (W : fr_F → fr_F), p ≤ L → sc.length + r + 3 ≤ K → (∀ F : fr_F, fr_ty F sc.length → fr_ty (W F) e0) → ∀ (p' : Nat) (F : fr_F), ps_hs tx L E r sc p W = .inr (p', F) → fr_ty F e0 := by
  intro r
  have last : ∀ (sc : List Nat) (p : Nat) (W : fr_F → fr_F), p ≤ L → sc.length + 3 ≤ K → (∀ F : fr_F, fr_ty F sc.length → fr_ty (W F) e0) → ∀ (p' : Nat) (F : fr_F), ps_bd (ps_bo tx L E sc p) (fun p1 F => .inr (p1, W F)) = .inr (p', F) → fr_ty F e0 := by
    intro sc p W hp hs hW p' F h
    obtain ⟨p1, A, e, h⟩ := ps_bd_i h
    have h1 := ty_bo hE hA hs hp e
    cases h
    exact hW A h1
  induction r with
  | zero => intro sc p W hp hs hW p' F h; exact last sc p W hp (by omega) hW p' F h
  | succ r ih =>
    intro sc p W hp hs hW p' F h
    simp only [ps_hs] at h
    split at h
    · next hh =>
      obtain ⟨p1, x, e, h⟩ := ps_bd_i h
      have hp1 := ps_ad_h1 (sc := sc) hA hh
      rw [e] at hp1
      have hh1 := ty_h1 hE (sc := sc) (by omega) hh e
      exact ih x.1 p1 _ hp1.2 (by omega) (fun F hF => hW _ (hh1.2 F hF)) p' F h
    · exact last sc p W hp (by omega) hW p' F h
end TY
theorem ty_ex {tx : Nat → Nat} {L : Nat} (hL : L ≤ 90) : ∀ m : Nat, m ≤ 6 → tyE L (1000 - m * (L + 3)) (ps_ex tx L m) := by
  intro m
  induction m with
  | zero => intro _; exact ⟨by omega, fun sc p _ _ p' F h => (by cases h)⟩
  | succ m ih =>
    intro hm
    refine ⟨by omega, fun sc p hp hs p' F h => ?_⟩
    have hmul : (m + 1) * (L + 3) = m * (L + 3) + (L + 3) := Nat.succ_mul m (L + 3)
    have hle : (m + 1) * (L + 3) ≤ 6 * 93 := Nat.mul_le_mul hm (by omega)
    exact ty_hs (ih (by omega)) (fun sc p hp => ps_ad_ex m sc p hp) L sc p id hp (by omega) (fun F hF => hF) p' F h
/-- the code of a whole text -/
theorem ty_tx {tx : Nat → Nat} {L : Nat} {F : fr_F} (hL : L ≤ 90) (h : ps_tx tx L = .inr F) : ∃ T : Nat → lb_T, T 0 = (0, 0, 0) ∧ 0 < F.1 ∧ (F.2 0).length = F.1 ∧ F.1 ≤ 120 ∧ ¬ ((F.2 0).getD 0 z3).1 = 20 ∧ ∀ i, i < F.1 → cok (F.2 0) T i := by
  unfold ps_tx at h
  split at h
  · cases h
  · next p F0 e =>
    split at h
    · cases h
    · split at h
      · cases h
      · next h120 =>
        cases h
        have hty := (ty_ex hL 6 (Nat.le_refl _)).2 [] 0 (Nat.zero_le _) (Nat.zero_le _) p F0 e
        obtain ⟨a1, a2, a3, lab, a4, a5, a6⟩ := hty 0 0
        have hF1 : (fr_ap F0 (fr_1 0 0)).1 = F0.1 + 1 := rfl
        have hF2 : (fr_ap F0 (fr_1 0 0)).2 0 = F0.2 0 ++ [(0, 0, 0)] := rfl
        have hlen : (F0.2 0 ++ [((0 : Int32), (0 : Int32), (0 : Int32))]).length = F0.1 + 1 := by rw [List.length_append, a2]; rfl
        have hs : sub (F0.2 0 ++ [((0 : Int32), (0 : Int32), (0 : Int32))]) 0 (F0.2 0) := fun i hi => by
          rw [Nat.zero_add]
          refine ⟨by rw [List.length_append]; omega, ?_⟩
          rw [getD_app, if_pos hi]
        have hl : (F0.2 0 ++ [((0 : Int32), (0 : Int32), (0 : Int32))]).getD F0.1 z3 = (0, 0, 0) := by
          rw [getD_app, a2, if_neg (Nat.lt_irrefl _), Nat.sub_self]; rfl
        refine ⟨fun i => if i < F0.1 then lab.getD i (0, 0, 0) else (0, 0, 0), ?_, by omega, by rw [hF2, hlen, hF1], by omega, ?_, fun i hi => ?_⟩
        · show (if 0 < F0.1 then lab.getD 0 (0, 0, 0) else (0, 0, 0)) = _
          rw [if_pos a1, a5]; rfl
        · rw [hF2, getD_app, if_pos (by rw [a2]; exact a1)]; exact a3 rfl 0
        · rw [hF2]
          rw [hF1] at hi
          by_cases hi2 : i < F0.1
          · have := a6 (F0.2 0 ++ [(0, 0, 0)]) (fun i => if i < F0.1 then lab.getD i (0, 0, 0) else (0, 0, 0)) 0 hs (fun j hj => by rw [Nat.zero_add]; exact if_pos hj) ⟨by rw [hlen]; omega, by rw [Nat.zero_add]; show (if F0.1 < F0.1 then _ else _) = _; rw [if_neg (Nat.lt_irrefl _)]; rfl, by rw [Nat.zero_add, hl]; decide⟩ i hi2
            rw [Nat.zero_add] at this; exact this
          · have e : i = F0.1 := by omega
            subst e
            refine Or.inl ⟨by rw [hl], ?_, ?_⟩
            · show (if F0.1 < F0.1 then lab.getD F0.1 (0, 0, 0) else ((0, 0, 0) : lb_T)).1 = 0; rw [if_neg (Nat.lt_irrefl _)]
            · show (if F0.1 < F0.1 then lab.getD F0.1 (0, 0, 0) else ((0, 0, 0) : lb_T)).2.2 = 0; rw [if_neg (Nat.lt_irrefl _)]
