/-! THE READER'S METHODS, from numeral to comparison -/
theorem ps_bd_id {α : Type} {r : ps_Q α} : ps_bd r (fun p x => .inr (p, x)) = r := by cases r <;> rfl
theorem ps_xp_bd {tx : Nat → Nat} {L c p : Nat} {α β : Type} {f : Nat → ps_Q α} {g : Nat → α → ps_Q β} : ps_bd (ps_xp tx L c p f) g = ps_xp tx L c p (fun p1 => ps_bd (f p1) g) := by
  unfold ps_xp; split <;> rfl
theorem fr_is_e {R : List rw_I} {F H : fr_F} (h : fr_is R F) (h1 : F.1 = H.1) (h2 : ∀ b, F.2 b = H.2 b) : fr_is R H := ⟨h.1, h.2.1.trans h1, fun pl b hp => (h.2.2 pl b hp).trans (h2 b)⟩
theorem nI_dig {v c : Nat} (hc : 48 ≤ c) : (10 * nI v) + (nI c - 48) = nI (10 * v + (c - 48)) := by
  obtain ⟨e, rfl⟩ := Nat.exists_eq_add_of_le hc
  have h1 : nI (48 + e) - 48 = nI e := by
    rw [← nI_add]
    show (48 : Int32) + nI e - 48 = nI e
    rw [Int32.add_comm, Int32.add_sub_cancel]
  rw [h1, show 48 + e - 48 = e by omega, ← nI_add]
  congr 1
  exact (Int32.ofNat_mul 10 v).symm
theorem nI_tag {c : Nat} (hc : c < 8) : nI c &&& 3 = nI (c % 4) := by
  match c, hc with
  | 0, _ => decide
  | 1, _ => decide
  | 2, _ => decide
  | 3, _ => decide
  | 4, _ => decide
  | 5, _ => decide
  | 6, _ => decide
  | 7, _ => decide
  | n + 8, h => omega
section RA
variable {rd rt nb L : Nat} {tx : Nat → Nat} {ill : Int32} {d d0 : Nat} {dp : Int32}
theorem l_numeral {G0 : cj_G} {Qr : Option Value → cj_G → Prop} {Qx : String → cj_G → Prop} {R0 : ps_Q fr_F} {sc : List Nat} {l : List (Nat × List rw_I)} {ls : List rw_I} {K : Int32 → Int32 → cj_G → Nat → Nat → Prop} (hd : 9 ≤ d) (kk : ∀ (p v : Nat) (i : Int32) (G : cj_G) (k n : Nat) (t : Int), 10 ≤ t → rd_cx rd rt nb L tx ill G0 Qx R0 (.inr (p, fr_1 1 v)) sc p t l ls G k n → K (nI v) i G k n) : ∀ (r i v p : Nat) (t : Int) (G : cj_G) (k n : Nat), i + r = 4 → -10 ≤ t → (10 ≤ t ∨ (0 < r ∧ 48 ≤ rd_ch tx L p ∧ rd_ch tx L p ≤ 57)) → rd_cx rd rt nb L tx ill G0 Qx R0 (.inr ((ps_dg tx L r p v).1, fr_1 1 (ps_dg tx L r p v).2)) sc p t l ls G k n → wk_X3_numeral_4 d rd Qr Qx K (r + 1) (nI v) (nI i) G k n := by
  intro r
  induction r with
  | zero =>
    intro i v p t G k n hi ht hg hc
    unfold wk_X3_numeral_4
    have e : i = 4 := by omega
    subst e
    refine ⟨fun _ => kk p v _ G k n t ?_ hc, fun h => absurd (nI_le (a := 4) (b := 4) (by omega) (by omega)) h⟩
    rcases hg with h | h
    · exact h
    · omega
  | succ r ih =>
    intro i v p t G k n hi ht hg hc
    unfold wk_X3_numeral_4
    refine ⟨fun h => absurd h (nI_ge (a := i) (b := 4) (by omega) (by omega)), fun _ => cx_peek hc hd (sk_pure (t_isDigit (cx_ch hc p)) (by omega) ⟨fun h0 => ?_, fun h1 => ?_⟩)⟩
    · have h2 := ch_b0.mp h0
      have e : ps_dg tx L (r + 1) p v = (p, v) := if_neg h2
      rw [e] at hc
      exact kk p v _ G k n t (by rcases hg with h | h; · exact h
                                 · exact absurd h.2 h2) hc
    · have h2 : 48 ≤ rd_ch tx L p ∧ rd_ch tx L p ≤ 57 := Classical.byContradiction (fun h9 => h1 (ch_b0.mpr h9))
      have e : ps_dg tx L (r + 1) p v = ps_dg tx L r (p + 1) (10 * v + (rd_ch tx L p - 48)) := if_pos h2
      rw [e] at hc
      have hp : p < L := rd_ch_in (tx := tx) (by omega)
      refine cx_peek hc hd (cx_inc hc hp (ps_ad_dg r (p + 1) _ hp) (fun G' hc' => ?_))
      rw [nI_1, nI_dig h2.1]
      exact ih (i + 1) _ (p + 1) (t + 20) G' k n (by omega) (by omega) (Or.inl (by omega)) hc'
theorem rc_numeral {sc : List Nat} {p : Nat} (hd : 9 ≤ d) (h : 48 ≤ rd_ch tx L p ∧ rd_ch tx L p ≤ 57) : rd_C1 rd rt nb L tx ill mX3_numeral (ps_nu tx L p) sc p [] d 10 := by
  intro G0 l ls G k n hst hb
  refine tq_X3_numeral (by omega) ?_
  unfold wq_X3_numeral
  have hc := cx_begin hst hb
  refine ⟨5, l_numeral hd (fun p v i G k n t ht hc => ?_) 4 0 0 p (-10) G k n (by omega) (by omega) (Or.inr ⟨by omega, h⟩) hc⟩
  exact cx_rowOf hc hd (by omega) (fun r s G' hc' => cx_fin hc' (fr_is_1 (k := 1) (by omega)))
theorem rd_foI_s {k : Nat} : rd_foI (some k) = nI k := rfl
theorem rd_fo_lt {nf : Nat → Nat} {x : Nat} : ∀ (i k j : Nat), rd_fo nf x i k = some j → j < k + i := by
  intro i
  induction i with
  | zero => intro k j h; unfold rd_fo at h; cases h
  | succ i ih =>
    intro k j h
    unfold rd_fo at h
    split at h
    · cases h; omega
    · have := ih (k + 1) j h; omega
theorem ps_fo_lt {sc : List Nat} {x j : Nat} (h : ps_fo sc x = some j) : j < sc.length := by
  have := rd_fo_lt _ _ _ h; omega
theorem rc_access {sc : List Nat} {p : Nat} (hd : 9 ≤ d) (h : ¬ rd_ch tx L p = 0) : rd_C1 rd rt nb L tx ill mX3_access (ps_ac tx L sc p) sc p [] d 10 := by
  intro G0 l ls G k n hst hb
  refine tq_X3_access (by omega) ?_
  unfold wq_X3_access
  have hc := cx_begin hst hb
  have hp : p < L := rd_ch_in (tx := tx) h
  have hL := cx_L hc
  have hq := (cx_p hc).1
  refine cx_peek hc hd (cx_fur hc hd _ (cx_ch hc p) ?_)
  cases e : ps_fo sc (rd_ch tx L p) with
  | none =>
    have e2 : ps_ac tx L sc p = .inl p := by unfold ps_ac; rw [e]
    refine ⟨fun h9 => absurd rfl h9, fun _ => cx_refuse (cx_R hc e2) hd (by omega)⟩
  | some j =>
    have e2 : ps_ac tx L sc p = .inr (p + 1, fr_1 2 j) := by unfold ps_ac; rw [e]
    have hj := ps_fo_lt e
    refine ⟨fun _ => cx_inc (cx_R hc e2) hp ⟨Nat.le_refl _, hp⟩ (fun G' hc' => cx_rowOf hc' hd (by omega) (fun r s G' hc2 => cx_fin hc2 (fr_is_1 (k := 2) (by omega)))), fun h9 => ?_⟩
    have h8 := congrArg Int32.toInt h9
    rw [rd_foI_s, nI_toInt (by omega)] at h8
    have : (-1 : Int32).toInt = -1 := by decide
    omega
variable {E : List Nat → Nat → ps_Q fr_F}
theorem l_construction {G0 : cj_G} {Qr : Option Value → cj_G → Prop} {Qx : String → cj_G → Prop} {R0 : ps_Q fr_F} {sc : List Nat} {l : List (Nat × List rw_I)} {ls : List rw_I} {K : Int32 → cj_G → Nat → Nat → Prop} {KK : Nat → fr_F → ps_Q fr_F} {tg : Int32} {q f : Nat} (hX : rd_CM rd rt nb L tx ill mX3_expression E [.int (dp + 1)] d0 (-2)) (hE : ∀ sc p, p ≤ L → ps_ad L p (E sc p)) (hd : 9 ≤ d) (hd0 : d0 + 1 ≤ d) (hf : f < 4) (hKK : ∀ (p1 : Nat) (F : fr_F), p1 ≤ L → ps_ae L p1 (KK p1 F)) (kk : ∀ (p : Nat) (F : fr_F) (W : List rw_I) (i : Int32) (G : cj_G) (k n : Nat) (t : Int), 5 ≤ t → fr_is W F → rd_cx rd rt nb L tx ill G0 Qx R0 (KK p F) sc p t ((q, W) :: l) ls G k n → K i G k n) : ∀ (r i p : Nat) (F : fr_F) (W : List rw_I) (t : Int) (G : cj_G) (k n : Nat), i + r = f → 5 ≤ t → fr_is W F → rd_cx rd rt nb L tx ill G0 Qx R0 (ps_bd (ps_fl tx L E sc r i p F) KK) sc p t ((q, W) :: l) ls G k n → wk_X3_construction_34 d rd dp tg (nI f) q Qr Qx K (r + 1) (nI i) G k n := by
  intro r
  induction r with
  | zero =>
    intro i p F W t G k n hi ht hw hc
    unfold wk_X3_construction_34
    have e : i = f := by omega
    subst e
    exact ⟨fun _ => kk p F W _ G k n t ht hw hc, fun h => absurd (nI_le (Nat.le_refl i) (by omega)) h⟩
  | succ r ih =>
    intro i p F W t G k n hi ht hw hc
    unfold wk_X3_construction_34
    refine ⟨fun h => absurd h (nI_ge (by omega) (by omega)), fun _ => ?_⟩
    by_cases h0 : i = 0
    · subst h0
      have e : ps_bd (ps_fl tx L E sc (r + 1) 0 p F) KK = ps_xp tx L 40 p (fun p1 => ps_bd (E sc p1) (fun p2 A => ps_bd (ps_fl tx L E sc r 1 p2 (fr_ap F A)) KK)) := by
        simp only [ps_fl, if_pos, ps_xp_bd, ps_bd_a]
      have hc := cx_R hc e
      refine ⟨fun _ => ⟨fun h9 => absurd rfl h9, fun _ => ?_⟩, fun h9 => absurd (nI_le (a := 0) (b := 0) (by omega) (by omega)) h9⟩
      refine cx_expect 40 hc hd (by omega) (by omega) (by omega) (fun h1 => ps_ae_of (ps_ad_bd (hE sc _ h1) (fun p1 x _ h2 => ps_ae_bd (ps_ae_fl hE sc _ _ _ _ h2) (fun p2 y _ h3 => hKK p2 y h3)))) (fun G1 e1 hp hc1 => ?_)
      refine cx_go (hX sc (p + 1) hp) hc1 hd0 (by omega) (by omega) (hE sc _ hp) (fun p1 A h1 => ps_ae_bd (ps_ae_fl hE sc _ _ _ _ h1) (fun p2 y _ h3 => hKK p2 y h3)) (fun p1 A r1 W1 G2 k2 n2 e2 h1 h2 hw1 hc2 => ?_)
      refine cx_append (cx_perm hc2 (List.Perm.swap _ _ _)) hd (fun G3 hc3 => ?_)
      rw [nI_1]
      exact ih 1 p1 _ _ _ G3 _ _ (by omega) (by omega) (fr_is_ap hw hw1) hc3
    · have e : ps_bd (ps_fl tx L E sc (r + 1) i p F) KK = ps_xp tx L 44 p (fun p1 => ps_bd (E sc p1) (fun p2 A => ps_bd (ps_fl tx L E sc r (i + 1) p2 (fr_ap (fr_ap F (fr_1 3 0)) A)) KK)) := by
        simp only [ps_fl, if_neg h0, ps_xp_bd, ps_bd_a]
      have hc := cx_R hc e
      refine ⟨fun h9 => absurd h9 (nI_nle (by omega) (by omega)), fun _ => cx_add2 hc hd (by omega) (fun s G9 hc => ⟨fun _ => ?_, fun h9 => absurd h9 (nI_ne0 (by omega) (by omega))⟩)⟩
      refine cx_expect 44 hc hd (by omega) (by omega) (by omega) (fun h1 => ps_ae_of (ps_ad_bd (hE sc _ h1) (fun p1 x _ h2 => ps_ae_bd (ps_ae_fl hE sc _ _ _ _ h2) (fun p2 y _ h3 => hKK p2 y h3)))) (fun G1 e1 hp hc1 => ?_)
      refine cx_go (hX sc (p + 1) hp) hc1 hd0 (by omega) (by omega) (hE sc _ hp) (fun p1 A h1 => ps_ae_bd (ps_ae_fl hE sc _ _ _ _ h1) (fun p2 y _ h3 => hKK p2 y h3)) (fun p1 A r1 W1 G2 k2 n2 e2 h1 h2 hw1 hc2 => ?_)
      refine cx_append (cx_perm hc2 (List.Perm.swap _ _ _)) hd (fun G3 hc3 => ?_)
      rw [nI_1]
      exact ih (i + 1) p1 _ _ _ G3 _ _ (by omega) (by omega) (fr_is_ap (fr_is_ap hw (fr_is_1 (k := 3) (a := 0) (by omega))) hw1) hc3
theorem rc_construction (hX : rd_CM rd rt nb L tx ill mX3_expression E [.int (dp + 1)] d0 (-2)) (hE : ∀ sc p, p ≤ L → ps_ad L p (E sc p)) {sc : List Nat} {p : Nat} (hd : 9 ≤ d) (hd0 : d0 + 1 ≤ d) (h : 65 ≤ rd_ch tx L p ∧ rd_ch tx L p ≤ 72) : rd_C1 rd rt nb L tx ill mX3_construction (ps_co tx L E sc p) sc p [.int dp] d 10 := by
  intro G0 l ls G k n hst hb
  refine tq_X3_construction (by omega) ?_
  unfold wq_X3_construction
  have hc := cx_begin hst hb
  have hp : p < L := rd_ch_in (tx := tx) (by omega)
  have hfl : ∀ f i p1 F, p1 ≤ L → ps_ae L p1 (ps_bd (ps_fl tx L E sc f i p1 F) (fun p1 F => ps_xp tx L 41 p1 (fun p2 => .inr (p2, fr_ap F (fr_1 17 (rd_ch tx L p - 65)))))) := fun f i p1 F h1 => ps_ae_bd (ps_ae_fl hE sc _ _ _ _ h1) (fun p2 x _ h2 => ps_ae_of (ps_ad_xp (by omega) h2 (fun h3 => ⟨Nat.le_refl _, h3⟩)))
  have e0 : ps_co tx L E sc p = if (65 ≤ rd_ch tx L p ∧ rd_ch tx L p ≤ 72) ∧ ¬ (0 : Nat).testBit (rd_ch tx L p - 65) = true then ps_co tx L E sc p else .inl p := (if_pos ⟨h, by simp⟩).symm
  refine cx_tag 0 (by omega) (cx_R hc e0) hd (by omega) (fun h1 => ?_) (fun G1 _ _ hc1 => sk_pureN t_fieldsOf (by omega) ?_)
  · unfold ps_co
    split
    · exact ⟨Nat.le_refl _, h1⟩
    · exact hfl _ _ _ _ h1
  · rw [nI_tag (by omega)]
    by_cases hf : (rd_ch tx L p - 65) % 4 = 0
    · have e : ps_co tx L E sc p = .inr (p + 1, fr_1 16 (rd_ch tx L p - 65)) := by unfold ps_co; rw [if_pos hf]
      rw [hf]
      exact ⟨fun h9 => absurd rfl h9, fun _ => cx_rowOf (cx_R hc1 e) hd (by omega) (fun r s G2 hc2 => cx_fin hc2 (fr_is_1 (k := 16) (by omega)))⟩
    · have e : ps_co tx L E sc p = ps_bd (ps_fl tx L E sc ((rd_ch tx L p - 65) % 4) 0 (p + 1) fr_0) (fun p1 F => ps_xp tx L 41 p1 (fun p2 => .inr (p2, fr_ap F (fr_1 17 (rd_ch tx L p - 65))))) := by unfold ps_co; rw [if_neg hf]
      refine ⟨fun _ => cx_newrow (cx_R hc1 e) hd (by omega) (fun q G2 hc2 => ⟨(rd_ch tx L p - 65) % 4 + 1, ?_⟩), fun h9 => absurd h9 (nI_ne0 (by omega) (by omega))⟩
      refine l_construction (KK := fun p1 F => ps_xp tx L 41 p1 (fun p2 => .inr (p2, fr_ap F (fr_1 17 (rd_ch tx L p - 65))))) hX hE hd hd0 (Nat.mod_lt _ (by omega)) (fun p1 F h1 => ps_ae_of (ps_ad_xp (by omega) h1 (fun h3 => ⟨Nat.le_refl _, h3⟩))) (fun p1 F W i G3 k3 n3 t ht hw hc3 => ?_) _ 0 (p + 1) fr_0 [] _ G2 _ _ (by omega) (by omega) fr_is_0 hc2
      refine cx_expect 41 hc3 hd (by omega) (by omega) (by omega) (fun h1 => ⟨Nat.le_refl _, h1⟩) (fun G4 _ _ hc4 => ?_)
      exact cx_add2 hc4 hd (by omega) (fun s G5 hc5 => cx_fin hc5 (fr_is_ap hw (fr_is_1 (k := 17) (by omega))))
theorem rc_atom (hX : rd_CM rd rt nb L tx ill mX3_expression E [.int (dp + 1)] d0 (-2)) (hE : ∀ sc p, p ≤ L → ps_ad L p (E sc p)) (hd : 9 ≤ d) (hd0 : d0 + 1 ≤ d) : rd_CM rd rt nb L tx ill mX3_atom (ps_at tx L E) [.int dp] (d + 1) 10 := by
  intro sc p hp G0 l ls G k n hst hb
  refine tq_X3_atom (by omega) ?_
  unfold wq_X3_atom
  have hc := cx_begin hst hb
  refine cx_peek hc (by omega) (sk_pure (t_isDigit (cx_ch hc p)) (by omega) ⟨fun h0 => ?_, fun h1 => ?_⟩)
  · have n0 := ch_b0.mp h0
    refine sk_pure (t_isName (cx_ch hc p)) (by omega) ⟨fun h0 => ?_, fun h1 => ?_⟩
    · have n1 := ch_b0.mp h0
      refine sk_pure (t_isConstructor (cx_ch hc p)) (by omega) ⟨fun h0 => ?_, fun h1 => ?_⟩
      · have n2 := ch_b0.mp h0
        have e : ps_at tx L E sc p = ps_xp tx L 40 p (fun p1 => ps_bd (E sc p1) (fun p2 F => ps_xp tx L 41 p2 (fun p3 => .inr (p3, F)))) := by unfold ps_at; rw [if_neg n0, if_neg n1, if_neg n2]
        refine cx_expect 40 (cx_R hc e) (by omega) (by omega) (by omega) (by omega) (fun h1 => ps_ae_of (ps_ad_bd (hE sc _ h1) (fun p1 x _ h2 => ps_ae_of (ps_ad_xp (by omega) h2 (fun h3 => ⟨Nat.le_refl _, h3⟩))))) (fun G1 _ hp1 hc1 => ?_)
        refine cx_go (hX sc (p + 1) hp1) hc1 (by omega) (by omega) (by omega) (hE sc _ hp1) (fun p1 F h2 => ps_ae_of (ps_ad_xp (by omega) h2 (fun h3 => ⟨Nat.le_refl _, h3⟩))) (fun p1 F r W G2 k2 n2 _ h1 h2 hw hc2 => ?_)
        exact cx_expect 41 hc2 (by omega) (by omega) (by omega) (by omega) (fun h3 => ⟨Nat.le_refl _, h3⟩) (fun G3 _ _ hc3 => cx_fin hc3 hw)
      · have y2 : 65 ≤ rd_ch tx L p ∧ rd_ch tx L p ≤ 72 := Classical.byContradiction (fun h9 => h1 (ch_b0.mpr h9))
        have e : ps_at tx L E sc p = ps_co tx L E sc p := by unfold ps_at; rw [if_neg n0, if_neg n1, if_pos y2]
        exact cx_tail (rc_construction hX hE hd hd0 y2) (cx_R hc e) (by omega) (by omega) (by omega) (e ▸ ps_ad_at hE hp)
    · have y1 : 97 ≤ rd_ch tx L p ∧ rd_ch tx L p ≤ 122 := Classical.byContradiction (fun h9 => h1 (ch_b0.mpr h9))
      have e : ps_at tx L E sc p = ps_ac tx L sc p := by unfold ps_at; rw [if_neg n0, if_pos y1]
      exact cx_tail (rc_access hd (by omega)) (cx_R hc e) (by omega) (by omega) (by omega) (e ▸ ps_ad_at hE hp)
  · have y0 : 48 ≤ rd_ch tx L p ∧ rd_ch tx L p ≤ 57 := Classical.byContradiction (fun h9 => h1 (ch_b0.mpr h9))
    have e : ps_at tx L E sc p = ps_nu tx L p := by unfold ps_at; rw [if_pos y0]
    exact cx_tail (rc_numeral hd y0) (cx_R hc e) (by omega) (by omega) (by omega) (e ▸ ps_ad_at hE hp)
theorem l_app17 {G0 : cj_G} {Qr : Option Value → cj_G → Prop} {Qx : String → cj_G → Prop} {R0 : ps_Q fr_F} {sc : List Nat} {l : List (Nat × List rw_I)} {ls : List rw_I} {K : Nat → Int32 → cj_G → Nat → Nat → Prop} {KK : Nat → Nat × fr_F → ps_Q fr_F} {x5 : Nat} {A : List rw_I} (hA : rd_CM rd rt nb L tx ill mX3_atom (ps_at tx L E) [.int dp] d0 10) (hE : ∀ sc p, p ≤ L → ps_ad L p (E sc p)) (hd : 9 ≤ d) (hd0 : d0 + 1 ≤ d) (hKK : ∀ (p1 : Nat) (x : Nat × fr_F), p1 ≤ L → ps_ae L p1 (KK p1 x)) (kk : ∀ (p m : Nat) (F : fr_F) (q : Nat) (W : List rw_I) (G : cj_G) (k n : Nat) (t : Int), m ≤ L → (m : Int) ≤ t → fr_is W F → rd_cx rd rt nb L tx ill G0 Qx R0 (KK p (m, F)) sc p t ((q, W) :: (x5, A) :: l) ls G k n → K q (nI m) G k n) : ∀ (r m p : Nat) (F : fr_F) (q : Nat) (W : List rw_I) (t : Int) (G : cj_G) (k n : Nat), m + r = L → (m : Int) ≤ t → fr_is W F → rd_cx rd rt nb L tx ill G0 Qx R0 (ps_bd (ps_ag tx L E sc r p m F) KK) sc p t ((q, W) :: (x5, A) :: l) ls G k n → wk_X3_application_17 d rd dp x5 Qr Qx K (r + 1) q (nI m) G k n := by
  intro r
  induction r with
  | zero =>
    intro m p F q W t G k n hm ht hw hc
    unfold wk_X3_application_17
    have e : m = L := by omega
    subst e
    have hL := cx_L hc
    exact cx_g1 hc ⟨fun _ => kk p m F q W G k n t (Nat.le_refl _) ht hw hc, fun h => absurd (nI_le (Nat.le_refl m) (by omega)) h⟩
  | succ r ih =>
    intro m p F q W t G k n hm ht hw hc
    unfold wk_X3_application_17
    have hL := cx_L hc
    refine cx_g1 hc ⟨fun h => absurd h (nI_ge (by omega) (by omega)), fun _ => cx_peek hc hd (sk_pure (t_beginsAtom (cx_ch hc p)) (by omega) ⟨fun h0 => ?_, fun h1 => ?_⟩)⟩
    · have n0 := ch_b0.mp h0
      have e : ps_bd (ps_ag tx L E sc (r + 1) p m F) KK = KK p (m, F) := by simp only [ps_ag, if_neg n0, ps_bd_r]
      exact kk p m F q W G k n t (by omega) ht hw (cx_R hc e)
    · have y0 : rd_atomb (rd_ch tx L p) = true := Classical.byContradiction (fun h9 => h1 (ch_b0.mpr h9))
      have e : ps_bd (ps_ag tx L E sc (r + 1) p m F) KK = ps_bd (ps_at tx L E sc p) (fun p1 A => ps_bd (ps_ag tx L E sc r p1 (m + 1) (fr_ap (fr_ap A (fr_1 3 0)) F)) KK) := by simp only [ps_ag, if_pos y0, ps_bd_a]
      refine cx_go (hA sc p (cx_p hc).2) (cx_R hc e) hd0 (by omega) (by omega) (ps_ad_at hE (cx_p hc).2) (fun p1 x h1 => ps_ae_bd (ps_ae_ag hE sc _ _ _ _ h1) (fun p2 y _ h3 => hKK p2 y h3)) (fun p1 B r1 W1 G2 k2 n2 e2 h1 h2 hw1 hc2 => ?_)
      refine cx_add2 hc2 hd (by omega) (fun s G3 hc3 => cx_append hc3 hd (fun G4 hc4 => ?_))
      rw [nI_1]
      exact ih (m + 1) p1 _ r1 _ _ G4 _ _ (by omega) (by omega) (fr_is_ap (fr_is_ap hw1 (fr_is_1 (k := 3) (a := 0) (by omega))) hw) hc4
theorem l_app73 {G0 : cj_G} {Qx : String → cj_G → Prop} {R0 : ps_Q fr_F} {sc : List Nat} {l : List (Nat × List rw_I)} {ls : List rw_I} {Qr : Option Value → cj_G → Prop} {K : Int32 → cj_G → Nat → Nat → Prop} {x5 q m p : Nat} {F : fr_F} (hd : 9 ≤ d) (hm : m < 65536) (kk : ∀ (W : List rw_I) (i : Int32) (G : cj_G) (k n : Nat) (t : Int), fr_is W (fr_ap F (fr_rp m)) → rd_cx rd rt nb L tx ill G0 Qx R0 (.inr (p, fr_ap F (fr_rp m))) sc p t ((q, W) :: l) ls G k n → K i G k n) : ∀ (r i : Nat) (W : List rw_I) (t : Int) (G : cj_G) (k n : Nat), i + r = m → (r : Int) ≤ t → fr_is W (fr_ap F (fr_rp i)) → rd_cx rd rt nb L tx ill G0 Qx R0 (.inr (p, fr_ap F (fr_rp m))) sc p t ((q, W) :: l) ls G k n → wk_X3_application_73 d rd dp x5 q (nI m) Qr Qx K (r + 1) (nI i) G k n := by
  intro r
  induction r with
  | zero =>
    intro i W t G k n hi ht hw hc
    unfold wk_X3_application_73
    have e : i = m := by omega
    subst e
    exact ⟨fun _ => kk W _ G k n t hw hc, fun h => absurd (nI_le (Nat.le_refl i) (by omega)) h⟩
  | succ r ih =>
    intro i W t G k n hi ht hw hc
    unfold wk_X3_application_73
    refine ⟨fun h => absurd h (nI_ge (by omega) (by omega)), fun _ => cx_add2 hc hd (by omega) (fun s G2 hc2 => ?_)⟩
    rw [nI_1]
    refine ih (i + 1) _ _ G2 _ _ (by omega) (by omega) (fr_is_e (fr_is_ap hw (fr_is_1 (k := 13) (a := 0) (by omega))) ?_ (fun b => ?_)) hc2
    · show F.1 + i + 1 = F.1 + (i + 1); omega
    · show F.2 b ++ List.replicate i ((13 : Int32), (0 : Int32), (0 : Int32)) ++ [(13, 0, 0)] = F.2 b ++ List.replicate (i + 1) ((13 : Int32), (0 : Int32), (0 : Int32))
      rw [List.replicate_succ', List.append_assoc]
theorem rc_application (hA : rd_CM rd rt nb L tx ill mX3_atom (ps_at tx L E) [.int dp] d0 10) (hE : ∀ sc p, p ≤ L → ps_ad L p (E sc p)) (hd : 9 ≤ d) (hd0 : d0 + 1 ≤ d) : rd_CM rd rt nb L tx ill mX3_application (ps_ap tx L E) [.int dp] d 9 := by
  intro sc p hp G0 l ls G k n hst hb
  refine tq_X3_application (by omega) ?_
  unfold wq_X3_application
  have hc := cx_begin hst hb
  have hK2 : ∀ (A : fr_F) (p1 : Nat) (x : Nat × fr_F), p1 ≤ L → ps_ae L p1 (.inr (p1, fr_ap (fr_ap x.2 A) (fr_rp x.1)) : ps_Q fr_F) := fun A p1 x h1 => ⟨Nat.le_refl _, h1⟩
  refine cx_go (hA sc p hp) (KK := fun p1 A => ps_bd (ps_ag tx L E sc L p1 0 fr_0) (fun p2 x => .inr (p2, fr_ap (fr_ap x.2 A) (fr_rp x.1)))) hc hd0 (by omega) (by omega) (ps_ad_at hE hp) (fun p1 A h1 => ps_ae_bd (ps_ae_ag hE sc _ _ _ _ h1) (fun p2 y _ h3 => hK2 A p2 y h3)) (fun p1 A r1 W1 G2 k2 n2 e2 h1 h2 hw1 hc2 => ?_)
  refine cx_newrow hc2 hd (by omega) (fun q G3 hc3 => ⟨L + 1, ?_⟩)
  refine l_app17 hA hE hd hd0 (hK2 A) (fun p3 m F q3 W G4 k4 n4 t hm ht hw hc4 => ?_) L 0 p1 fr_0 q [] _ G3 _ _ (by omega) (by omega) fr_is_0 hc3
  refine cx_append hc4 hd (fun G5 hc5 => ⟨m + 1, ?_⟩)
  have hL := cx_L hc
  refine l_app73 (F := fr_ap F A) hd (by omega) (fun W i G6 k6 n6 t hw6 hc6 => cx_fin hc6 hw6) m 0 _ t G5 _ _ (by omega) ht (fr_is_e (fr_is_ap hw hw1) rfl (fun b => ?_)) hc5
  show _ = (fr_ap F A).2 b ++ List.replicate 0 ((13 : Int32), (0 : Int32), (0 : Int32))
  rw [List.replicate_zero, List.append_nil]
theorem fr_is_op {A B : List rw_I} {F H : fr_F} {s1 s2 k : Nat} (hk : k < 21) (h1 : fr_is A F) (h2 : fr_is B H) : fr_is (A ++ [(s1, 3, 0, none)] ++ B ++ [(s2, nI k, 0, none)]) (fr_op k F H) := fr_is_ap (fr_is_ap (fr_is_ap h1 (fr_is_1 (k := 3) (a := 0) (by omega))) h2) (fr_is_1 (a := 0) hk)
theorem l_product {G0 : cj_G} {Qx : String → cj_G → Prop} {R0 : ps_Q fr_F} {sc : List Nat} {l : List (Nat × List rw_I)} {ls : List rw_I} {q : Nat} (hA : rd_CM rd rt nb L tx ill mX3_application (ps_ap tx L E) [.int dp] d0 9) (hE : ∀ sc p, p ≤ L → ps_ad L p (E sc p)) (hd : 9 ≤ d) (hd0 : d0 + 1 ≤ d) : ∀ (r p : Nat) (F : fr_F) (W : List rw_I) (t : Int) (G : cj_G) (k n : Nat), L ≤ p + r → 0 ≤ t → fr_is W F → rd_cx rd rt nb L tx ill G0 Qx R0 (ps_pl tx L E sc r p F) sc p t ((q, W) :: l) ls G k n → wk_X3_product_6 d rd dp q (rd_fin rd rt nb L tx ill G0 sc R0 l ls) Qx (fun G _ _ => rd_fin rd rt nb L tx ill G0 sc R0 l ls (some (.ref q)) G) (r + 1) G k n := by
  intro r
  induction r with
  | zero =>
    intro p F W t G k n hp ht hw hc
    unfold wk_X3_product_6
    have hL := cx_L hc
    have h2 := (cx_p hc).2
    exact cx_g2 hc (cx_g1 hc ⟨fun _ => cx_fin hc hw, fun h => absurd (nI_le (by omega) (by omega)) h⟩)
  | succ r ih =>
    intro p F W t G k n hp ht hw hc
    unfold wk_X3_product_6
    have hL := cx_L hc
    have h2 := (cx_p hc).2
    by_cases h42 : rd_ch tx L p = 42
    · have hpl : p < L := rd_ch_in (tx := tx) (by omega)
      refine cx_g2 hc (cx_g1 hc ⟨fun h => absurd h (nI_ge hpl (by omega)), fun _ => cx_peek hc hd ⟨fun h => absurd ((nI_eq (b := 42) (by have := cx_ch hc p; omega) (by omega)).mpr h42) h, fun _ => ?_⟩⟩)
      have e : ps_pl tx L E sc (r + 1) p F = ps_bd (ps_ap tx L E sc (p + 1)) (fun p1 A => ps_pl tx L E sc r p1 (fr_op 6 F A)) := by simp only [ps_pl, if_pos h42]
      have hcR := cx_R hc e
      refine cx_inc hcR hpl (ps_ae_of (ps_ad_bd (ps_ad_ap hE hpl) (fun p1 x _ h3 => ps_ae_pl hE sc _ _ _ h3))) (fun G1 hc1 => ?_)
      refine cx_go (hA sc (p + 1) hpl) hc1 hd0 (by omega) (by omega) (ps_ad_ap hE hpl) (fun p1 x h3 => ps_ae_pl hE sc _ _ _ h3) (fun p1 A r1 W1 G2 k2 n2 e2 h1 h2 hw1 hc2 => ?_)
      exact cx_operate (cx_perm hc2 (List.Perm.swap _ _ _)) hd (by omega) (fun s1 s2 G3 hc3 => ih p1 _ _ _ G3 _ _ (by omega) (by omega) (fr_is_op (k := 6) (by omega) hw hw1) hc3)
    · have e : ps_pl tx L E sc (r + 1) p F = .inr (p, F) := by simp only [ps_pl, if_neg h42]
      exact cx_g2 hc (cx_g1 hc ⟨fun _ => cx_fin (cx_R hc e) hw, fun _ => cx_peek hc hd ⟨fun _ => cx_fin (cx_R hc e) hw, fun h => absurd ((nI_eq (b := 42) (by have := cx_ch hc p; omega) (by omega)).mp h) h42⟩⟩)
theorem rc_product (hA : rd_CM rd rt nb L tx ill mX3_application (ps_ap tx L E) [.int dp] d0 9) (hE : ∀ sc p, p ≤ L → ps_ad L p (E sc p)) (hd : 9 ≤ d) (hd0 : d0 + 1 ≤ d) : rd_CM rd rt nb L tx ill mX3_product (ps_pr tx L E) [.int dp] d 9 := by
  intro sc p hp G0 l ls G k n hst hb
  refine tq_X3_product (by omega) ?_
  unfold wq_X3_product
  have hc := cx_begin hst hb
  exact cx_go (hA sc p hp) (KK := fun p1 F => ps_pl tx L E sc L p1 F) hc hd0 (by omega) (by omega) (ps_ad_ap hE hp) (fun p1 x h3 => ps_ae_pl hE sc _ _ _ h3) (fun p1 A r1 W1 G2 k2 n2 e2 h1 h2 hw1 hc2 => ⟨L + 1, l_product hA hE hd hd0 L p1 A W1 _ G2 k2 n2 (by omega) (by omega) hw1 hc2⟩)
theorem l_sums {G0 : cj_G} {Qx : String → cj_G → Prop} {R0 : ps_Q fr_F} {sc : List Nat} {l : List (Nat × List rw_I)} {ls : List rw_I} {q : Nat} (hA : rd_CM rd rt nb L tx ill mX3_product (ps_pr tx L E) [.int dp] d0 9) (hE : ∀ sc p, p ≤ L → ps_ad L p (E sc p)) (hd : 9 ≤ d) (hd0 : d0 + 1 ≤ d) : ∀ (r p : Nat) (F : fr_F) (W : List rw_I) (t : Int) (G : cj_G) (k n : Nat), L ≤ p + r → 0 ≤ t → fr_is W F → rd_cx rd rt nb L tx ill G0 Qx R0 (ps_sl tx L E sc r p F) sc p t ((q, W) :: l) ls G k n → wk_X3_sum_6 d rd dp q (rd_fin rd rt nb L tx ill G0 sc R0 l ls) Qx (fun G _ _ => rd_fin rd rt nb L tx ill G0 sc R0 l ls (some (.ref q)) G) (r + 1) G k n := by
  intro r
  induction r with
  | zero =>
    intro p F W t G k n hp ht hw hc
    unfold wk_X3_sum_6
    have hL := cx_L hc
    have h2 := (cx_p hc).2
    exact cx_g2 hc (cx_g1 hc ⟨fun _ => cx_fin hc hw, fun h => absurd (nI_le (by omega) (by omega)) h⟩)
  | succ r ih =>
    intro p F W t G k n hp ht hw hc
    unfold wk_X3_sum_6
    have hL := cx_L hc
    have h2 := (cx_p hc).2
    have hch := cx_ch hc p
    have q43 : nI (rd_ch tx L p) = 43 ↔ rd_ch tx L p = 43 := nI_eq (b := 43) (by omega) (by omega)
    have q45 : nI (rd_ch tx L p) = 45 ↔ rd_ch tx L p = 45 := nI_eq (b := 45) (by omega) (by omega)
    by_cases h43 : rd_ch tx L p = 43
    · have hpl : p < L := rd_ch_in (tx := tx) (by omega)
      have e : ps_sl tx L E sc (r + 1) p F = ps_bd (ps_pr tx L E sc (p + 1)) (fun p1 A => ps_sl tx L E sc r p1 (fr_op 4 F A)) := by simp only [ps_sl, if_pos (Or.inl h43 : rd_ch tx L p = 43 ∨ rd_ch tx L p = 45), if_pos h43]
      have hcR := cx_R hc e
      refine cx_g2 hc (cx_g1 hc ⟨fun h => absurd h (nI_ge hpl (by omega)), fun _ => cx_peek hc hd ⟨fun _ => cx_peek hc hd ⟨fun h => absurd (q43.mpr h43) h, fun _ => ?_⟩, fun h => absurd (q43.mpr h43) h⟩⟩)
      refine cx_inc hcR hpl (ps_ae_of (ps_ad_bd (ps_ad_pr hE hpl) (fun p1 x _ h3 => ps_ae_sl hE sc _ _ _ h3))) (fun G1 hc1 => ?_)
      refine cx_go (hA sc (p + 1) hpl) hc1 hd0 (by omega) (by omega) (ps_ad_pr hE hpl) (fun p1 x h3 => ps_ae_sl hE sc _ _ _ h3) (fun p1 A r1 W1 G2 k2 n2 e2 h1 h2 hw1 hc2 => ?_)
      exact cx_operate (cx_perm hc2 (List.Perm.swap _ _ _)) hd (by omega) (fun s1 s2 G3 hc3 => ih p1 _ _ _ G3 _ _ (by omega) (by omega) (fr_is_op (k := 4) (by omega) hw hw1) hc3)
    · by_cases h45 : rd_ch tx L p = 45
      · have hpl : p < L := rd_ch_in (tx := tx) (by omega)
        have e : ps_sl tx L E sc (r + 1) p F = ps_bd (ps_pr tx L E sc (p + 1)) (fun p1 A => ps_sl tx L E sc r p1 (fr_op 5 F A)) := by simp only [ps_sl, if_pos (Or.inr h45 : rd_ch tx L p = 43 ∨ rd_ch tx L p = 45), if_neg h43]
        have hcR := cx_R hc e
        refine cx_g2 hc (cx_g1 hc ⟨fun h => absurd h (nI_ge hpl (by omega)), fun _ => cx_peek hc hd ⟨fun h => absurd (q43.mp h) h43, fun _ => cx_peek hc hd ⟨fun h => absurd (q45.mpr h45) h, fun _ => cx_peek hc hd ⟨fun _ => ?_, fun h => absurd (q43.mp h) h43⟩⟩⟩⟩)
        refine cx_inc hcR hpl (ps_ae_of (ps_ad_bd (ps_ad_pr hE hpl) (fun p1 x _ h3 => ps_ae_sl hE sc _ _ _ h3))) (fun G1 hc1 => ?_)
        refine cx_go (hA sc (p + 1) hpl) hc1 hd0 (by omega) (by omega) (ps_ad_pr hE hpl) (fun p1 x h3 => ps_ae_sl hE sc _ _ _ h3) (fun p1 A r1 W1 G2 k2 n2 e2 h1 h2 hw1 hc2 => ?_)
        exact cx_operate (cx_perm hc2 (List.Perm.swap _ _ _)) hd (by omega) (fun s1 s2 G3 hc3 => ih p1 _ _ _ G3 _ _ (by omega) (by omega) (fr_is_op (k := 5) (by omega) hw hw1) hc3)
      · have e : ps_sl tx L E sc (r + 1) p F = .inr (p, F) := by simp only [ps_sl, if_neg (fun h9 => h9.elim h43 h45 : ¬ (rd_ch tx L p = 43 ∨ rd_ch tx L p = 45))]
        exact cx_g2 hc (cx_g1 hc ⟨fun _ => cx_fin (cx_R hc e) hw, fun _ => cx_peek hc hd ⟨fun h => absurd (q43.mp h) h43, fun _ => cx_peek hc hd ⟨fun _ => cx_fin (cx_R hc e) hw, fun h => absurd (q45.mp h) h45⟩⟩⟩)
theorem rc_sum (hA : rd_CM rd rt nb L tx ill mX3_product (ps_pr tx L E) [.int dp] d0 9) (hE : ∀ sc p, p ≤ L → ps_ad L p (E sc p)) (hd : 9 ≤ d) (hd0 : d0 + 1 ≤ d) : rd_CM rd rt nb L tx ill mX3_sum (ps_su tx L E) [.int dp] d 9 := by
  intro sc p hp G0 l ls G k n hst hb
  refine tq_X3_sum (by omega) ?_
  unfold wq_X3_sum
  have hc := cx_begin hst hb
  exact cx_go (hA sc p hp) (KK := fun p1 F => ps_sl tx L E sc L p1 F) hc hd0 (by omega) (by omega) (ps_ad_pr hE hp) (fun p1 x h3 => ps_ae_sl hE sc _ _ _ h3) (fun p1 A r1 W1 G2 k2 n2 e2 h1 h2 hw1 hc2 => ⟨L + 1, l_sums hA hE hd hd0 L p1 A W1 _ G2 k2 n2 (by omega) (by omega) hw1 hc2⟩)
def ps_cx (tx : Nat → Nat) (L : Nat) (E : List Nat → Nat → ps_Q fr_F) (sc : List Nat) (p1 : Nat) (F : fr_F) : ps_Q fr_F := if rd_ch tx L p1 = 60 ∨ rd_ch tx L p1 = 126 then ps_bd (ps_su tx L E sc (p1 + 1)) (fun p2 A => .inr (p2, fr_op (if rd_ch tx L p1 = 60 then 7 else 8) F A)) else .inr (p1, F)
theorem ps_ae_cx (hE : ∀ sc p, p ≤ L → ps_ad L p (E sc p)) {sc : List Nat} {p1 : Nat} {F : fr_F} (hp : p1 ≤ L) : ps_ae L p1 (ps_cx tx L E sc p1 F) := by
  unfold ps_cx
  split
  · next h =>
    have hpl : p1 < L := rd_ch_in (tx := tx) (by omega)
    exact ps_ae_of (ps_ad_le (Nat.le_succ p1) (ps_ad_bd (ps_ad_su hE hpl) (fun p2 x _ h3 => ⟨Nat.le_refl _, h3⟩)))
  · exact ⟨Nat.le_refl _, hp⟩
theorem rc_comparison (hA : rd_CM rd rt nb L tx ill mX3_sum (ps_su tx L E) [.int dp] d0 9) (hE : ∀ sc p, p ≤ L → ps_ad L p (E sc p)) (hd : 9 ≤ d) (hd0 : d0 + 1 ≤ d) : rd_CM rd rt nb L tx ill mX3_comparison (ps_cm tx L E) [.int dp] d 9 := by
  intro sc p hp G0 l ls G k n hst hb
  refine tq_X3_comparison (by omega) ?_
  unfold wq_X3_comparison
  have hc := cx_begin hst hb
  refine cx_go (hA sc p hp) (KK := ps_cx tx L E sc) hc hd0 (by omega) (by omega) (ps_ad_su hE hp) (fun p1 x h3 => ps_ae_cx hE h3) (fun p1 F r1 W1 G2 k2 n2 e2 h1 h2 hw1 hc2 => ?_)
  have hch := cx_ch hc p1
  have q60 : nI (rd_ch tx L p1) = 60 ↔ rd_ch tx L p1 = 60 := nI_eq (b := 60) (by omega) (by omega)
  have q126 : nI (rd_ch tx L p1) = 126 ↔ rd_ch tx L p1 = 126 := nI_eq (b := 126) (by omega) (by omega)
  have hK : ∀ m p2 A, p2 ≤ L → ps_ae L p2 (.inr (p2, fr_op m F A) : ps_Q fr_F) := fun m p2 A h => ⟨Nat.le_refl _, h⟩
  by_cases h60 : rd_ch tx L p1 = 60
  · have hpl : p1 < L := rd_ch_in (tx := tx) (by omega)
    have e : ps_cx tx L E sc p1 F = ps_bd (ps_su tx L E sc (p1 + 1)) (fun p2 A => .inr (p2, fr_op 7 F A)) := by unfold ps_cx; rw [if_pos (Or.inl h60), if_pos h60]
    refine cx_peek hc2 hd ⟨fun _ => ?_, fun h => absurd (q60.mpr h60) h⟩
    refine cx_inc (cx_R hc2 e) hpl (ps_ae_of (ps_ad_bd (ps_ad_su hE hpl) (fun p1 x _ h3 => hK _ _ _ h3))) (fun G1 hc1 => ⟨fun h => absurd (q60.mpr h60) h, fun _ => ?_⟩)
    refine cx_go (hA sc (p1 + 1) hpl) hc1 hd0 (by omega) (by omega) (ps_ad_su hE hpl) (fun p1 x h3 => hK _ _ _ h3) (fun p2 A r2 W2 G3 k3 n3 e3 h3 h4 hw2 hc3 => ?_)
    exact cx_operate (cx_perm hc3 (List.Perm.swap _ _ _)) hd (by omega) (fun s1 s2 G3 hc3 => cx_fin hc3 (fr_is_op (k := 7) (by omega) hw1 hw2))
  · by_cases h126 : rd_ch tx L p1 = 126
    · have hpl : p1 < L := rd_ch_in (tx := tx) (by omega)
      have e : ps_cx tx L E sc p1 F = ps_bd (ps_su tx L E sc (p1 + 1)) (fun p2 A => .inr (p2, fr_op 8 F A)) := by unfold ps_cx; rw [if_pos (Or.inr h126), if_neg h60]
      refine cx_peek hc2 hd ⟨fun h => absurd (q60.mp h) h60, fun _ => ⟨fun h => absurd (q126.mpr h126) h, fun _ => ?_⟩⟩
      refine cx_inc (cx_R hc2 e) hpl (ps_ae_of (ps_ad_bd (ps_ad_su hE hpl) (fun p1 x _ h3 => hK _ _ _ h3))) (fun G1 hc1 => ⟨fun _ => ?_, fun h => absurd (q60.mp h) h60⟩)
      refine cx_go (hA sc (p1 + 1) hpl) hc1 hd0 (by omega) (by omega) (ps_ad_su hE hpl) (fun p1 x h3 => hK _ _ _ h3) (fun p2 A r2 W2 G3 k3 n3 e3 h3 h4 hw2 hc3 => ?_)
      exact cx_operate (cx_perm hc3 (List.Perm.swap _ _ _)) hd (by omega) (fun s1 s2 G3 hc3 => cx_fin hc3 (fr_is_op (k := 8) (by omega) hw1 hw2))
    · have e : ps_cx tx L E sc p1 F = .inr (p1, F) := by unfold ps_cx; rw [if_neg (fun h9 => h9.elim h60 h126)]
      exact cx_peek hc2 hd ⟨fun h => absurd (q60.mp h) h60, fun _ => ⟨fun _ => cx_fin (cx_R hc2 e) hw1, fun h => absurd (q126.mp h) h126⟩⟩
end RA
