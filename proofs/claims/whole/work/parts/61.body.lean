/-! MATCH; BODIES -/
section MB
variable {S0 S : rm_S} {L p p0 m lo lv : Nat} {tx : Nat → Nat} {N : Nat → nd_T} {sc : List Nat} {f : rf_T} {FR : List rf_T} {HD : List (Int32 × Int32)} {VS SG : List Nat} {E : List Nat → Nat → ps_Q fr_F}
theorem cz_F_app {cs : List cz_T} {x : cz_T} : cz_F (cs ++ [x]) = cz_F cs ++ [(x.2.1, fr_cb (x.2.1 % 4) x.2.2.2)] := by unfold cz_F; rw [List.map_append]; rfl
theorem sim_cs {n a m1 wa : Nat} {A : fr_F} {N0 : Nat → nd_T} (hX : SX S0 L tx E (FR.length + 1)) (hE : ∀ sc p, p ≤ L → ps_ad L p (E sc p)) (ht : rt_ok S0 L tx) (hmt : f.2.2.2.2.2.2.2 = nI n) (hb0 : bd_ok p0 n sc HD VS SG 0) : ∀ (r mm seen p : Nat) (cs : List cz_T) (N : Nat → nd_T) (m wb : Nat) (S : rm_S), mm + r = 8 → cs.length = mm → (∀ t, t < 8 → (seen.testBit t = true ↔ ∃ x ∈ cs, x.2.1 = t)) → (cs.map (fun x => x.2.1)).Nodup → (∀ x ∈ cs, x.2.1 < 8) → p ≤ L → rp S0 p N m sc (f :: FR) HD VS SG 3 (if mm ≠ 0 ∧ rd_ch tx L p = 125 then 1 else 0) S → n < m → (N n).1 = 8 → (N n).2.2.1 = a :: cs.map (fun x => x.1) → (N n).2.2.2.2 = false → gen_is N (n + 1) m1 a A wa → cz N wb m1 cs m → (∀ i, i < n → N i = N0 i) → m + 2 * p0 + 4 ≤ n + 2 * p → wb + 3 * mm + 6 * p0 + 6 ≤ 6 * p → wa + 9 + 6 * p0 ≤ 6 * p → out (ps_bd (ps_cs tx L E sc r mm seen p (cz_F cs)) (fun p3 cs => ps_xp tx L 125 p3 (fun p4 => .inr (p4, fr_ma A cs)))) (ILL S0 S) (fun p4 F => ∃ (T : rm_S) (N' : Nat → nd_T) (m' w : Nat), rp S0 p4 N' m' sc (f :: FR) HD VS SG 3 0 T ∧ (∀ i, i < n → N' i = N0 i) ∧ gen_is N' n m' n F w ∧ (N' n).2.2.2.2 = false ∧ m' + 1 + 2 * p0 ≤ n + 2 * p4 ∧ w + 3 + 6 * p0 ≤ 6 * p4 ∧ ∀ S2 : rm_S, (∀ Q : rm_S → Prop, Q S2 → wp_completed T (nI n) Q) → RTs S S2) := by
  have hL := ht.2.1
  obtain ⟨g1, g2, g3, g4, g5⟩ := hb0
  have fin : ∀ (mm p : Nat) (cs : List cz_T) (N : Nat → nd_T) (m wb : Nat) (S : rm_S), mm ≤ 8 → cs.length = mm → mm ≠ 0 → p ≤ L → rp S0 p N m sc (f :: FR) HD VS SG 3 (if mm ≠ 0 ∧ rd_ch tx L p = 125 then 1 else 0) S → n < m → (N n).1 = 8 → (N n).2.2.1 = a :: cs.map (fun x => x.1) → (N n).2.2.2.2 = false → gen_is N (n + 1) m1 a A wa → cz N wb m1 cs m → (∀ i, i < n → N i = N0 i) → m + 2 * p0 + 4 ≤ n + 2 * p → wb + 3 * mm + 6 * p0 + 6 ≤ 6 * p → wa + 9 + 6 * p0 ≤ 6 * p → rd_ch tx L p = 125 → ∃ (T : rm_S) (N' : Nat → nd_T) (m' w : Nat), rp S0 (p + 1) N' m' sc (f :: FR) HD VS SG 3 0 T ∧ (∀ i, i < n → N' i = N0 i) ∧ gen_is N' n m' n (fr_ma A (cz_F cs)) w ∧ (N' n).2.2.2.2 = false ∧ m' + 1 + 2 * p0 ≤ n + 2 * (p + 1) ∧ w + 3 + 6 * p0 ≤ 6 * (p + 1) ∧ ∀ S2 : rm_S, (∀ Q : rm_S → Prop, Q S2 → wp_completed T (nI n) Q) → RTs S S2 := by
    intro mm p cs N m wb S hmm hl hm0 hp h hn n1 n2 n3 hga hcz hN0 b1 b2 b3 hc
    rw [if_pos ⟨hm0, hc⟩] at h
    have c1 := rp_at5 (rp_en h 0) (p + 1)
    refine ⟨_, N, m, 6 * p + 6 - (6 * p0 + 3), c1, hN0, gen_match (cs := cs) ⟨n1, rfl, n2⟩ hga hcz (Nat.le_refl _) (by omega) (by omega) (by omega), n3, by omega, by omega, fun S2 hS2 => rt_e h hmt hS2⟩
  have hno : ∀ (mm p : Nat) (cs : List cz_T) (N : Nat → nd_T) (m wb : Nat) (S : rm_S), mm ≤ 8 → cs.length = mm → (∀ x ∈ cs, x.2.1 < 8) → p ≤ L → rp S0 p N m sc (f :: FR) HD VS SG 3 0 S → n < m → (N n).2.2.1 = a :: cs.map (fun x => x.1) → gen_is N (n + 1) m1 a A wa → cz N wb m1 cs m → (¬ (65 ≤ rd_ch tx L p ∧ rd_ch tx L p ≤ 72) ∨ ∃ x ∈ cs, x.2.1 = rd_ch tx L p - 65) → ILL S0 S p := by
    intro mm p cs N m wb S hmm hl h8 hp h hn n2 hga hcz h9
    exact case_no ht hp h hmt hn n2 (cz_get (N := N) hcz (fun i _ i2 => ⟨nq.rf, i2⟩)) h8 (by omega) h9
  intro r
  induction r with
  | zero =>
    intro mm seen p cs N m wb S hr hl hsn hnd h8 hp h hn n1 n2 n3 hga hcz hN0 b1 b2 b3
    simp only [ps_cs, ps_bd_r]
    by_cases hc : rd_ch tx L p = 125
    · rw [ps_xp_t hc]
      exact fin mm p cs N m wb S (by omega) hl (by omega) hp h hn n1 n2 n3 hga hcz hN0 b1 b2 b3 hc
    · rw [ps_xp_f hc]
      rw [if_neg (fun h9 => hc h9.2)] at h
      refine hno mm p cs N m wb S (by omega) hl h8 hp h hn n2 hga hcz ?_
      by_cases hk : 65 ≤ rd_ch tx L p ∧ rd_ch tx L p ≤ 72
      · refine Or.inr (Classical.byContradiction (fun h9 => ?_))
        have hni : rd_ch tx L p - 65 ∉ cs.map (fun x => x.2.1) := fun h7 => by
          obtain ⟨x, x1, x2⟩ := List.mem_map.mp h7; exact h9 ⟨x, x1, x2⟩
        have := nd_pig 8 ((rd_ch tx L p - 65) :: cs.map (fun x => x.2.1)) (List.nodup_cons.mpr ⟨hni, hnd⟩) (fun c hc9 => by
          rcases List.mem_cons.mp hc9 with rfl | hc9
          · omega
          · obtain ⟨x, x1, rfl⟩ := List.mem_map.mp hc9; exact h8 x x1)
        rw [List.length_cons, List.length_map] at this
        omega
      · exact Or.inl hk
  | succ r ih =>
    intro mm seen p cs N m wb S hr hl hsn hnd h8 hp h hn n1 n2 n3 hga hcz hN0 b1 b2 b3
    by_cases hc : mm = 0 ∨ ¬ rd_ch tx L p = 125
    · have h0 : ¬ (mm ≠ 0 ∧ rd_ch tx L p = 125) := fun h9 => hc.elim h9.1 (fun h7 => h7 h9.2)
      rw [if_neg h0] at h
      by_cases hk : (65 ≤ rd_ch tx L p ∧ rd_ch tx L p ≤ 72) ∧ ¬ seen.testBit (rd_ch tx L p - 65) = true
      · have es : ps_bd (ps_cs tx L E sc (r + 1) mm seen p (cz_F cs)) (fun p3 cs => ps_xp tx L 125 p3 (fun p4 => .inr (p4, fr_ma A cs))) = ps_bd (ps_cb tx L E sc (rd_ch tx L p - 65) (p + 1)) (fun p1 B => ps_bd (ps_cs tx L E sc r (mm + 1) (seen ||| 2 ^ (rd_ch tx L p - 65)) p1 (cz_F cs ++ [(rd_ch tx L p - 65, B)])) (fun p3 cs => ps_xp tx L 125 p3 (fun p4 => .inr (p4, fr_ma A cs)))) := by
          simp only [ps_cs, if_pos hc, if_pos hk, ps_bd_a]
        rw [es]
        have hpl : p < L := rd_ch_in (tx := tx) (by omega)
        have hnew : ¬ ∃ x ∈ cs, x.2.1 = rd_ch tx L p - 65 := fun h9 => hk.2 ((hsn _ (by omega)).mpr h9)
        refine out_bd (out_mono (case_yes hX hE ht hpl h hmt hn n2 n3 hga hcz (by omega) hk.1 hnew h8 ⟨by omega, by omega, by omega, by omega, by omega⟩) (fun q hq => hq) (fun p' B e hq _ => ?_))
        obtain ⟨S', N', m', v, w, F, d1, d2, rfl, d4, d5, d6, d7, d8, d9, da, db, dc⟩ := hq
        have hadv := ps_ad_cbd (tx := tx) hE (sc := sc) (tag := rd_ch tx L p - 65) hpl
        rw [e] at hadv
        have hp' : p + 1 < p' := hadv.1
        have hp'L : p' ≤ L := hadv.2
        have hrec := ih (mm + 1) (seen ||| 2 ^ (rd_ch tx L p - 65)) p' (cs ++ [(m, rd_ch tx L p - 65, v, F)]) N' m' (max wb w) S' (by omega) (by rw [List.length_append, hl]; rfl) (fun t ht8 => ?_) ?_ (fun x hx => ?_) hp'L ?_ (by omega) (d5.trans n1) d6 d7 d9 da (fun i hi9 => (d4 i hi9).trans (hN0 i hi9)) (by omega) (by omega) (by omega)
        · rw [cz_F_app] at hrec
          refine out_mono hrec (fun q hq => ?_) (fun p4 G _ hq => ?_)
          · obtain ⟨S5, e1, e2⟩ := hq; exact ⟨S5, d1.tr e1, e2⟩
          · obtain ⟨T, N'', m'', w', t1, t2, t3, t4, t5, t6, t7⟩ := hq
            exact ⟨T, N'', m'', w', t1, t2, t3, t4, t5, t6, fun S2 hS2 => d1.tr (t7 S2 hS2)⟩
        · rw [Nat.testBit_or, Bool.or_eq_true, hsn t ht8, Nat.testBit_two_pow]
          simp only [decide_eq_true_eq]
          constructor
          · rintro (⟨x, x1, x2⟩ | h9)
            · exact ⟨x, List.mem_append_left _ x1, x2⟩
            · exact ⟨_, List.mem_append_right _ List.mem_cons_self, h9⟩
          · rintro ⟨x, x1, x2⟩
            rcases List.mem_append.mp x1 with x1 | x1
            · exact Or.inl ⟨x, x1, x2⟩
            · rw [List.mem_singleton] at x1; subst x1; exact Or.inr x2
        · rw [List.map_append]
          refine List.nodup_append.mpr ⟨hnd, List.nodup_cons.mpr ⟨List.not_mem_nil, List.nodup_nil⟩, fun x hx y hy exy => ?_⟩
          have hy : y ∈ [rd_ch tx L p - 65] := hy
          rw [List.mem_singleton] at hy
          obtain ⟨z, z1, z2⟩ := List.mem_map.mp hx
          exact hnew ⟨z, z1, z2.trans (exy.trans hy)⟩
        · rcases List.mem_append.mp hx with hx | hx
          · exact h8 x hx
          · rw [List.mem_singleton] at hx; subst hx; show rd_ch tx L p - 65 < 8; omega
        · have e1 : (if mm + 1 ≠ 0 ∧ rd_ch tx L p' = 125 then (1 : Int32) else 0) = if rd_ch tx L p' = 125 then 1 else 0 := by
            by_cases h125 : rd_ch tx L p' = 125
            · rw [if_pos ⟨by omega, h125⟩, if_pos h125]
            · rw [if_neg (fun h9 => h125 h9.2), if_neg h125]
          rw [e1]; exact d2
      · have es : ps_bd (ps_cs tx L E sc (r + 1) mm seen p (cz_F cs)) (fun p3 cs => ps_xp tx L 125 p3 (fun p4 => .inr (p4, fr_ma A cs))) = .inl p := by
          simp only [ps_cs, if_pos hc, if_neg hk]; rfl
        rw [es]
        refine hno mm p cs N m wb S (by omega) hl h8 hp h hn n2 hga hcz ?_
        by_cases hk1 : 65 ≤ rd_ch tx L p ∧ rd_ch tx L p ≤ 72
        · refine Or.inr ((hsn _ (by omega)).mp (Classical.byContradiction (fun h9 => hk ⟨hk1, h9⟩)))
        · exact Or.inl hk1
    · have hc1 : rd_ch tx L p = 125 := Classical.byContradiction (fun h9 => hc (Or.inr h9))
      have hm0 : mm ≠ 0 := fun h9 => hc (Or.inl h9)
      have es : ps_bd (ps_cs tx L E sc (r + 1) mm seen p (cz_F cs)) (fun p3 cs => ps_xp tx L 125 p3 (fun p4 => .inr (p4, fr_ma A cs))) = ps_xp tx L 125 p (fun p4 => .inr (p4, fr_ma A (cz_F cs))) := by
        simp only [ps_cs, if_neg hc]; rfl
      rw [es, ps_xp_t hc1]
      exact fin mm p cs N m wb S (by omega) hl hm0 hp h hn n1 n2 n3 hga hcz hN0 b1 b2 b3 hc1
/-- what is compared twice -/
theorem cmp_ill {c : Int32} (ht : rt_ok S0 L tx) (hp : p ≤ L) (h : rp S0 p N m sc (fc f c :: FR) HD VS SG 2 0 S) (hc : ¬ c = 0) (h1 : ¬ rd_atomb (rd_ch tx L p) = true) (h2 : ¬ rd_ch tx L p = 42) (h3 : ¬ rd_ch tx L p = 43) (h4 : ¬ rd_ch tx L p = 45) (h5 : isCmp tx L p) : ILL S0 S p := by
  have hch := rt_ch ht p
  have htop := rp_top h
  have q42 : nI (rd_ch tx L p) = 42 ↔ rd_ch tx L p = 42 := nI_eq (b := 42) (by omega) (by omega)
  have q43 : nI (rd_ch tx L p) = 43 ↔ rd_ch tx L p = 43 := nI_eq (b := 43) (by omega) (by omega)
  have q45 : nI (rd_ch tx L p) = 45 ↔ rd_ch tx L p = 45 := nI_eq (b := 45) (by omega) (by omega)
  have h24 : S.2 24 FR.length = c := htop.2.2.2.2.2.2.2.2.2.1
  have il := il_pa (k := 24) (i := FR.length) (v := 1) (rp_il6 h) (by decide)
  refine ⟨_, rt_2 h (fun Q hQ => rp_lk ht h hp (w_atomb hch ⟨fun _ => ⟨fun _ => ⟨fun h9 => absurd (q43.mp h9) h3, fun _ => ⟨fun _ => ⟨fun _ => ?_, fun h60 => ⟨fun h126 => ?_, fun _ => ?_⟩⟩, fun h9 => absurd (q45.mp h9) h4⟩⟩, fun h9 => absurd (q42.mp h9) h2⟩, fun h9 => absurd (ch_b0.mpr h1) h9⟩)), il⟩
  · rw [htop.1, htop.2.2.1, h24]
    exact ⟨htop.2.1, fun h9 => absurd h9 hc, fun _ => ⟨htop.2.1, hQ⟩⟩
  · exact absurd h5 (fun h9 => h9.elim (fun e => h60 (by rw [e]; rfl)) (fun e => h126 (by rw [e]; rfl)))
  · rw [htop.1, htop.2.2.1, h24]
    exact ⟨htop.2.1, fun h9 => absurd h9 hc, fun _ => ⟨htop.2.1, hQ⟩⟩
/-- behind a comparison, nothing goes on -/
theorem beh_end {F : fr_F} (ht : rt_ok S0 L tx) (hp : p ≤ L) (hpd : pdF S0 p0 p sc f FR HD VS SG lo N 1 F S) (hf : f.2.2.2.2.1 = SG.length) (hg : SG.length < 100) (hv : VS.length < 99) (h1 : ¬ rd_atomb (rd_ch tx L p) = true) (h2 : ¬ rd_ch tx L p = 42) (h3 : ¬ rd_ch tx L p = 43) (h4 : ¬ rd_ch tx L p = 45) (h5 : ¬ isCmp tx L p) : ∃ (T : rm_S) (N' : Nat → nd_T) (m' v w : Nat), rp S0 p N' m' sc (f :: FR) HD VS SG 2 0 T ∧ (∀ i, i < lo → N' i = N i) ∧ gen_is N' lo m' v F w ∧ (N' v).2.2.2.2 = false ∧ m' + 1 + 2 * p0 ≤ lo + 2 * p ∧ w + 3 + 6 * p0 ≤ 6 * p ∧ ∀ Q : rm_S → Prop, ((0 ≤ f.2.2.2.2.2.2.2 → wp_addChild T f.2.2.2.2.2.2.2 (nI v) (fun S27 => wp_want S27 123 (fun S29 => Q (rm_pf S29 33 3)))) ∧ (¬ 0 ≤ f.2.2.2.2.2.2.2 → wp_completed T (nI v) Q)) → wp_readBehind S Q := by
  have hch := rt_ch ht p
  have q42 : nI (rd_ch tx L p) = 42 ↔ rd_ch tx L p = 42 := nI_eq (b := 42) (by omega) (by omega)
  have q43 : nI (rd_ch tx L p) = 43 ↔ rd_ch tx L p = 43 := nI_eq (b := 43) (by omega) (by omega)
  have q45 : nI (rd_ch tx L p) = 45 ↔ rd_ch tx L p = 45 := nI_eq (b := 45) (by omega) (by omega)
  have q60 : nI (rd_ch tx L p) = 60 ↔ rd_ch tx L p = 60 := nI_eq (b := 60) (by omega) (by omega)
  have q126 : nI (rd_ch tx L p) = 126 ↔ rd_ch tx L p = 126 := nI_eq (b := 126) (by omega) (by omega)
  obtain ⟨Nr, mr, VSr, SGr, hraw⟩ := hpd.1
  obtain ⟨S', N', m', v, t1, t2, t3, t4, t5, t6, t7, w, t8, t9⟩ := hpd.2 f.2.2.2.2.2.2.1
  rw [rm_pa_id (rp_top hraw).2.2.2.2.2.2.2.2.2.1] at t1
  have t2 : rp S0 p N' m' sc (f :: FR) HD (v :: VS) SG 2 0 S' := t2
  have htop := rp_top t2
  have e29 : S'.1 29 - 1 = nI VS.length := by rw [t2.2.2.2.2.2.2.2.1.1]; exact nI_pred _
  have e30 : S'.2 30 VS.length = nI v := by have := t2.2.2.2.2.2.2.2.1.2.1; rw [List.length_map] at this; exact this
  have hT : rp S0 p N' m' sc (f :: FR) HD VS SG 2 0 (rm_pf S' 29 (nI VS.length)) := by
    obtain ⟨k1, k2, k3, k4, k5, k6, k7, k8, k9, ka, kb⟩ := t2
    exact ⟨rx_pf k1 (by decide), k2, k3, k4, k5, k6, k7, ⟨rfl, k8.2.2⟩, k9, ka, kb⟩
  refine ⟨_, N', m', v, w, hT, t3, t8, t4, t7, t9, fun Q hQ => rp_lk ht hraw hp (w_atomb hch ⟨fun _ => ⟨fun _ => ⟨fun h9 => absurd (q43.mp h9) h3, fun _ => ⟨fun _ => ⟨fun h9 => absurd (Or.inl (q60.mp h9)) h5, fun _ => ⟨fun _ => ?_, fun h9 => absurd (Or.inr (q126.mp h9)) h5⟩⟩, fun h9 => absurd (q45.mp h9) h4⟩⟩, fun h9 => absurd (q42.mp h9) h2⟩, fun h9 => absurd (ch_b0.mpr h1) h9⟩)⟩
  refine t1 1 (Nat.le_refl _) (Nat.le_refl _) _ _ (st_end (least := 1) t2 (by omega) (by omega) (by omega) (Or.inl hf.symm) ?_)
  show vp_in ((S'.1 29) - 1) 100 ∧ (vp_in ((S'.1 17) - 1) 8 ∧ _)
  rw [e29, htop.1]
  refine ⟨nI_vp (by omega) (by omega), htop.2.1, ?_⟩
  rw [htop.2.2.1, htop.2.2.2.2.2.2.2.2.2.2, nI_clamp (by omega), e30]
  exact hQ
end MB
