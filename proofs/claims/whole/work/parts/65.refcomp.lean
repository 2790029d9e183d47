/-! THE REFERENCE'S compile -/
theorem l_c12 {w : Nat → Nat} {ct : Nat} (hct : ct ≤ 90) (hw : ∀ j, w j < 65536) : ∀ (r i : Nat) (g : Nat → Nat) (m : Nat) (T : rm_S), i + r = ct → m ≤ i → T.1 1 = nI ct → (∀ j, j < ct → T.2 2 j = nI (w j)) → T.1 3 = nI m → (∀ j, j < m → T.2 4 j = nI (g j)) → ∃ T' : rm_S, (∀ (Q : Int32 → rm_S → Prop) (K : Int32 → rm_S → Prop), (∀ x, K x T') → wl_compile_12 Q K (r + 1) (nI i) T) ∧ T'.1 3 = nI (rd_lb w r i g m).2 ∧ (∀ j, j < (rd_lb w r i g m).2 → T'.2 4 j = nI ((rd_lb w r i g m).1 j)) ∧ (∀ k, k ≠ 3 → T'.1 k = T.1 k) ∧ ∀ k, k ≠ 4 → T'.2 k = T.2 k := by
  intro r
  induction r with
  | zero =>
    intro i g m T hi hm h1 h2 h3 h4
    refine ⟨T, fun Q K hK => ⟨fun _ => hK _, fun h9 => absurd ?_ h9⟩, h3, h4, fun _ _ => rfl, fun _ _ => rfl⟩
    rw [h1]; exact nI_le (by omega) (by omega)
  | succ r ih =>
    intro i g m T hi hm h1 h2 h3 h4
    have hnl : ¬ T.1 1 ≤ nI i := by rw [h1]; exact nI_ge (by omega) (by omega)
    have e2 : T.2 2 (nI i).toNatClampNeg = nI (w i) := by rw [nI_clamp (by omega)]; exact h2 i (by omega)
    have q32 : nI (w i) = 32 ↔ w i = 32 := nI_eq (b := 32) (by have := hw i; omega) (by omega)
    by_cases he : w i = 32
    · obtain ⟨T', a1, a2, a3, a4, a5⟩ := ih (i + 1) g m T (by omega) (by omega) h1 h2 h3 h4
      have es : rd_lb w (r + 1) i g m = rd_lb w r (i + 1) g m := if_pos he
      rw [es]
      refine ⟨T', fun Q K hK => ⟨fun h9 => absurd h9 hnl, fun _ => ⟨nI_vp (by omega) (by omega), fun _ => ?_, fun h9 => absurd (by rw [e2]; exact q32.mpr he) h9⟩⟩, a2, a3, a4, a5⟩
      rw [nI_1]; exact a1 Q K hK
    · have es : rd_lb w (r + 1) i g m = rd_lb w r (i + 1) (rd_up g m (w i)) (m + 1) := if_neg he
      have e3 : (T.1 3).toNatClampNeg = m := by rw [h3]; exact nI_clamp (by omega)
      obtain ⟨T', a1, a2, a3, a4, a5⟩ := ih (i + 1) (rd_up g m (w i)) (m + 1) (rm_pf (rm_pa T 4 m (nI (w i))) 3 (nI (m + 1))) (by omega) (by omega) h1 h2 rfl (fun j hj => by
        show upd (T.2 4) m (nI (w i)) j = nI (rd_up g m (w i) j)
        unfold rd_up
        by_cases ej : j = m
        · rw [ej, upd_s, if_pos rfl]
        · rw [upd_n ej, if_neg ej]; exact h4 j (by omega))
      rw [es]
      refine ⟨T', fun Q K hK => ⟨fun h9 => absurd h9 hnl, fun _ => ⟨nI_vp (by omega) (by omega), fun h9 => ?_, fun _ => ⟨nI_vp (by omega) (by omega), by rw [h3]; exact nI_vp (by omega) (by omega), ?_⟩⟩⟩, a2, a3, fun k hk => ?_, fun k hk => ?_⟩
      · rw [e2] at h9; exact absurd (q32.mp h9) he
      · rw [e2, e3, h3, nI_1, nI_1, rd_nar (hw i)]; exact a1 Q K hK
      · rw [a4 k hk]; show (if k = 3 then _ else T.1 k) = _; rw [if_neg hk]
      · rw [a5 k hk]; show (if k = 4 then _ else T.2 k) = _; rw [if_neg hk]
theorem l_c163 {b : Nat} (hb : b ≤ 120) : ∀ (r v : Nat) (T : rm_S), v + r = 3 * b → T.1 35 = nI b → (∀ j, j < v → T.2 38 j = T.2 36 j) → ∃ T' : rm_S, (∀ (Q : Int32 → rm_S → Prop) (K : Int32 → rm_S → Prop), (∀ x, K x T') → wl_compile_163 Q K (r + 1) (nI v) T) ∧ (∀ j, j < 3 * b → T'.2 38 j = T.2 36 j) ∧ T'.1 = T.1 ∧ ∀ k, k ≠ 38 → T'.2 k = T.2 k := by
  intro r
  induction r with
  | zero =>
    intro v T hv h35 h
    refine ⟨T, fun Q K hK => ⟨fun _ => hK _, fun h9 => absurd ?_ h9⟩, fun j hj => h j (by omega), rfl, fun _ _ => rfl⟩
    rw [h35, nI_m3]; exact nI_le (by omega) (by omega)
  | succ r ih =>
    intro v T hv h35 h
    obtain ⟨T', a1, a2, a3, a4⟩ := ih (v + 1) (rm_pa T 38 v (T.2 36 v)) (by omega) h35 (fun j hj => by
      show upd (T.2 38) v (T.2 36 v) j = T.2 36 j
      by_cases ej : j = v
      · rw [ej, upd_s]
      · rw [upd_n ej]; exact h j (by omega))
    refine ⟨T', fun Q K hK => ⟨fun h9 => ?_, fun _ => ⟨nI_vp (by omega) (by omega), nI_vp (by omega) (by omega), ?_⟩⟩, a2, a3, fun k hk => ?_⟩
    · rw [h35, nI_m3] at h9; exact absurd h9 (nI_ge (by omega) (by omega))
    · rw [nI_clamp (by omega), nI_1]; exact a1 Q K hK
    · rw [a4 k hk]; show (if k = 38 then _ else T.2 k) = _; rw [if_neg hk]
theorem rd_ch_eq {tx ty : Nat → Nat} {L : Nat} (h : ∀ j, j < L → tx j = ty j) : rd_ch tx L = rd_ch ty L := by
  funext p; unfold rd_ch
  by_cases hp : p < L
  · rw [if_pos hp, if_pos hp, h p hp]
  · rw [if_neg hp, if_neg hp]
/-- the text without its blanks doesn't hang on what stood there before -/
theorem rd_lb_eq {w : Nat → Nat} : ∀ (r i : Nat) (g h : Nat → Nat) (m : Nat), (∀ j, j < m → g j = h j) → ∀ j, j < (rd_lb w r i g m).2 → (rd_lb w r i g m).1 j = (rd_lb w r i h m).1 j := by
  intro r
  induction r with
  | zero => intro i g h m hg; exact hg
  | succ r ih =>
    intro i g h m hg
    simp only [rd_lb]
    split
    · exact ih _ _ _ _ hg
    · refine ih _ _ _ _ (fun j hj => ?_)
      unfold rd_up
      by_cases ej : j = m
      · rw [if_pos ej, if_pos ej]
      · rw [if_neg ej, if_neg ej]; exact hg j (by omega)
def rk_s : List Nat := [37, 43, 45, 46, 47, 49, 50, 51, 53, 54, 55]
def rk_a : List Nat := [2, 38, 44, 52]
theorem ref_compile {S : rm_S} {w : Nat → Nat} {ct : Nat} {tx : Nat → Nat} (hct : ct ≤ 90) (hw : ∀ j, w j < 65536) (h1 : S.1 1 = nI ct) (h2 : ∀ j, j < ct → S.2 2 j = nI (w j)) (htx : ∀ j, tx j < 65536) (hty : ∀ j, j < ch_L w ct → tx j = (rd_lb w ct 0 (fun _ => 0) 0).1 j) : (∀ q : Nat, ps_tx tx (ch_L w ct) = .inl q → ∃ S' : rm_S, (∀ Q : Int32 → rm_S → Prop, Q 0 S' → wp_compile S Q) ∧ S'.1 0 = 1 ∧ S'.1 1 = 0 ∧ S'.1 7 = nI q ∧ (∀ k ∈ rk_s, S'.1 k = S.1 k) ∧ ∀ k ∈ rk_a, S'.2 k = S.2 k) ∧ (∀ F : fr_F, ps_tx tx (ch_L w ct) = .inr F → ∃ S' : rm_S, (∀ Q : Int32 → rm_S → Prop, Q (nI F.1) S' → wp_compile S Q) ∧ S'.1 0 = 0 ∧ S'.1 1 = 0 ∧ S'.1 7 = -1 ∧ S'.1 37 = nI F.1 ∧ cd_l (S'.2 38) (F.2 0) ∧ (F.2 0).length = F.1 ∧ S'.1 43 = S.1 43 ∧ S'.1 45 = 0 ∧ S'.1 46 = 0 ∧ S'.1 47 = 0 ∧ S'.1 49 = 1 ∧ S'.1 50 = 1 ∧ S'.1 51 = 0 ∧ S'.1 53 = 0 ∧ S'.1 54 = 1 ∧ S'.1 55 = 0 ∧ ∀ k ∈ [2, 44, 52], S'.2 k = S.2 k) := by
  have hL : ch_L w ct ≤ ct := by have := (rd_lb_le (w := w) ct 0 (fun _ => 0) 0).2; unfold ch_L; omega
  obtain ⟨T, t1, t2, t3, t4, t5⟩ := l_c12 hct hw ct 0 (fun _ => 0) 0 (rm_pf (rm_pf S 0 0) 3 0) (by omega) (Nat.le_refl _) h1 h2 rfl (fun j hj => absurd hj (Nat.not_lt_zero j))
  have ht : rt_ok (rm_pf (rm_pf (rm_pf T 1 0) 5 0) 6 0) (ch_L w ct) tx := ⟨t2, by omega, fun j hj => by rw [hty j hj]; exact t3 j hj, htx⟩
  obtain ⟨r1, r2⟩ := ref_read ht rfl rfl
  -- what is kept up to the end of readText
  have keepS : ∀ {S9 : rm_S}, rx_ok (rm_pf (rm_pf (rm_pf T 1 0) 5 0) 6 0) S9 → (∀ k ∈ rk_s, S9.1 k = S.1 k) ∧ (∀ k ∈ rk_a, S9.2 k = S.2 k) ∧ S9.1 0 = 0 ∧ S9.1 1 = 0 := by
    intro S9 hx
    refine ⟨fun k hk => ?_, fun k hk => ?_, ?_, ?_⟩
    · have hk2 : k ∈ rx_s ∧ k ≠ 1 ∧ k ≠ 5 ∧ k ≠ 6 ∧ k ≠ 3 ∧ k ≠ 0 := by revert k; decide
      rw [hx.1 k hk2.1]
      show (if k = 6 then _ else if k = 5 then _ else if k = 1 then _ else T.1 k) = S.1 k
      rw [if_neg hk2.2.2.2.1, if_neg hk2.2.2.1, if_neg hk2.2.1, t4 k hk2.2.2.2.2.1]
      show (if k = 3 then _ else if k = 0 then _ else S.1 k) = S.1 k
      rw [if_neg hk2.2.2.2.2.1, if_neg hk2.2.2.2.2.2]
    · have hk2 : k ∈ rx_a ∧ k ≠ 4 := by revert k; decide
      rw [hx.2 k hk2.1]
      show T.2 k = S.2 k
      rw [t5 k hk2.2]; rfl
    · rw [hx.1 0 (by decide)]
      show T.1 0 = 0
      rw [t4 0 (by decide)]; rfl
    · rw [hx.1 1 (by decide)]; rfl
  have keepG : ∀ {S9 S46 : rm_S}, rx_ok (rm_pf (rm_pf (rm_pf T 1 0) 5 0) 6 0) S9 → gk (rm_pf (rm_pf S9 35 0) 39 0) S46 → (∀ k ∈ rk_s, S46.1 k = S.1 k) ∧ (∀ k ∈ rk_a, S46.2 k = S.2 k) ∧ S46.1 0 = 0 ∧ S46.1 1 = 0 ∧ S46.1 3 = nI (ch_L w ct) ∧ S46.1 6 = S9.1 6 := by
    intro S9 S46 hx hg
    obtain ⟨k1, k2, k3, k4⟩ := keepS hx
    refine ⟨fun k hk => ?_, fun k hk => ?_, ?_, ?_, ?_, ?_⟩
    · have hk2 : k ≠ 35 ∧ k ≠ 39 := by revert k; decide
      rw [hg.1 k hk2.1 hk2.2]
      show (if k = 39 then _ else if k = 35 then _ else S9.1 k) = _
      rw [if_neg hk2.2, if_neg hk2.1]; exact k1 k hk
    · have hk2 : k ∉ [10, 14, 36, 40, 41, 42] := by revert k; decide
      rw [hg.2 k hk2]; exact k2 k hk
    · rw [hg.1 0 (by decide) (by decide)]; exact k3
    · rw [hg.1 1 (by decide) (by decide)]; exact k4
    · rw [hg.1 3 (by decide) (by decide)]
      show S9.1 3 = _
      rw [hx.1 3 (by decide)]; exact t2
    · rw [hg.1 6 (by decide) (by decide)]; rfl
  have hsplit : ∀ (p : Nat) (F : fr_F), ps_all tx (ch_L w ct) = .inr (p, F) → ∃ F0 : fr_F, ps_ex tx (ch_L w ct) 6 [] 0 = .inr (p, F0) ∧ ¬ p < ch_L w ct ∧ F = fr_ap F0 (fr_1 0 0) := by
    intro p F e
    unfold ps_all at e
    obtain ⟨p1, F0, e1, e2⟩ := ps_bd_i e
    by_cases hp : p1 < ch_L w ct
    · rw [if_pos hp] at e2; cases e2
    · rw [if_neg hp] at e2
      cases e2
      exact ⟨F0, e1, hp, rfl⟩
  refine ⟨fun q e => ?_, fun F e => ?_⟩
  · rw [ps_all_tx] at e
    cases hps : ps_all tx (ch_L w ct) with
    | inl q' =>
      rw [hps] at e
      have eq : q' = q := Sum.inl.inj e
      subst eq
      obtain ⟨S9, s9, il⟩ := r2 q' hps
      obtain ⟨k1, k2, k3, k4⟩ := keepS il.1
      refine ⟨rm_pf (rm_pf S9 7 (S9.1 5)) 0 1, fun Q hQ => ⟨ct + 1, t1 _ _ (fun x => s9 _ ⟨fun _ => ⟨fun _ => ⟨fun h => absurd h il.2.2, fun _ => ⟨fun h => absurd h il.2.2, fun _ => hQ⟩⟩, fun h => absurd h il.2.2⟩, fun h => absurd h il.2.2⟩)⟩, rfl, k4, il.2.1, fun k hk => ?_, k2⟩
      have hk2 : k ≠ 0 ∧ k ≠ 7 := by revert k; decide
      show (if k = 0 then _ else if k = 7 then _ else S9.1 k) = _
      rw [if_neg hk2.1, if_neg hk2.2]; exact k1 k hk
    | inr y =>
      obtain ⟨p, F⟩ := y
      rw [hps] at e
      obtain ⟨F0, e1, hp, rfl⟩ := hsplit p F hps
      have hsz := ps_all_sz (by omega) hps
      by_cases h120 : 120 < (fr_ap F0 (fr_1 0 0)).1
      · have e : (if 120 < (fr_ap F0 (fr_1 0 0)).1 then (.inl p : Nat ⊕ fr_F) else _) = .inl q := e
        rw [if_pos h120] at e
        have eq : p = q := Sum.inl.inj e
        obtain ⟨S9, N, m, v, w9, s9, hx, x5, x6, xn, x34, xg, xw⟩ := r1 p F0 e1 hp
        obtain ⟨_, mk2⟩ := mk_code xn x34 xg (Nat.le_refl _) xw
        obtain ⟨S46, s46, hg, b, y35, y1, y2⟩ := mk2 h120
        obtain ⟨k1, k2, k3, k4, k5, k6⟩ := keepG hx hg
        have hnl : ¬ S46.1 35 ≤ 120 := by rw [y35]; exact nI_ge (a := 120) y1 (by omega)
        have z6 : S46.1 6 = 0 := k6.trans x6
        refine ⟨rm_pf (rm_pf (rm_pf (rm_pf S46 6 1) 5 (S46.1 3)) 7 (S46.1 3)) 0 1, fun Q hQ => ⟨ct + 1, t1 _ _ (fun x => s9 _ ⟨fun h => absurd x6 h, fun _ => s46 _ ⟨fun h => absurd z6 h, fun _ => ⟨fun h => absurd h hnl, fun _ => hQ⟩⟩⟩)⟩, rfl, k4, ?_, fun k hk => ?_, k2⟩
        · show S46.1 3 = nI q
          rw [k5, ← eq, hsz.2]
        · have hk2 : k ≠ 0 ∧ k ≠ 7 ∧ k ≠ 5 ∧ k ≠ 6 := by revert k; decide
          show (if k = 0 then _ else if k = 7 then _ else if k = 5 then _ else if k = 6 then _ else S46.1 k) = _
          rw [if_neg hk2.1, if_neg hk2.2.1, if_neg hk2.2.2.1, if_neg hk2.2.2.2]; exact k1 k hk
      · have e : (if 120 < (fr_ap F0 (fr_1 0 0)).1 then (.inl p : Nat ⊕ fr_F) else .inr (fr_ap F0 (fr_1 0 0))) = .inl q := e
        rw [if_neg h120] at e; cases e
  · rw [ps_all_tx] at e
    cases hps : ps_all tx (ch_L w ct) with
    | inl q' => rw [hps] at e; cases e
    | inr y =>
      obtain ⟨p, F1⟩ := y
      rw [hps] at e
      obtain ⟨F0, e1, hp, rfl⟩ := hsplit p F1 hps
      by_cases h120 : 120 < (fr_ap F0 (fr_1 0 0)).1
      · have e : (if 120 < (fr_ap F0 (fr_1 0 0)).1 then (.inl p : Nat ⊕ fr_F) else .inr (fr_ap F0 (fr_1 0 0))) = .inr F := e
        rw [if_pos h120] at e; cases e
      · have e : (if 120 < (fr_ap F0 (fr_1 0 0)).1 then (.inl p : Nat ⊕ fr_F) else .inr (fr_ap F0 (fr_1 0 0))) = .inr F := e
        rw [if_neg h120] at e
        have eq : fr_ap F0 (fr_1 0 0) = F := Sum.inr.inj e
        subst eq
        have h120' : F0.1 + 1 ≤ 120 := Nat.le_of_not_lt h120
        obtain ⟨S9, N, m, v, w9, s9, hx, x5, x6, xn, x34, xg, xw⟩ := r1 p F0 e1 hp
        obtain ⟨mk1, _⟩ := mk_code xn x34 xg (Nat.le_refl _) xw
        obtain ⟨S46, s46, hg, y35, ycd⟩ := mk1 h120'
        obtain ⟨k1, k2, k3, k4, k5, k6⟩ := keepG hx hg
        have hle : S46.1 35 ≤ 120 := by rw [y35]; exact nI_le (b := 120) h120' (by omega)
        have z6 : S46.1 6 = 0 := k6.trans x6
        obtain ⟨T', a1, a2, a3, a4⟩ := l_c163 h120' (3 * (F0.1 + 1)) 0 (rm_pf (rm_pf S46 7 (-1)) 37 (S46.1 35)) (by omega) y35 (fun j hj => absurd hj (Nat.not_lt_zero j))
        have f37 : T'.1 37 = nI (F0.1 + 1) := by rw [a3]; exact y35
        have hwfF : ((fr_ap F0 (fr_1 0 0)).2 0).length = F0.1 + 1 := fr_wf_ap xg.2.2.1 (fun _ => rfl) 0
        refine ⟨rm_pf (rm_pf (rm_pf (rm_pf (rm_pf (rm_pf (rm_pf (rm_pf (rm_pf T' 46 0) 45 0) 47 0) 49 1) 50 1) 51 0) 53 0) 54 1) 55 0, fun Q hQ => ⟨ct + 1, t1 _ _ (fun x => s9 _ ⟨fun h => absurd x6 h, fun _ => s46 _ ⟨fun h => absurd z6 h, fun _ => ⟨fun _ => ⟨fun _ => ⟨fun _ => ⟨3 * (F0.1 + 1) + 1, a1 _ _ (fun y => ?_)⟩, fun h => absurd z6 h⟩, fun h => absurd z6 h⟩, fun h => absurd hle h⟩⟩⟩)⟩, ?_, ?_, ?_, f37, ?_, hwfF, ?_, rfl, rfl, rfl, rfl, rfl, rfl, rfl, rfl, rfl, fun k hk => ?_⟩
        · rw [f37]; exact hQ
        · show T'.1 0 = 0; rw [a3]; exact k3
        · show T'.1 1 = 0; rw [a3]; exact k4
        · show T'.1 7 = -1; rw [a3]; rfl
        · intro i hi h121
          rw [hwfF] at hi
          have hc := ycd i (by rw [hwfF]; exact hi) h121
          refine ⟨?_, ?_, ?_⟩
          · show T'.2 38 (3 * i) = _; rw [a2 _ (by omega)]; exact hc.1
          · show T'.2 38 (3 * i + 1) = _; rw [a2 _ (by omega)]; exact hc.2.1
          · show T'.2 38 (3 * i + 2) = _; rw [a2 _ (by omega)]; exact hc.2.2
        · show T'.1 43 = S.1 43; rw [a3]; exact k1 43 (by decide)
        · have hk2 : k ≠ 38 ∧ k ∈ rk_a := by revert k; decide
          show T'.2 k = _
          rw [a4 k hk2.1]; exact k2 k hk2.2
