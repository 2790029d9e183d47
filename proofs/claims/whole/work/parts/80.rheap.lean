/-! THE REFERENCE'S HEAP -/
theorem pf_s {S : rm_S} {k : Nat} {v : Int32} : (rm_pf S k v).1 k = v := if_pos rfl
theorem pf_n {S : rm_S} {k j : Nat} {v : Int32} (h : j ≠ k) : (rm_pf S k v).1 j = S.1 j := if_neg h
theorem pa_s {S : rm_S} {k i : Nat} {v : Int32} : (rm_pa S k i v).2 k = upd (S.2 k) i v := if_pos rfl
theorem pa_n {S : rm_S} {k j i : Nat} {v : Int32} (h : j ≠ k) : (rm_pa S k i v).2 j = S.2 j := if_neg h
theorem ptr_div : ∀ p, p < 400 → nI (4 * p) / 4 = nI p := by decide +kernel
section RW
variable {S : rm_S} {bs : List hb_T} {s0 : Nat} {Q : Int32 → rm_S → Prop} {P : Int32 → Prop}
/-- the blocks from place s0 on -/
def rh (s0 : Nat) (S : rm_S) (bs : List hb_T) : Prop := lay (S.2 44) (cw s0) s0 bs ∧ bv bs ∧ s0 + hsz bs ≤ 400
theorem ri_p {p : Nat} (hp : p < 400) (h : P 1) : wp_isPointer (nI (4 * p)) P := ⟨fun h9 => absurd (ptr_and p hp) h9, fun _ => h⟩
theorem ri_n {w : Int32} (hw : np w) (h : P 0) : wp_isPointer w P := ⟨fun _ => h, fun h9 => absurd h9 (np_3 hw)⟩
theorem rb_in {p : Nat} (hp : p < 400) : vp_in (nI (4 * p) / 4) 400 := by rw [ptr_div p hp]; exact nI_vp hp (by omega)
theorem rb_at {p : Nat} (hp : p < 400) : (nI (4 * p) / 4).toNatClampNeg = p := by rw [ptr_div p hp, nI_clamp (by omega)]
theorem rh_k {p : Nat} {b : hb_T} (h : rh s0 S bs) (hb : bk bs p = some b) (hQ : Q (nI b.1) S) : wp_blockKind S (nI (4 * (p + s0))) Q := by
  have hlt := (bk_lt hb).1
  have hz := h.2.2
  have hbv := h.2.1 b (bk_lt hb).2
  refine ⟨rb_in (by omega), ?_⟩
  have hl := (lay_bk h.1 hb).1
  rw [rb_at (by omega), show p + s0 = s0 + p by omega, hl, hdr_and _ hbv.2.1 _ hbv.1]; exact hQ
theorem rh_s {p : Nat} {b : hb_T} (h : rh s0 S bs) (hb : bk bs p = some b) (hQ : Q (nI b.2.length) S) : wp_blockSize S (nI (4 * (p + s0))) Q := by
  have hlt := (bk_lt hb).1
  have hz := h.2.2
  have hbv := h.2.1 b (bk_lt hb).2
  refine ⟨rb_in (by omega), ?_⟩
  have hl := (lay_bk h.1 hb).1
  rw [rb_at (by omega), show p + s0 = s0 + p by omega, hl, hdr_shr _ hbv.2.1 _ hbv.1]; exact hQ
theorem rh_f {p k : Nat} {b : hb_T} {x : aw_T} (h : rh s0 S bs) (hb : bk bs p = some b) (hk : b.2[k]? = some x) (hQ : Q (cw s0 x) S) : wp_field S (nI (4 * (p + s0))) (nI k) Q := by
  have hlt := (bk_lt hb).1
  have hz := h.2.2
  have hkl := (List.getElem?_eq_some_iff.mp hk).1
  have e : nI (4 * (p + s0)) / 4 + 1 + nI k = nI (p + s0 + 1 + k) := by rw [ptr_div _ (by omega), nI_1, nI_add]
  have hl := (lay_bk h.1 hb).2 k x hk
  refine ⟨by rw [e]; exact nI_vp (by omega) (by omega), ?_⟩
  rw [e, nI_clamp (by omega), show p + s0 + 1 + k = s0 + p + 1 + k by omega, hl]; exact hQ
/-- only the heap's words differ, and those not below -/
theorem rh_eq {S' : rm_S} (h : rh s0 S bs) (he : ∀ i, s0 ≤ i → i < s0 + hsz bs → S'.2 44 i = S.2 44 i) : rh s0 S' bs := ⟨lay_eq h.1 he, h.2.1, h.2.2⟩
end RW
/-- move copies a block -/
theorem mv_loop {a1 : Int32} {P D n : Nat} {Q : Int32 → rm_S → Prop} {K : Int32 → rm_S → Prop} {g u : Nat} (hD : D = g + u) (hP : P + n ≤ 400) (hDn : D + n ≤ 400) (hdis : P + n ≤ D ∨ D + n ≤ P) : ∀ (m k : Nat) (S : rm_S), k + m = n → S.1 46 = nI u → (∀ S' : rm_S, S'.1 = S.1 → (∀ j, j ≠ 44 → S'.2 j = S.2 j) → (∀ i, S'.2 44 i = if D + k ≤ i ∧ i < D + n then S.2 44 (P + (i - D)) else S.2 44 i) → K (nI n) S') → wl_move_55 a1 (nI g) (nI P) (nI n) Q K (m + 1) (nI k) S := by
  intro m
  induction m with
  | zero =>
    intro k S hk hu hK
    have e : k = n := by omega
    subst e
    exact ⟨fun _ => hK S rfl (fun _ _ => rfl) (fun i => by rw [if_neg (by omega)]), fun h9 => absurd (nI_le (Nat.le_refl _) (by omega)) h9⟩
  | succ m ih =>
    intro k S hk hu hK
    refine ⟨fun h9 => absurd h9 (nI_ge (by omega) (by omega)), fun _ => ?_⟩
    have e1 : nI P + nI k = nI (P + k) := nI_add _ _
    have e2 : nI g + S.1 46 + nI k = nI (D + k) := by rw [hu, nI_add, nI_add, hD]
    refine ⟨by rw [e1]; exact nI_vp (by omega) (by omega), by rw [e2]; exact nI_vp (by omega) (by omega), ?_⟩
    rw [e1, e2, nI_clamp (by omega), nI_clamp (by omega), nI_1]
    refine ih (k + 1) _ (by omega) hu (fun S' h1 h2 h3 => hK S' h1 (fun j hj => by rw [h2 j hj, pa_n hj]) (fun i => ?_))
    rw [h3 i, pa_s]
    by_cases c1 : D + (k + 1) ≤ i ∧ i < D + n
    · rw [if_pos c1, if_pos (by omega), upd_n (by omega)]
    · rw [if_neg c1]
      by_cases c2 : i = D + k
      · rw [c2, upd_s, if_pos (by omega), show D + k - D = k by omega]
      · rw [upd_n c2, if_neg (by omega)]
def rv (S S' : rm_S) : Prop := (∀ k, k ≠ 46 → S'.1 k = S.1 k) ∧ ∀ k, k ≠ 44 → k ≠ 48 → S'.2 k = S.2 k
theorem rv.rf {S : rm_S} : rv S S := ⟨fun _ _ => rfl, fun _ _ _ => rfl⟩
theorem rv.trans {S S1 S2 : rm_S} (h : rv S S1) (h2 : rv S1 S2) : rv S S2 := ⟨fun k hk => (h2.1 k hk).trans (h.1 k hk), fun k hk hk2 => (h2.2 k hk hk2).trans (h.2 k hk hk2)⟩
/-- the reference while it collects -/
def RG (s0 d N : Nat) (bs : List hb_T) (a : gs_T) (S : rm_S) : Prop := rh s0 S bs ∧ lay (S.2 44) (cw2 s0 d) d a.1 ∧ S.1 46 = nI (hsz a.1) ∧ (∀ p, p < hsz bs → S.2 48 (p + s0) = mvw d (a.2 p)) ∧ ((s0 = 0 ∧ d = N) ∨ (s0 = N ∧ d = 0)) ∧ hsz bs ≤ N ∧ N ≤ 200
section RM2
variable {s0 d N i j : Nat} {bs : List hb_T} {a : gs_T} {S : rm_S} {Q : Int32 → rm_S → Prop}
theorem rg_mv {x : aw_T} (h : RG s0 d N bs a S) (hg : GI bs i j a) (hx : wv bs x) (hQ : ∀ S' : rm_S, RG s0 d N bs (ag_cp bs a (up2 x)).2 S' → rv S S' → Q (cw2 s0 d (ag_cp bs a (up2 x)).1) S') : wp_move S (cw s0 x) (nI d) Q := by
  cases x with
  | inl w => exact ri_n hx ⟨fun h9 => absurd rfl h9, fun _ => hQ S h rv.rf⟩
  | inr p =>
    obtain ⟨b, hb⟩ := hx
    obtain ⟨g1, g2, g3, g4, g5, g6, g7⟩ := h
    have hlt := (bk_lt hb).1
    have hz := g1.2.2
    have hbv := g1.2.1 b (bk_lt hb).2
    have hlen := (GI_len hg).2
    have hm := g4 p (by omega)
    have ec : cw s0 (.inr p) = nI (4 * (p + s0)) := rfl
    rw [ec]
    refine ri_p (by omega) ⟨fun _ => ⟨rb_in (by omega), ?_⟩, fun h9 => absurd h9 (by decide)⟩
    rw [rb_at (p := p + s0) (by omega)]
    cases hq : a.2 p with
    | some q =>
      have hq9 := gi_q hg hq
      rw [hq] at hm
      have hm : S.2 48 (p + s0) = nI (q + d) := hm
      have e2 : ag_cp bs a (up2 (.inr p)) = (.inr (.inr q), a) := by
        show (match a.2 p with | some q => _ | none => _) = _
        rw [hq]
      rw [hm]
      refine ⟨fun h9 => absurd h9 (nI_pos (by omega)), fun _ => ⟨rb_in (by omega), ?_⟩⟩
      rw [nI_4]
      have := hQ S (by rw [e2]; exact ⟨g1, g2, g3, g4, g5, g6, g7⟩) rv.rf
      rw [e2] at this; exact this
    | none =>
      rw [hq] at hm
      have hm : S.2 48 (p + s0) = -1 := hm
      have e2 : ag_cp bs a (up2 (.inr p)) = (.inr (.inr (hsz a.1)), (a.1 ++ [(b.1, b.2.map up2)], fun j => if j = p then some (hsz a.1) else a.2 j)) := by
        show (match a.2 p with | some q => _ | none => (match bk bs p with | some b => _ | none => _)) = _
        rw [hq, hb]
      have hroom : hsz a.1 + (1 + b.2.length) ≤ N := by
        obtain ⟨og, o1, o2, o3, o4, _⟩ := hg
        have := um_set (q := 0) hq bs 0 (Nat.zero_le _) (by rw [Nat.sub_zero]; exact hb)
        omega
      rw [hm]
      refine ⟨fun _ => rh_s g1 hb ⟨rb_in (by omega), 1 + b.2.length + 1, ?_⟩, fun h9 => absurd (by decide) h9⟩
      rw [ptr_div _ (by omega), show (1 : Int32) + nI b.2.length = nI (1 + b.2.length) from nI_add 1 _]
      refine mv_loop (D := d + hsz a.1) (g := d) (u := hsz a.1) rfl (by omega) (by omega) (by omega) (1 + b.2.length) 0 _ (by omega) g3 (fun S' h1 h2 h3 => ?_)
      refine ⟨nI_vp (by omega) (by omega), ?_⟩
      have h48 : S'.2 48 = upd (S.2 48) (p + s0) (nI (d + hsz a.1)) := by
        rw [h2 48 (by omega)]
        show (rm_pa S 48 (p + s0) (nI d + S.1 46)).2 48 = _
        rw [pa_s, g3, nI_add]
      have h44 : ∀ i, S'.2 44 i = if d + hsz a.1 ≤ i ∧ i < d + hsz a.1 + (1 + b.2.length) then S.2 44 (p + s0 + (i - (d + hsz a.1))) else S.2 44 i := fun i => by
        have := h3 i
        rw [pa_n (by omega), Nat.add_zero] at this; exact this
      have hS1 : S'.1 = S.1 := h1
      rw [h48, upd_s, nI_4]
      have := hQ (rm_pf S' 46 (S'.1 46 + nI (1 + b.2.length))) ?_ ?_
      · rw [e2] at this
        have e9 : cw2 s0 d (.inr (.inr (hsz a.1))) = nI (4 * (d + hsz a.1)) := by
          show nI (4 * (hsz a.1 + d)) = _; rw [Nat.add_comm]
        rw [← e9]; exact this
      · rw [e2]
        have hL := lay_bk g1.1 hb
        refine ⟨rh_eq g1 (fun i i1 i2 => ?_), ?_, ?_, fun p' hp' => ?_, g5, g6, g7⟩
        · show S'.2 44 i = _
          rw [h44 i, if_neg (by omega)]
        · show lay (S'.2 44) (cw2 s0 d) d (a.1 ++ [(b.1, b.2.map up2)])
          refine lay_app (lay_eq g2 (fun k k1 k2 => ?_)) ?_ (fun k y hk => ?_)
          · rw [h44 k, if_neg (by omega)]
          · rw [h44, if_pos (by omega), Nat.sub_self, Nat.add_zero, show p + s0 = s0 + p by omega, hL.1]
            show _ = nI (16 * (b.2.map up2).length + b.1)
            rw [List.length_map]
          · have hk : (b.2.map up2)[k]? = some y := hk
            rw [List.getElem?_map] at hk
            cases hbk : b.2[k]? with
            | none => rw [hbk] at hk; cases hk
            | some x =>
              rw [hbk] at hk
              have ey : up2 x = y := Option.some.inj hk
              have hkl := (List.getElem?_eq_some_iff.mp hbk).1
              rw [h44, if_pos (by omega), ← ey, cw2_up, show p + s0 + (d + hsz a.1 + 1 + k - (d + hsz a.1)) = s0 + p + 1 + k by omega]
              exact hL.2 k x hbk
        · rw [pf_s, hS1, g3, nI_add]
          show _ = nI (hsz (a.1 ++ [(b.1, b.2.map up2)]))
          rw [hsz_app]; show _ = nI (hsz a.1 + (1 + (b.2.map up2).length)); rw [List.length_map]
        · show S'.2 48 (p' + s0) = mvw d (if p' = p then some (hsz a.1) else a.2 p')
          rw [h48]
          by_cases ep : p' = p
          · rw [ep, upd_s, if_pos rfl]; show _ = nI (hsz a.1 + d); rw [Nat.add_comm]
          · rw [upd_n (by omega), if_neg ep]; exact g4 p' hp'
      · refine ⟨fun k hk => by rw [pf_n hk, hS1], fun k hk hk2 => ?_⟩
        show S'.2 k = S.2 k
        rw [h2 k hk, pa_n hk2]
end RM2
