/-! THE REFERENCE'S COLLECTION is the abstract one -/
theorem cl_fill {v1 : Int32} {Q : rm_S → Prop} {K : Int32 → rm_S → Prop} : ∀ (m k : Nat) (S : rm_S), k + m = 400 → (∀ S' : rm_S, S'.1 = S.1 → (∀ j, j ≠ 48 → S'.2 j = S.2 j) → (∀ i, S'.2 48 i = if k ≤ i ∧ i < 400 then -1 else S.2 48 i) → K 400 S') → wl_collect_18 v1 Q K (m + 1) (nI k) S := by
  intro m
  induction m with
  | zero =>
    intro k S hk hK
    have e : k = 400 := by omega
    subst e
    exact ⟨fun _ => hK S rfl (fun _ _ => rfl) (fun i => by rw [if_neg (by omega)]), fun h9 => absurd (by decide) h9⟩
  | succ m ih =>
    intro k S hk hK
    refine ⟨fun h9 => absurd h9 (nI_ge (b := 400) (by omega) (by omega)), fun _ => ⟨nI_vp (by omega) (by omega), ?_⟩⟩
    rw [nI_1, nI_clamp (by omega)]
    refine ih (k + 1) _ (by omega) (fun S' h1 h2 h3 => hK S' h1 (fun j hj => by rw [h2 j hj, pa_n hj]) (fun i => ?_))
    rw [h3 i, pa_s]
    by_cases c1 : k + 1 ≤ i ∧ i < 400
    · rw [if_pos c1, if_pos (by omega)]
    · rw [if_neg c1]
      by_cases c2 : i = k
      · rw [c2, upd_s, if_pos (by omega)]
      · rw [upd_n c2, if_neg (by omega)]
theorem trw_mle {s s' : gs_T} (h : mle s s') {x : aw_T} (hx : mvd s.2 x) : trw s'.2 x = trw s.2 x := by
  cases x with
  | inl w => rfl
  | inr p =>
    obtain ⟨q, hq⟩ := hx
    rw [trw_some hq, trw_some (h p q hq)]
theorem cw2_tr {s0 d : Nat} {mv : Nat → Option Nat} {x : aw_T} (h : mvd mv x) : cw2 s0 d (tr mv x) = cw d (trw mv x) := by
  cases x with
  | inl w => rfl
  | inr p =>
    obtain ⟨q, hq⟩ := h
    rw [tr_some hq, trw_some hq]; rfl
theorem mle_st {bs : List hb_T} : ∀ (l : List aw_T) (s : gs_T), mle s (ag_st bs l s) := by
  intro l
  induction l with
  | nil => intro s p q h; exact h
  | cons y t ih => intro s; exact mle_tr mle_cp (ih _)
theorem RG_up {s0 d N : Nat} {bs : List hb_T} {a : gs_T} {S S' : rm_S} (h : RG s0 d N bs a S) (h44 : S'.2 44 = S.2 44) (h48 : S'.2 48 = S.2 48) (h46 : S'.1 46 = S.1 46) : RG s0 d N bs a S' := by
  obtain ⟨g1, g2, g3, g4, g5⟩ := h
  exact ⟨⟨by rw [h44]; exact g1.1, g1.2⟩, by rw [h44]; exact g2, by rw [h46]; exact g3, fun p hp => by rw [h48]; exact g4 p hp, g5⟩
def rv2 (S S' : rm_S) : Prop := (∀ k, k ≠ 46 → S'.1 k = S.1 k) ∧ ∀ k, k ≠ 44 → k ≠ 48 → k ≠ 52 → S'.2 k = S.2 k
theorem rv2.trans {S S1 S2 : rm_S} (h : rv2 S S1) (h2 : rv2 S1 S2) : rv2 S S2 := ⟨fun k hk => (h2.1 k hk).trans (h.1 k hk), fun k hk hk2 hk3 => (h2.2 k hk hk2 hk3).trans (h.2 k hk hk2 hk3)⟩
section RC
variable {s0 d N : Nat} {bs : List hb_T} {Q : rm_S → Prop} {K : Int32 → rm_S → Prop}
theorem rg_st : ∀ (l : List aw_T) (k : Nat) (a : gs_T) (S : rm_S), RG s0 d N bs a S → GI bs 0 0 a → k + l.length ≤ 40 → S.1 51 = nI (k + l.length) → (∀ x ∈ l, wv bs x) → (∀ (c : Nat) (x : aw_T), l[c]? = some x → S.2 52 (k + c) = cw s0 x) → (∀ S' : rm_S, RG s0 d N bs (ag_st bs l a) S' → rv2 S S' → (∀ (c : Nat) (x : aw_T), l[c]? = some x → S'.2 52 (k + c) = cw d (trw (ag_st bs l a).2 x)) → (∀ c, c < k → S'.2 52 c = S.2 52 c) → K (nI (k + l.length)) S') → wl_collect_71 (nI d) Q K (l.length + 1) (nI k) S := by
  intro l
  induction l with
  | nil =>
    intro k a S h hg hk hd hl hs hK
    refine ⟨fun _ => hK S h ⟨fun _ _ => rfl, fun _ _ _ _ => rfl⟩ (fun c x hc => by simp at hc) (fun _ _ => rfl), fun h9 => absurd ?_ h9⟩
    rw [hd]; exact nI_le (by simp) (by omega)
  | cons y t ih =>
    intro k a S h hg hk hd hl hs hK
    have hk : k + (t.length + 1) ≤ 40 := hk
    have hd : S.1 51 = nI (k + (t.length + 1)) := hd
    have hy := hl y List.mem_cons_self
    refine ⟨fun h9 => absurd h9 ?_, fun _ => ⟨nI_vp (by omega) (by omega), ?_⟩⟩
    · rw [hd]; exact nI_ge (by omega) (by omega)
    rw [nI_clamp (by omega), show S.2 52 k = cw s0 y from hs 0 y rfl]
    refine rg_mv h hg hy (fun S1 r1 r2 => ⟨nI_vp (by omega) (by omega), ?_⟩)
    obtain ⟨g1, g2, g3, g4, _⟩ := ag_cp_ok hg hy
    rw [g2, cw2_tr g3, nI_1]
    refine ih (k + 1) _ _ (RG_up r1 (pa_n (by omega)) (pa_n (by omega)) rfl) g1 (by omega) ?_ (fun x hx => hl x (List.mem_cons_of_mem _ hx)) (fun c x hc => ?_) (fun S' s1 s2 s3 s4 => ?_)
    · show S1.1 51 = _
      rw [r2.1 51 (by omega), hd, show k + 1 + t.length = k + (t.length + 1) by omega]
    · rw [pa_s, upd_n (by omega), r2.2 52 (by omega) (by omega), show k + 1 + c = k + (c + 1) by omega]; exact hs (c + 1) x hc
    · have e : k + 1 + t.length = k + (t.length + 1) := by omega
      rw [e]
      refine hK S' s1 ⟨fun q hq => by rw [s2.1 q hq]; exact r2.1 q hq, fun q q1 q2 q3 => by rw [s2.2 q q1 q2 q3, pa_n q3]; exact r2.2 q q1 q2⟩ (fun c x hc => ?_) (fun c hc => ?_)
      · cases c with
        | zero =>
          have ey : y = x := by simpa using hc
          subst ey
          show S'.2 52 k = _
          rw [s4 k (by omega), pa_s, upd_s]
          show _ = cw d (trw (ag_st bs t (ag_cp bs a (up2 y)).2).2 y)
          rw [trw_mle (mle_st t _) g3]
        | succ c =>
          have hc : t[c]? = some x := by simpa using hc
          have := s3 c x hc
          rw [show k + 1 + c = k + (c + 1) by omega] at this; exact this
      · rw [s4 c (by omega), pa_s, upd_n (by omega), r2.2 52 (by omega) (by omega)]
/-- the words of a block -/
theorem rg_in {i : Nat} (hbv : bv bs) : ∀ (m j : Nat) (a : gs_T) (b2 : Nat × List g2_T) (S : rm_S), GI bs i j a → RG s0 d N bs a S → a.1[i]? = some b2 → j + m = b2.2.length → (∀ S' : rm_S, RG s0 d N bs (ag_in bs i m j a) S' → rv S S' → K (nI (b2.2.length + 1)) S') → wl_collect_126 (nI d) (nI (d + hsz (a.1.take i))) (nI b2.2.length) Q K (m + 1) (nI (j + 1)) S := by
  intro m
  induction m with
  | zero =>
    intro j a b2 S hg h hi hj hK
    have e : j = b2.2.length := by omega
    have hb4 : b2.2.length < 1000 := by
      have := (take_lt hi).1
      have := (GI_len hg).2
      have := h.2.2.2.2.2.1
      have := h.2.2.2.2.2.2
      omega
    subst e
    exact ⟨fun _ => hK S h rv.rf, fun h9 => absurd (nI_lt (by omega) (by omega)) h9⟩
  | succ m ih =>
    intro j a b2 S hg h hi hj hK
    have hb4 : b2.2.length < 1000 := by
      have := (take_lt hi).1
      have := (GI_len hg).2
      have := h.2.2.2.2.2.1
      have := h.2.2.2.2.2.2
      omega
    have hjl : j < b2.2.length := by omega
    have hw : b2.2[j]? = some b2.2[j] := List.getElem?_eq_getElem hjl
    have hg' := hg
    obtain ⟨og, o1, o2, o3, o4, o5, o6⟩ := hg'
    have hil := (List.getElem?_eq_some_iff.mp hi).1
    have hog : og[i]? = some og[i] := List.getElem?_eq_getElem (by omega)
    obtain ⟨b, b2', k1, k2, k3, k4, k5⟩ := o6 i _ hog
    rw [hi] at k2
    have e2 : b2 = b2' := Option.some.inj k2
    subst e2
    have hx : b.2[j]? = some b.2[j] := List.getElem?_eq_getElem (by omega)
    have hns : ¬ scd i j i j := fun h9 => by rcases h9 with h9 | h9 <;> omega
    have hw2 := (k5 j _ hx).2 hns
    rw [hw] at hw2
    have ew : b2.2[j] = up2 b.2[j] := Option.some.inj hw2
    have hv : wv bs b.2[j] := (hbv b (bk_lt k1).2).2.2 _ (List.getElem_mem _)
    have hpos : S.2 44 (d + hsz (a.1.take i) + 1 + j) = cw s0 b.2[j] := by
      have := (lay_bk h.2.1 (bk_take hi)).2 j _ hw
      rw [ew, cw2_up] at this; exact this
    have hbd : d + hsz (a.1.take i) + 1 + j < 400 := by
      have := (take_lt hi).1
      have := (GI_len hg).2
      have := h.2.2.2.2.1
      have := h.2.2.2.2.2.1
      have := h.2.2.2.2.2.2
      omega
    have ea : nI (d + hsz (a.1.take i)) + nI (j + 1) = nI (d + hsz (a.1.take i) + 1 + j) := by rw [nI_add, show d + hsz (a.1.take i) + (j + 1) = d + hsz (a.1.take i) + 1 + j by omega]
    refine ⟨fun h9 => absurd h9 (nI_nlt (by omega) (by omega)), fun _ => ⟨by rw [ea]; exact nI_vp hbd (by omega), ?_⟩⟩
    rw [ea, nI_clamp (by omega), hpos]
    refine rg_mv h hg hv (fun S1 r1 r2 => ⟨nI_vp hbd (by omega), ?_⟩)
    obtain ⟨g1, b3, g2, g3⟩ := ag_in_step hbv hg hi hw
    obtain ⟨_, _, _, _, e9, hap⟩ := ag_cp_ok hg hv
    have ein : ag_in bs i (m + 1) j a = ag_in bs i m (j + 1) (setw (ag_cp bs a b2.2[j]).2.1 i j (ag_cp bs a b2.2[j]).1, (ag_cp bs a b2.2[j]).2.2) := by
      simp only [ag_in, hi, hw]
    rw [ein] at hK
    rw [ew] at g1 g2 hK
    have hi1 : (ag_cp bs a (up2 b.2[j])).2.1[i]? = some b2 := by rw [hap, List.getElem?_append_left hil]; exact hi
    have htk : hsz ((ag_cp bs a (up2 b.2[j])).2.1.take i) = hsz (a.1.take i) := by rw [hap, List.take_append_of_le_length (by omega)]
    have htk2 : hsz ((setw (ag_cp bs a (up2 b.2[j])).2.1 i j (ag_cp bs a (up2 b.2[j])).1).take i) = hsz (a.1.take i) := by rw [tk_set.2, htk]
    have hRG : RG s0 d N bs (setw (ag_cp bs a (up2 b.2[j])).2.1 i j (ag_cp bs a (up2 b.2[j])).1, (ag_cp bs a (up2 b.2[j])).2.2) (rm_pa S1 44 (d + hsz (a.1.take i) + 1 + j) (cw2 s0 d (ag_cp bs a (up2 b.2[j])).1)) := by
      obtain ⟨d1, d2, d3, d4, d5, d6, d7⟩ := r1
      have hjb := (take_lt hi1).1
      rw [htk] at hjb
      refine ⟨rh_eq d1 (fun q q1 q2 => ?_), ?_, ?_, fun p hp => ?_, d5, d6, d7⟩
      · rw [pa_s, upd_n (by
          have := (take_lt hi).1
          have := (GI_len hg).2
          omega)]
      · have := lay_set (w := (ag_cp bs a (up2 b.2[j])).1) d2 hi1 hjl
        rw [htk] at this
        rw [pa_s]
        show lay _ (cw2 s0 d) d (setw (ag_cp bs a (up2 b.2[j])).2.1 i j (ag_cp bs a (up2 b.2[j])).1)
        rw [setw_eq hi1]; exact this
      · show S1.1 46 = nI (hsz (setw _ i j _))
        rw [setw_eq hi1, hsz_cong (set_map hi1 (List.length_set ..))]; exact d3
      · rw [pa_n (by omega)]; exact d4 p hp
    have hb3 : b3.2.length = b2.2.length := g3
    have := ih (j + 1) _ b3 _ g1 hRG g2 (by omega) (fun S' t1 t2 => by
      rw [hb3]
      refine hK S' t1 ⟨fun q hq => ?_, fun q q1 q2 => ?_⟩
      · rw [t2.1 q hq]; exact r2.1 q hq
      · rw [t2.2 q q1 q2, pa_n q1]; exact r2.2 q q1 q2)
    rw [htk2, hb3] at this
    rw [nI_1]; exact this
theorem rg_out (hbv : bv bs) : ∀ (r i : Nat) (a : gs_T) (S : rm_S), GI bs i 0 a → RG s0 d N bs a S → hsz bs ≤ i + r → (∀ S' : rm_S, RG s0 d N bs (ag_out bs r i a) S' → rv S S' → ∀ v : Int32, K v S') → wl_collect_104 (nI d) Q K (r + 1) (nI (d + hsz (a.1.take i))) S := by
  intro r
  induction r with
  | zero =>
    intro i a S hg h hr hK
    have hl := (GI_len hg).1
    have hg' := hg
    obtain ⟨og, o1, o2, o3, _⟩ := hg'
    have hil : a.1.length ≤ i := by rcases o3 with h9 | h9 <;> omega
    have hbd := (GI_len hg).2
    have h5 := h.2.2.2.2.1
    have h6 := h.2.2.2.2.2.1
    have h7 := h.2.2.2.2.2.2
    refine ⟨fun _ => hK S h rv.rf _, fun h9 => absurd ?_ h9⟩
    rw [h.2.2.1, nI_add, List.take_of_length_le hil]
    exact nI_le (Nat.le_refl _) (by omega)
  | succ r ih =>
    intro i a S hg h hr hK
    have hbd := (GI_len hg).2
    have h5 := h.2.2.2.2.1
    have h6 := h.2.2.2.2.2.1
    have h7 := h.2.2.2.2.2.2
    cases hi : a.1[i]? with
    | none =>
      have e : ag_out bs (r + 1) i a = a := by simp only [ag_out, hi]
      rw [e] at hK
      have hil := List.getElem?_eq_none_iff.mp hi
      refine ⟨fun _ => hK S h rv.rf _, fun h9 => absurd ?_ h9⟩
      rw [h.2.2.1, nI_add, List.take_of_length_le hil]
      exact nI_le (Nat.le_refl _) (by omega)
    | some b2 =>
      have e : ag_out bs (r + 1) i a = ag_out bs r (i + 1) (ag_in bs i b2.2.length 0 a) := by simp only [ag_out, hi]
      rw [e] at hK
      obtain ⟨t1, t2⟩ := take_lt hi
      have hdr := (lay_bk h.2.1 (bk_take hi)).1
      have hil := (List.getElem?_eq_some_iff.mp hi).1
      have hb16 : b2.1 < 16 ∧ b2.2.length < 4 := by
        have hg' := hg
        obtain ⟨og, o1, o2, o3, o4, o5, o6⟩ := hg'
        obtain ⟨b, b2', k1, k2, k3, k4, _⟩ := o6 i _ (List.getElem?_eq_getElem (l := og) (i := i) (by omega))
        rw [hi] at k2
        have e2 : b2 = b2' := Option.some.inj k2
        subst e2
        have := hbv b (bk_lt k1).2
        rw [k3, k4]; exact ⟨this.1, this.2.1⟩
      refine ⟨fun h9 => absurd h9 ?_, fun _ => ⟨nI_vp (by omega) (by omega), b2.2.length + 1, ?_⟩⟩
      · rw [h.2.2.1, nI_add]; exact nI_ge (by omega) (by omega)
      rw [nI_clamp (by omega), hdr, hdr_shr _ hb16.2 _ hb16.1]
      obtain ⟨g1, b3, g2, g3⟩ := ag_in_ok hbv b2.2.length 0 a b2 hg hi (by omega)
      refine rg_in hbv b2.2.length 0 a b2 S hg h hi (by omega) (fun S' s1 s2 => ?_)
      have htk := (tk_in (bs := bs) (i := i) b2.2.length 0 a (i + 1) (by omega)).2
      have := ih (i + 1) _ S' (GI_next g1 g2 (by omega)) s1 (by omega) (fun S2 u1 u2 v => hK S2 u1 (s2.trans u2) v)
      rw [htk, t2] at this
      rw [show (1 : Int32) + nI b2.2.length = nI (1 + b2.2.length) from nI_add 1 _, nI_add, show d + hsz (a.1.take i) + (1 + b2.2.length) = d + (hsz (a.1.take i) + 1 + b2.2.length) by omega]
      exact this
end RC
/-! collect -/
def RK (N : Nat) (C : List fr_C) (A : am_T) (s0 : Nat) (S : rm_S) : Prop := S.1 43 = nI N ∧ S.1 45 = nI s0 ∧ (s0 = 0 ∨ s0 = N) ∧ S.1 46 = nI (hsz A.1) ∧ S.1 47 = A.2.2.2.2.2 ∧ S.1 49 = cw s0 A.2.1 ∧ S.1 50 = cw s0 A.2.2.1 ∧ S.1 51 = nI A.2.2.2.1.length ∧ skr s0 (S.2 52) A.2.2.2.1 ∧ S.1 53 = nI A.2.2.2.2.1 ∧ rh s0 S A.1 ∧ cd_l (S.2 38) C
/-- what a step of the machine leaves alone -/
def rg (S S' : rm_S) : Prop := (∀ k, k < 45 → S'.1 k = S.1 k) ∧ ∀ k, k < 44 → S'.2 k = S.2 k
theorem rg.rf {S : rm_S} : rg S S := ⟨fun _ _ => rfl, fun _ _ => rfl⟩
theorem rg.trans {S S1 S2 : rm_S} (h : rg S S1) (h2 : rg S1 S2) : rg S S2 := ⟨fun k hk => (h2.1 k hk).trans (h.1 k hk), fun k hk => (h2.2 k hk).trans (h.2 k hk)⟩
theorem gf_new {bs : List hb_T} {s : gs_T} (h : GF bs s) {s0 d : Nat} {b : Nat × List g2_T} (hb : b ∈ s.1) {w : g2_T} (hw : w ∈ b.2) : cw2 s0 d w = cw d (dn2 w) := by
  obtain ⟨og, o1, o2, o3, o4, o5, o6⟩ := h
  obtain ⟨a, ha⟩ := List.getElem?_of_mem hb
  have hal := (List.getElem?_eq_some_iff.mp ha).1
  obtain ⟨b0, b2, k1, k2, k3, k4, k5⟩ := o6 a _ (List.getElem?_eq_getElem (l := og) (i := a) (by omega))
  rw [ha] at k2
  have e : b = b2 := Option.some.inj k2
  subst e
  obtain ⟨c, hc⟩ := List.getElem?_of_mem hw
  have hcl := (List.getElem?_eq_some_iff.mp hc).1
  have hx : b0.2[c]? = some b0.2[c] := List.getElem?_eq_getElem (by omega)
  obtain ⟨m1, m2⟩ := (k5 c _ hx).1 (Or.inl hal)
  rw [hc] at m1
  have ew : w = tr s.2 b0.2[c] := Option.some.inj m1
  rw [ew, cw2_tr m2, dn2_tr]
section RL
variable {N : Nat} {C : List fr_C} {T : Nat → lb_T} {A : am_T} {s0 : Nat} {S : rm_S} {Q : rm_S → Prop}
theorem r_coll (hN : N ≤ 200) (hN0 : 0 < N) (h : MIA C T N A) (hk : RK N C A s0 S) (hQ : ∀ (d : Nat) (S' : rm_S), RK N C (ag_A N A) d S' → rg S S' → S'.1 54 = S.1 54 → S'.1 55 = S.1 55 → Q S') : wp_collect S Q := by
  obtain ⟨k1, k2, k3, k4, k5, k6, k7, k8, k9, k10, k11, k12⟩ := hk
  obtain ⟨m1, m2, m3, m4⟩ := mia_gc h
  have h' := h
  obtain ⟨h1, h2, h3⟩ := h'
  obtain ⟨_, _, me, ms, _⟩ := mi_gc h1 h3
  have hwa := h1.2.2.1
  have hwe := ev_wv h1.2.2.2.2.1
  have hws := sv_wv _ A.2.2.2.1 (Nat.le_refl _) _ _ h1.2.2.2.2.2.1
  have main : ∀ d : Nat, ((s0 = 0 ∧ d = N) ∨ (s0 = N ∧ d = 0)) → ∃ n9 : Nat, wl_collect_18 (nI d) Q (fun w5 S4 => wp_move (rm_pf S4 46 0) (S4.1 49) (nI d) (fun x7 S8 => wp_move (rm_pf S8 49 x7) (S8.1 50) (nI d) (fun x10 S11 => (∃ n9 : Nat, wl_collect_71 (nI d) Q (fun w19 S18 => (∃ n9 : Nat, wl_collect_104 (nI d) Q (fun w31 S30 => Q (rm_pf (rm_pf S30 45 (nI d)) 47 ((S30.1 47) + 1))) n9 (nI d) S18)) n9 0 (rm_pf S11 50 x10))))) n9 0 S := by
    intro d hd
    refine ⟨400 + 1, cl_fill (v1 := nI d) 400 0 S (by omega) (fun S4 f1 f2 f3 => ?_)⟩
    have r0 : RG s0 d N A.1 ([], fun _ => none) (rm_pf S4 46 0) := by
      refine ⟨⟨?_, k11.2.1, k11.2.2⟩, trivial, pf_s, fun p hp => ?_, hd, h3, hN⟩
      · show lay (S4.2 44) _ _ _
        rw [f2 44 (by omega)]; exact k11.1
      · show S4.2 48 (p + s0) = -1
        have := k11.2.2
        rw [f3, if_pos (by omega)]
    have e49 : S4.1 49 = cw s0 A.2.1 := by rw [f1]; exact k6
    rw [e49]
    refine rg_mv r0 GI_0 hwa (fun S8 r1 v1 => ?_)
    obtain ⟨g1, t1, u1, l1, _⟩ := ag_cp_ok GI_0 hwa
    have e50 : S8.1 50 = cw s0 A.2.2.1 := by rw [v1.1 50 (by omega), pf_n (by omega), f1]; exact k7
    rw [e50]
    refine rg_mv (RG_up r1 rfl rfl (pf_n (by omega))) g1 hwe (fun S11 r2 v2 => ?_)
    obtain ⟨g2, t2, u2, l2, _⟩ := ag_cp_ok g1 hwe
    refine ⟨A.2.2.2.1.reverse.length + 1, ?_⟩
    have e51 : S11.1 51 = nI A.2.2.2.1.length := by rw [v2.1 51 (by omega), pf_n (by omega), v1.1 51 (by omega), pf_n (by omega), f1]; exact k8
    have e52 : S11.2 52 = S.2 52 := by
      rw [v2.2 52 (by omega) (by omega)]
      show S8.2 52 = _
      rw [v1.2 52 (by omega) (by omega)]
      show S4.2 52 = _
      exact f2 52 (by omega)
    refine rg_st A.2.2.2.1.reverse 0 _ _ (RG_up r2 rfl rfl (pf_n (by omega))) g2 (by rw [List.length_reverse]; omega) ?_ (fun x hx => hws x (List.mem_reverse.mp hx)) (fun c x hc => ?_) (fun S18 r3 v3 s3 _ => ?_)
    · rw [pf_n (by omega), e51, Nat.zero_add, List.length_reverse]
    · show S11.2 52 (0 + c) = _
      rw [e52, Nat.zero_add]; exact k9 c x hc
    obtain ⟨g3, _⟩ := ag_st_ok A.2.2.2.1.reverse _ g2 (fun x hx => hws x (List.mem_reverse.mp hx))
    refine ⟨N + 1, ?_⟩
    have hro := rg_out (Q := Q) (K := fun w31 S30 => Q (rm_pf (rm_pf S30 45 (nI d)) 47 ((S30.1 47) + 1))) h1.1 N 0 _ S18 g3 r3 (by omega) (fun S30 r4 v4 _ => ?_)
    · rw [List.take_zero] at hro
      exact hro
    have r4 : RG s0 d N A.1 (ag_all A.1 N A.2.1 A.2.2.1 A.2.2.2.1) S30 := r4
    have lall : mle (ag_root A.1 A.2.1 A.2.2.1 A.2.2.2.1) (ag_all A.1 N A.2.1 A.2.2.1 A.2.2.2.1) := mle_out _ _ _
    have lst := mle_st (bs := A.1) A.2.2.2.1.reverse (ag_cp A.1 (ag_cp A.1 ([], fun _ => none) (up2 A.2.1)).2 (up2 A.2.2.1)).2
    have f30 : ∀ k, k ≠ 46 → k ≠ 49 → k ≠ 50 → S30.1 k = S.1 k := fun k q1 q2 q3 => by
      rw [v4.1 k q1, v3.1 k q1, pf_n q3, v2.1 k q1, pf_n q2, v1.1 k q1, pf_n q1, f1]
    have a30 : ∀ k, k ≠ 44 → k ≠ 48 → k ≠ 52 → S30.2 k = S.2 k := fun k q1 q2 q3 => by
      rw [v4.2 k q1 q2, v3.2 k q1 q2 q3]
      show S11.2 k = _
      rw [v2.2 k q1 q2]
      show S8.2 k = _
      rw [v1.2 k q1 q2]
      exact f2 k q2
    refine hQ d _ ?_ ⟨fun k hk => ?_, fun k hk => ?_⟩ ?_ ?_
    · refine ⟨?_, ?_, ?_, ?_, ?_, ?_, ?_, ?_, ?_, ?_, ?_, ?_⟩
      · rw [pf_n (by omega), pf_n (by omega), f30 43 (by omega) (by omega) (by omega)]; exact k1
      · rw [pf_n (by omega), pf_s]
      · rcases hd with ⟨_, e⟩ | ⟨_, e⟩
        · exact Or.inr e
        · exact Or.inl e
      · rw [pf_n (by omega), pf_n (by omega), r4.2.2.1]
        show _ = nI (hsz (ag_bs _))
        unfold ag_bs; rw [hsz_map]
      · rw [pf_s, f30 47 (by omega) (by omega) (by omega), k5]; rfl
      · rw [pf_n (by omega), pf_n (by omega), v4.1 49 (by omega), v3.1 49 (by omega), pf_n (by omega), v2.1 49 (by omega), pf_s, t1, cw2_tr u1]
        show cw d (trw _ A.2.1) = cw d (trw _ A.2.1)
        rw [trw_mle (mle_tr (mle_tr l2 lst) lall) u1]
      · rw [pf_n (by omega), pf_n (by omega), v4.1 50 (by omega), v3.1 50 (by omega), pf_s, t2, cw2_tr u2]
        show cw d (trw _ A.2.2.1) = cw d (trw _ A.2.2.1)
        rw [trw_mle (mle_tr lst lall) u2]
      · rw [pf_n (by omega), pf_n (by omega), f30 51 (by omega) (by omega) (by omega), k8]
        show _ = nI (A.2.2.2.1.map _).length
        rw [List.length_map]
      · intro c x hc
        have hc : (A.2.2.2.1.map (trw (ag_all A.1 N A.2.1 A.2.2.1 A.2.2.2.1).2)).reverse[c]? = some x := hc
        rw [← List.map_reverse, List.getElem?_map] at hc
        cases hx : A.2.2.2.1.reverse[c]? with
        | none => rw [hx] at hc; cases hc
        | some y =>
          rw [hx] at hc
          have ey : trw (ag_all A.1 N A.2.1 A.2.2.1 A.2.2.2.1).2 y = x := Option.some.inj hc
          have := s3 c y hx
          rw [Nat.zero_add] at this
          show S30.2 52 c = _
          rw [v4.2 52 (by omega) (by omega), this, ← ey]
          have hym : mvd (ag_st A.1 A.2.2.2.1.reverse (ag_cp A.1 (ag_cp A.1 ([], fun _ => none) (up2 A.2.1)).2 (up2 A.2.2.1)).2).2 y := (ag_st_ok A.2.2.2.1.reverse _ g2 (fun x hx => hws x (List.mem_reverse.mp hx))).2.2 y (List.mem_of_getElem? hx)
          have := trw_mle lall hym
          rw [this]; rfl
      · rw [pf_n (by omega), pf_n (by omega), f30 53 (by omega) (by omega) (by omega), k10]; rfl
      · have hlen := (GI_len m2).2
        refine ⟨?_, m1.1.1, ?_⟩
        · show lay (S30.2 44) (cw d) d (ag_bs _)
          exact lay_map r4.2.1 (fun b hb w hw => gf_new m2 hb hw)
        · show d + hsz (ag_bs _) ≤ 400
          unfold ag_bs; rw [hsz_map]
          omega
      · show cd_l (S30.2 38) C
        rw [a30 38 (by omega) (by omega) (by omega)]; exact k12
    · rw [pf_n (by omega), pf_n (by omega), f30 k (by omega) (by omega) (by omega)]
    · show S30.2 k = _
      exact a30 k (by omega) (by omega) (by omega)
    · rw [pf_n (by omega), pf_n (by omega), f30 54 (by omega) (by omega) (by omega)]
    · rw [pf_n (by omega), pf_n (by omega), f30 55 (by omega) (by omega) (by omega)]
  refine ⟨fun h9 => ?_, fun h9 => ?_⟩
  · have e : s0 = N := by
      rcases k3 with e | e
      · exact absurd (by rw [k2, e]; rfl) h9
      · exact e
    exact main 0 (Or.inr ⟨e, rfl⟩)
  · have e : s0 = 0 := by
      rw [k2] at h9
      rcases k3 with e | e
      · exact e
      · exact absurd h9 (nI_ne0 (by omega) (by omega))
    have := main N (Or.inl ⟨e, rfl⟩)
    rw [k1]; exact this
end RL
