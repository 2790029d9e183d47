/-! CASES -/
theorem rm_pf_pf {S : rm_S} {k : Nat} {v w : Int32} : rm_pf (rm_pf S k v) k w = rm_pf S k w := by
  refine Prod.ext (funext fun j => ?_) rfl
  show (if j = k then w else if j = k then v else S.1 j) = (if j = k then w else S.1 j)
  by_cases e : j = k
  · rw [if_pos e, if_pos e]
  · rw [if_neg e, if_neg e, if_neg e]
theorem rd_fo_s {nf : Nat → Nat} {x : Nat} : ∀ (i k : Nat), (∀ j, rd_fo nf x i k = some j → ∃ t, t < i ∧ nf t = x ∧ j = k + (i - 1 - t) ∧ ∀ s, t < s → s < i → ¬ nf s = x) ∧ (rd_fo nf x i k = none → ∀ t, t < i → ¬ nf t = x) := by
  intro i
  induction i with
  | zero => intro k; exact ⟨fun j hj => (by cases hj), fun _ t ht => absurd ht (Nat.not_lt_zero t)⟩
  | succ i ih =>
    intro k
    have h := ih (k + 1)
    by_cases e : nf i = x
    · refine ⟨fun j hj => ?_, fun hj => ?_⟩
      · unfold rd_fo at hj; rw [if_pos e] at hj; cases hj
        exact ⟨i, Nat.lt_succ_self i, e, by omega, fun s h1 h2 => by omega⟩
      · unfold rd_fo at hj; rw [if_pos e] at hj; cases hj
    · refine ⟨fun j hj => ?_, fun hj t ht => ?_⟩
      · unfold rd_fo at hj; rw [if_neg e] at hj
        obtain ⟨t, t1, t2, t3, t4⟩ := h.1 j hj
        refine ⟨t, by omega, t2, by omega, fun s h1 h2 => ?_⟩
        by_cases es : s = i
        · rw [es]; exact e
        · exact t4 s h1 (by omega)
      · unfold rd_fo at hj; rw [if_neg e] at hj
        by_cases et : t = i
        · rw [et]; exact e
        · exact h.2 hj t (by omega)
theorem ps_in_iff {sc : List Nat} {i c : Nat} (hi : i ≤ sc.length) : ps_in sc i c = true ↔ ∃ t, sc.length - i ≤ t ∧ t < sc.length ∧ sc.getD t 0 = c := by
  have h := rd_fo_s (nf := fun j => sc.getD j 0) (x := c) sc.length 0
  unfold ps_in
  cases e : ps_fo sc c with
  | none =>
    refine ⟨fun h9 => (by cases h9), fun ⟨t, _, t2, t3⟩ => absurd t3 (h.2 e t t2)⟩
  | some j =>
    obtain ⟨t, t1, t2, t3, t4⟩ := h.1 j e
    simp only [decide_eq_true_eq]
    refine ⟨fun h9 => ⟨t, by omega, t1, t2⟩, fun ⟨s, s1, s2, s3⟩ => ?_⟩
    have : ¬ t < s := fun h9 => t4 s h9 s2 s3
    omega
section CA
variable {S0 S T : rm_S} {L p m : Nat} {tx : Nat → Nat} {N : Nat → nd_T} {sc : List Nat} {FR : List rf_T} {HD : List (Int32 × Int32)} {VS SG : List Nat} {md en : Int32}
theorem l_138 {v1 v2 v3 v4 v5 : Int32} (ht : rt_ok S0 L tx) (hp : p ≤ L) (hl : sc.length < 100) : ∀ (r v : Nat) (T : rm_S), v + r = sc.length → rx_ok S0 T → T.1 5 = nI p → sc_at sc T → ∃ T' : rm_S, ((∃ t, v ≤ t ∧ t < sc.length ∧ sc.getD t 0 = rd_ch tx L p) → T' = rm_pf T 6 1) ∧ ((¬ ∃ t, v ≤ t ∧ t < sc.length ∧ sc.getD t 0 = rd_ch tx L p) → T' = T) ∧ ∀ (Q : rm_S → Prop) (K : Int32 → rm_S → Prop), (∀ x, K x T') → wl_readCase_138 v1 v2 v3 v4 v5 Q K (r + 1) (nI v) T := by
  intro r
  induction r with
  | zero =>
    intro v T hv hx h5 hs
    refine ⟨T, fun ⟨t, t1, t2, _⟩ => by omega, fun _ => rfl, fun Q K hK => ⟨fun _ => hK _, fun h9 => absurd ?_ h9⟩⟩
    rw [hs.1]; exact nI_le (by omega) (by omega)
  | succ r ih =>
    intro v T hv hx h5 hs
    have hch := rt_ch ht p
    have hcv : sc.getD v 0 < 65536 := by
      rw [List.getD_eq_getElem?_getD, List.getElem?_eq_getElem (by omega)]
      exact hs.2.2 _ (List.getElem_mem _)
    have e16 : T.2 16 v = nI (sc.getD v 0) := hs.2.1 v (by omega)
    have hnl : ¬ T.1 15 ≤ nI v := by rw [hs.1]; exact nI_ge (by omega) (by omega)
    by_cases he : sc.getD v 0 = rd_ch tx L p
    · obtain ⟨T', a1, a2, a3⟩ := ih (v + 1) (rm_pf T 6 1) (by omega) (rx_pf hx (by decide)) h5 hs
      have eT : T' = rm_pf T 6 1 := by
        by_cases h9 : ∃ t, v + 1 ≤ t ∧ t < sc.length ∧ sc.getD t 0 = rd_ch tx L p
        · rw [a1 h9, rm_pf_pf]
        · exact a2 h9
      refine ⟨T', fun _ => eT, fun h9 => absurd ⟨v, Nat.le_refl _, by omega, he⟩ h9, fun Q K hK => ⟨fun h9 => absurd h9 hnl, fun _ => ⟨nI_vp (by omega) (by omega), rp_look ht hx h5 hp ⟨fun h9 => absurd (by rw [nI_clamp (by omega), e16, he]) h9, fun _ => ?_⟩⟩⟩⟩
      rw [nI_1]; exact a3 Q K hK
    · obtain ⟨T', a1, a2, a3⟩ := ih (v + 1) T (by omega) hx h5 hs
      have iff : (∃ t, v ≤ t ∧ t < sc.length ∧ sc.getD t 0 = rd_ch tx L p) ↔ ∃ t, v + 1 ≤ t ∧ t < sc.length ∧ sc.getD t 0 = rd_ch tx L p := by
        refine ⟨fun ⟨t, t1, t2, t3⟩ => ⟨t, ?_, t2, t3⟩, fun ⟨t, t1, t2, t3⟩ => ⟨t, by omega, t2, t3⟩⟩
        have : t ≠ v := fun e => he (by rw [← e]; exact t3)
        omega
      refine ⟨T', fun h9 => a1 (iff.mp h9), fun h9 => a2 (fun h8 => h9 (iff.mpr h8)), fun Q K hK => ⟨fun h9 => absurd h9 hnl, fun _ => ⟨nI_vp (by omega) (by omega), rp_look ht hx h5 hp ⟨fun _ => ?_, fun h9 => ?_⟩⟩⟩⟩
      · rw [nI_1]; exact a3 Q K hK
      · rw [nI_clamp (by omega), e16] at h9
        exact absurd ((nI_eq (by omega) (by omega)).mp h9) he
/-- the names of a case -/
theorem l_114 {f : rf_T} {v1 v2 : Int32} {n tag : Nat} {sc0 : List Nat} (ht : rt_ok S0 L tx) (htag : tag < 8) (hn : n < m) (hN : (N n).2.1 = nI tag) : ∀ (r i p : Nat) (ys : List Nat) (S : rm_S), i + r = tag % 4 → ys.length = i → p ≤ L → (sc0 ++ ys).length ≤ p → rp S0 p N m (sc0 ++ ys) (f :: FR) HD VS SG md en S → out (ps_nm tx L r i (sc0 ++ ys) p) (fun q => ∃ T : rm_S, rp_il S0 q T ∧ ∀ (Q : rm_S → Prop) (K : Int32 → rm_S → Prop), (∀ x, K x T) → ∃ nn : Nat, wl_readCase_114 v1 v2 (nI n) (nI sc0.length) Q K nn (nI i) S) (fun p1 sc1 => ∃ (T : rm_S) (zs : List Nat), sc1 = sc0 ++ zs ∧ sc1.length ≤ p1 ∧ p ≤ p1 ∧ p1 ≤ L ∧ rp S0 p1 N m sc1 (f :: FR) HD VS SG md en T ∧ ∀ (Q : rm_S → Prop) (K : Int32 → rm_S → Prop), (∀ x, K x T) → ∃ nn : Nat, wl_readCase_114 v1 v2 (nI n) (nI sc0.length) Q K nn (nI i) S) := by
  have hL := ht.2.1
  have ht4 : tag % 4 < 4 := Nat.mod_lt _ (by omega)
  intro r
  induction r with
  | zero =>
    intro i p ys S hi hys hp hsp h
    have hm := h.2.2.2.1.2.1
    refine ⟨S, ys, rfl, hsp, Nat.le_refl _, hp, h, fun Q K hK => ⟨1, nI_vp (by omega) (by omega), fun _ => hK _, fun h9 => absurd ?_ h9⟩⟩
    rw [nI_clamp (by omega), (h.2.2.2.1.2.2.1 n hn).2.1, hN, nI_m4 htag]
    exact nI_le (by omega) (by omega)
  | succ r ih =>
    intro i p ys S hi hys hp hsp h
    have hm := h.2.2.2.1.2.1
    have e10 : S.2 10 n = nI tag := by rw [(h.2.2.2.1.2.2.1 n hn).2.1, hN]
    have hvp : vp_in (nI n) 300 := nI_vp (by omega) (by omega)
    have hvc : (nI n).toNatClampNeg = n := nI_clamp (by omega)
    have hnl : ¬ nI (tag % 4) ≤ nI i := nI_ge (by omega) (by omega)
    have hlen : (sc0 ++ ys).length = sc0.length + i := by rw [List.length_append, hys]
    have hch := rt_ch ht p
    obtain ⟨T, a1, a2, a3⟩ := l_138 (v1 := v1) (v2 := v2) (v3 := nI n) (v4 := nI sc0.length) (v5 := nI i) ht hp (by omega) i sc0.length S (by omega) h.1 h.2.1 h.2.2.2.2.1
    have hin := ps_in_iff (sc := sc0 ++ ys) (i := i) (c := rd_ch tx L p) (by omega)
    rw [hlen, show sc0.length + i - i = sc0.length by omega] at hin
    rw [hlen] at a1 a2
    have step : ∀ (x : Int32) (T2 : rm_S) (Q : rm_S → Prop) (K : Int32 → rm_S → Prop), (∀ Q2 : Int32 → rm_S → Prop, Q2 x T2 → wp_wantName T Q2) → (∀ nn : Nat, ((¬ T2.1 6 = 0 → wl_readCase_114 v1 v2 (nI n) (nI sc0.length) Q K nn (nI i + 1) T2) ∧ (T2.1 6 = 0 → wp_bind T2 x (fun S39 => wl_readCase_114 v1 v2 (nI n) (nI sc0.length) Q K nn (nI i + 1) S39))) → wl_readCase_114 v1 v2 (nI n) (nI sc0.length) Q K (nn + 1) (nI i) S) := by
      intro x T2 Q K hw nn hh
      refine ⟨hvp, fun h9 => absurd h9 (by rw [hvc, e10, nI_m4 htag]; exact hnl), fun _ => ⟨fun h9 => absurd h.2.2.1 h9, fun _ => ⟨i + 1, a3 _ _ (fun y => hw _ hh)⟩⟩⟩
    have illK : ∀ (T2 : rm_S) (q : Nat) (j : Int32) (Q : rm_S → Prop) (K : Int32 → rm_S → Prop), rp_il S0 q T2 → T2.2 10 n = nI tag → (∀ x, K x T2) → wl_readCase_114 v1 v2 (nI n) (nI sc0.length) Q K 1 j T2 := fun T2 q j Q K hil _ hK => ⟨hvp, fun _ => hK _, fun _ => ⟨fun _ => hK _, fun h9 => absurd h9 hil.2.2⟩⟩
    simp only [ps_nm]
    by_cases h1 : ps_in (sc0 ++ ys) i (rd_ch tx L p) = true
    · rw [if_pos h1]
      have eT := a1 (hin.mp h1)
      have hil : rp_il S0 p T := by rw [eT]; exact rp_il6 h
      obtain ⟨x, T2, w1, w2⟩ := w_name_il ht hil hp
      have e102 : T2.2 10 n = nI tag ∨ True := Or.inr trivial
      refine ⟨T2, w2, fun Q K hK => ⟨2, step x T2 Q K w1 1 ⟨fun _ => ⟨hvp, fun _ => hK _, fun _ => ⟨fun _ => hK _, fun h9 => absurd h9 w2.2.2⟩⟩, fun h9 => absurd h9 w2.2.2⟩⟩⟩
    · rw [if_neg h1]
      have eT := a2 (fun h9 => h1 (hin.mpr h9))
      rw [eT] at step
      by_cases hnm : 97 ≤ rd_ch tx L p ∧ rd_ch tx L p ≤ 122
      · rw [if_pos hnm]
        have hpl : p < L := rd_ch_in (tx := tx) (by omega)
        have c1 := rp_at5 h (p + 1)
        have c2 := rp_bind (c := rd_ch tx L p) c1 hch
        have e9 : sc0 ++ ys ++ [rd_ch tx L p] = sc0 ++ (ys ++ [rd_ch tx L p]) := List.append_assoc _ _ _
        rw [e9] at c2
        have hl2 : (sc0 ++ (ys ++ [rd_ch tx L p])).length ≤ p + 1 := by
          rw [← e9, List.length_append]; show (sc0 ++ ys).length + 1 ≤ p + 1; omega
        rw [e9]
        refine out_mono (ih (i + 1) (p + 1) (ys ++ [rd_ch tx L p]) _ (by omega) (by rw [List.length_append, hys]; rfl) hpl hl2 c2) (fun q hq => ?_) (fun p1 sc1 _ hq => ?_)
        · obtain ⟨T2, b1, b2⟩ := hq
          refine ⟨T2, b1, fun Q K hK => ?_⟩
          obtain ⟨nn, hnn⟩ := b2 Q K hK
          refine ⟨nn + 1, step _ _ Q K (fun Q2 hQ2 => w_name_1 ht h hp hnm hQ2) nn ⟨fun h9 => absurd c1.2.2.1 h9, fun _ => w_bind c1.2.2.2.2.1 hch (by omega) ?_⟩⟩
          rw [nI_1]; exact hnn
        · obtain ⟨T2, zs, b1, b2, b3, b4, b5, b6⟩ := hq
          refine ⟨T2, zs, b1, b2, by omega, b4, b5, fun Q K hK => ?_⟩
          obtain ⟨nn, hnn⟩ := b6 Q K hK
          refine ⟨nn + 1, step _ _ Q K (fun Q2 hQ2 => w_name_1 ht h hp hnm hQ2) nn ⟨fun h9 => absurd c1.2.2.1 h9, fun _ => w_bind c1.2.2.2.2.1 hch (by omega) ?_⟩⟩
          rw [nI_1]; exact hnn
      · rw [if_neg hnm]
        have il := rp_il6 h
        exact ⟨_, il, fun Q K hK => ⟨2, step 0 _ Q K (fun Q2 hQ2 => w_name_0 ht h hp hnm hQ2) 1 ⟨fun _ => ⟨hvp, fun _ => hK _, fun _ => ⟨fun _ => hK _, fun h9 => absurd h9 il.2.2⟩⟩, fun h9 => absurd h9 il.2.2⟩⟩⟩
/-- is the constructor there already? -/
theorem l_31 {n a tag : Nat} {v2 : Int32} {cs : List cz_T} (hv2 : v2 - 65 = nI tag) (htag : tag < 65536) (hn : n < m) (hch : (N n).2.2.1 = a :: cs.map (fun x => x.1)) (hok : cz_ok N m cs) (h8 : ∀ x ∈ cs, x.2.1 < 8) (hl : cs.length ≤ 300) : ∀ (t pre : List cz_T) (T : rm_S), cs = pre ++ t → ns_at N m T → ∃ T' : rm_S, ((∃ x ∈ t, x.2.1 = tag) → T' = rm_pf T 6 1) ∧ ((¬ ∃ x ∈ t, x.2.1 = tag) → T' = T) ∧ ∀ (Q : rm_S → Prop) (K : Int32 → rm_S → Prop), (∀ x, K x T') → wl_readCase_31 (nI n) v2 Q K (t.length + 1) (nI (pre.length + 1)) T := by
  intro t
  induction t with
  | nil =>
    intro pre T hp hns
    have hm := hns.2.1
    have e : pre.length = cs.length := by rw [hp, List.append_nil]
    refine ⟨T, fun ⟨x, hx, _⟩ => absurd hx List.not_mem_nil, fun _ => rfl, fun Q K hK => ⟨nI_vp (by omega) (by omega), fun _ => hK _, fun h9 => absurd ?_ h9⟩⟩
    rw [nI_clamp (by omega), (hns.2.2.1 n hn).2.2.2.2.1, hch]
    exact nI_le (by rw [List.length_cons, List.length_map]; omega) (by omega)
  | cons x t ih =>
    intro pre T hp hns
    have hm := hns.2.1
    have hpl : pre.length + (t.length + 1) = cs.length := by rw [hp, List.length_append]; rfl
    have hxm : x ∈ cs := by rw [hp]; simp
    have hx := hok x hxm
    have hx8 := h8 x hxm
    have e10 : T.2 10 x.1 = nI x.2.1 := by rw [(hns.2.2.1 x.1 hx.1).2.1, hx.2.1]
    have hat : (N n).2.2.1[pre.length + 1]? = some x.1 := by
      rw [hch, List.getElem?_cons_succ, hp, List.map_append, List.getElem?_append_right (by simp)]
      simp
    have hnl : ¬ T.2 13 (nI n).toNatClampNeg ≤ nI (pre.length + 1) := by
      rw [nI_clamp (by omega), (hns.2.2.1 n hn).2.2.2.2.1, hch]
      exact nI_ge (by rw [List.length_cons, List.length_map]; omega) (by rw [List.length_cons, List.length_map]; omega)
    have hlp : (pre ++ [x]).length = pre.length + 1 := by simp
    by_cases he : x.2.1 = tag
    · obtain ⟨T', a1, a2, a3⟩ := ih (pre ++ [x]) (rm_pf T 6 1) (by rw [hp]; simp) hns
      have eT : T' = rm_pf T 6 1 := by
        by_cases h9 : ∃ x ∈ t, x.2.1 = tag
        · rw [a1 h9, rm_pf_pf]
        · exact a2 h9
      refine ⟨T', fun _ => eT, fun h9 => absurd ⟨x, List.mem_cons_self, he⟩ h9, fun Q K hK => ⟨nI_vp (by omega) (by omega), fun h9 => absurd h9 hnl, fun _ => rn_at hns hn hat _ ⟨nI_vp (by omega) (by omega), fun h9 => absurd ?_ h9, fun _ => ?_⟩⟩⟩
      · rw [nI_clamp (by omega), e10, hv2, he]
      · rw [nI_1, ← hlp]; exact a3 Q K hK
    · obtain ⟨T', a1, a2, a3⟩ := ih (pre ++ [x]) T (by rw [hp]; simp) hns
      have iff : (∃ y ∈ x :: t, y.2.1 = tag) ↔ ∃ y ∈ t, y.2.1 = tag := by
        refine ⟨fun ⟨y, y1, y2⟩ => ?_, fun ⟨y, y1, y2⟩ => ⟨y, List.mem_cons_of_mem _ y1, y2⟩⟩
        rcases List.mem_cons.mp y1 with rfl | y1
        · exact absurd y2 he
        · exact ⟨y, y1, y2⟩
      refine ⟨T', fun h9 => a1 (iff.mp h9), fun h9 => a2 (fun h8 => h9 (iff.mpr h8)), fun Q K hK => ⟨nI_vp (by omega) (by omega), fun h9 => absurd h9 hnl, fun _ => rn_at hns hn hat _ ⟨nI_vp (by omega) (by omega), fun _ => ?_, fun h9 => ?_⟩⟩⟩
      · rw [nI_1, ← hlp]; exact a3 Q K hK
      · rw [nI_clamp (by omega), e10, hv2] at h9
        exact absurd ((nI_eq (by omega) (by omega)).mp h9) he
end CA
