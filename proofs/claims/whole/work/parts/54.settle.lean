/-! SETTLE -/
def STs (least : Int32) (S S' : rm_S) : Prop := ∀ Q K : rm_S → Prop, (∃ n : Nat, wl_settle_0 least Q K n S') → ∃ n : Nat, wl_settle_0 least Q K n S
theorem STs.tr {l : Int32} {S S1 S2 : rm_S} (h : STs l S S1) (h2 : STs l S1 S2) : STs l S S2 := fun Q K h9 => h Q K (h2 Q K h9)
theorem STs.rf {l : Int32} {S : rm_S} : STs l S S := fun _ _ h => h
def sg_rk (s : Nat) : Nat := if s = 32 then 4 else if s = 42 then 3 else if s = 43 ∨ s = 45 then 2 else 1
section ST
variable {S0 S S' : rm_S} {p m : Nat} {N : Nat → nd_T} {sc : List Nat} {f : rf_T} {FR : List rf_T} {HD : List (Int32 × Int32)} {VS SG : List Nat} {md en : Int32}
theorem rp_pop2 {a b s : Nat} (h : rp S0 p N m sc FR HD (b :: a :: VS) (s :: SG) md en S) : rp S0 p N m sc FR HD (a :: VS) SG md en (rm_pf (rm_pf S 31 (nI SG.length)) 29 (nI (VS.length + 1))) := by
  obtain ⟨h1, h2, h3, h4, h5, h6, h7, h8, h9, ha, hb⟩ := h
  exact ⟨rx_pf (rx_pf h1 (by decide)) (by decide), h2, h3, h4, h5, h6, h7, ⟨rfl, h8.2.2⟩, ⟨rfl, h9.2.2⟩, ha, hb⟩
theorem rp_vtop {a n : Nat} (h : rp S0 p N m sc FR HD (a :: VS) SG md en S) : rp S0 p N m sc FR HD (n :: VS) SG md en (rm_pa S 30 VS.length (nI n)) := by
  obtain ⟨h1, h2, h3, h4, h5, h6, h7, h8, h9, ha, hb⟩ := h
  refine ⟨rx_pa h1 (by decide), h2, h3, h4, h5, h6, h7, ⟨h8.1, ?_, ?_⟩, h9, ha, hb⟩
  · rw [List.length_map]; exact upd_s
  · exact lq_up (fun j hj => upd_n (by rw [List.length_map] at hj; omega)) h8.2.2
theorem w_rank {s : Nat} (hs : s < 65536) {Q : Int32 → Prop} (hQ : Q (nI (sg_rk s))) : wp_rank (nI s) Q := by
  have q32 : nI s = 32 ↔ s = 32 := nI_eq (b := 32) (by omega) (by omega)
  have q42 : nI s = 42 ↔ s = 42 := nI_eq (b := 42) (by omega) (by omega)
  have q43 : nI s = 43 ↔ s = 43 := nI_eq (b := 43) (by omega) (by omega)
  have q45 : nI s = 45 ↔ s = 45 := nI_eq (b := 45) (by omega) (by omega)
  unfold wp_rank sg_rk at *
  rw [q32, q42, q43, q45]
  refine ⟨fun h1 => ⟨fun h2 => ⟨fun h3 => ?_, fun h3 => ⟨fun h4 => ?_, fun h4 => ?_⟩⟩, fun h2 => ?_⟩, fun h1 => ?_⟩
  · rw [if_neg h1, if_neg h2, if_pos (Or.inl h3)] at hQ; exact hQ
  · rw [if_neg h1, if_neg h2, if_neg (by omega)] at hQ; exact hQ
  · rw [if_neg h1, if_neg h2, if_pos (Or.inr h4)] at hQ; exact hQ
  · rw [if_neg h1, if_pos h2] at hQ; exact hQ
  · rw [if_pos h1] at hQ; exact hQ
/-- what settle reads -/
theorem st_get {a b s : Nat} (h : rp S0 p N m sc (f :: FR) HD (b :: a :: VS) (s :: SG) md en S) (hv : VS.length + 2 ≤ 100) (hg : SG.length < 100) : S.1 31 = nI (SG.length + 1) ∧ S.1 31 - 1 = nI SG.length ∧ (nI SG.length).toNatClampNeg = SG.length ∧ vp_in (nI SG.length) 100 ∧ S.2 32 SG.length = nI s ∧ S.1 29 - 1 = nI (VS.length + 1) ∧ nI (VS.length + 1) - 1 = nI VS.length ∧ (nI (VS.length + 1)).toNatClampNeg = VS.length + 1 ∧ (nI VS.length).toNatClampNeg = VS.length ∧ vp_in (nI (VS.length + 1)) 100 ∧ vp_in (nI VS.length) 100 ∧ S.2 30 (VS.length + 1) = nI b ∧ S.2 30 VS.length = nI a := by
  obtain ⟨h1, h2, h3, h4, h5, h6, h7, h8, h9, ha, hb⟩ := h
  have e1 : S.1 31 = nI (SG.length + 1) := h9.1
  have e2 : S.1 29 = nI (VS.length + 1 + 1) := h8.1
  have e3 : S.2 32 SG.length = nI s := by have := h9.2.1; rw [List.length_map] at this; exact this
  have e4 : S.2 30 (VS.length + 1) = nI b := by have := h8.2.1; rw [List.length_map] at this; exact this
  have e5 : S.2 30 VS.length = nI a := by have := h8.2.2.1; rw [List.length_map] at this; exact this
  exact ⟨e1, by rw [e1, nI_pred], nI_clamp (by omega), nI_vp hg (by omega), e3, by rw [e2, nI_pred], nI_pred _, nI_clamp (by omega), nI_clamp (by omega), nI_vp (by omega) (by omega), nI_vp (by omega) (by omega), e4, e5⟩
/-- settle ends -/
theorem st_end {least : Nat} (h : rp S0 p N m sc (f :: FR) HD VS SG md en S) (hf : f.2.2.2.2.1 ≤ SG.length) (hl : least < 100) (hg : SG.length ≤ 100) (hs : SG.length = f.2.2.2.2.1 ∨ ∃ (s : Nat) (t : List Nat), SG = s :: t ∧ s < 65536 ∧ sg_rk s < least) {Q K : rm_S → Prop} (hK : K S) : ∃ n : Nat, wl_settle_0 (nI least) Q K n S := by
  have ht := rp_top h
  have h31 : S.1 31 = nI SG.length := h.2.2.2.2.2.2.2.2.1.1
  refine ⟨1, ?_, fun _ => hK, fun h9 => ?_⟩
  · rw [ht.1]; exact ht.2.1
  · rw [ht.1, ht.2.2.1, ht.2.2.2.2.2.2.2.1, h31] at h9
    rcases hs with hs | ⟨s, t, hs, hs2, hs3⟩
    · rw [hs] at h9; exact absurd (nI_le (Nat.le_refl _) (by omega)) h9
    · subst hs
      have hg : t.length + 1 ≤ 100 := hg
      have e0 : S.1 31 - 1 = nI t.length := by rw [h31]; exact nI_pred _
      have e3 : S.2 32 t.length = nI s := by have := h.2.2.2.2.2.2.2.2.1.2.1; rw [List.length_map] at this; exact this
      refine ⟨?_, ?_⟩
      · rw [e0]; exact nI_vp (by omega) (by omega)
      · rw [e0, nI_clamp (by omega), e3]
        exact w_rank hs2 ⟨fun _ => hK, fun h8 => absurd (nI_lt hs3 (by omega)) h8⟩
/-- a sign between a and b is settled: a new node of them -/
theorem st_node {a b s : Nat} {kd k : Int32} (h : rp S0 p N m sc (f :: FR) HD (b :: a :: VS) (s :: SG) md en S) (hv : VS.length + 2 ≤ 100) (hg : SG.length < 100) (hf : f.2.2.2.2.1 ≤ SG.length) (hs : (s = 43 ∧ kd = 2 ∧ k = 4) ∨ (s = 45 ∧ kd = 2 ∧ k = 5) ∨ (s = 42 ∧ kd = 2 ∧ k = 6) ∨ (s = 60 ∧ kd = 2 ∧ k = 7) ∨ (s = 126 ∧ kd = 2 ∧ k = 8) ∨ (s = 32 ∧ kd = 3 ∧ k = 0 ∧ ((N a).1 = 3 → (N a).2.2.2.1 = true))) (hm : m < 300) (ha : a < m) (hb : b < m) (hab : a ≠ b) (fa : (N a).2.2.2.2 = false) (fb : (N b).2.2.2.2 = false) : ∃ S' : rm_S, (∀ least : Nat, least ≤ sg_rk s → STs (nI least) S S') ∧ rp S0 p (nd_add (nd_add (nd_new N m kd k) m a) m b) (m + 1) sc (f :: FR) HD (m :: VS) SG md en S' := by
  have ht := rp_top h
  obtain ⟨e1, e2, e3, e4, e5, e6, e7, e8, e9, ea, eb, ec, ed⟩ := st_get h hv hg
  have hp := rp_pop2 h
  obtain ⟨q1, c1⟩ := rp_node (k := kd) (v := k) hp hm
  obtain ⟨S2, q2, c2, o2⟩ := rp_add (n := m) (c := a) c1 (by omega) (by omega) (by omega) (by rw [nd_new_n (by omega)]; exact fa)
  obtain ⟨S3, q3, c3, o3⟩ := rp_add (n := m) (c := b) c2 (by omega) (by omega) (by omega) (by rw [nd_add_fl (by omega), if_neg (Ne.symm hab), nd_new_n (by omega)]; exact fb)
  have c4 := rp_vtop (n := m) c3
  have h293 : S3.1 29 - 1 = nI VS.length := by rw [c3.2.2.2.2.2.2.2.1.1]; exact nI_pred _
  refine ⟨_, fun least hl Q K hn => ?_, c4⟩
  obtain ⟨n, hn⟩ := hn
  refine ⟨n + 1, ?_⟩
  have fin : wp_node (rm_pf (rm_pf S 31 (nI SG.length)) 29 (nI (VS.length + 1))) kd k (fun x17 S18 => wp_addChild S18 x17 (nI a) (fun S20 => wp_addChild S20 x17 (nI b) (fun S22 => (vp_in ((S22.1 29) - 1) 100 ∧ wl_settle_0 (nI least) Q K n (rm_pa S22 30 (((S22.1 29) - 1).toNatClampNeg) x17))))) := by
    refine q1 _ (q2 _ (q3 _ ⟨?_, ?_⟩))
    · rw [h293]; exact eb
    · rw [h293, e9]; exact hn
  have hr : ∀ {s : Nat}, sg_rk s < 100 := fun {s} => by unfold sg_rk; split <;> (try split) <;> (try split) <;> omega
  have lt : ¬ nI (sg_rk s) < nI least := nI_nlt hl (by have := hr (s := s); omega)
  have hs2 : s < 65536 := by omega
  unfold wl_settle_0
  refine ⟨by rw [ht.1]; exact ht.2.1, fun h9 => ?_, fun _ => ⟨by rw [e2]; exact e4, ?_⟩⟩
  · rw [ht.1, ht.2.2.1, ht.2.2.2.2.2.2.2.1, e1] at h9
    exact absurd h9 (nI_ge (by omega) (by omega))
  · rw [e2, e3, e5]
    refine w_rank hs2 ⟨fun h9 => absurd h9 lt, fun _ => ?_⟩
    rw [e6, e7, e8, e9, ec, ed]
    refine ⟨ea, eb, e4, ?_⟩
    rcases hs with ⟨rfl, rfl, rfl⟩ | ⟨rfl, rfl, rfl⟩ | ⟨rfl, rfl, rfl⟩ | ⟨rfl, rfl, rfl⟩ | ⟨rfl, rfl, rfl⟩ | ⟨rfl, rfl, rfl, hcl⟩
    · exact ⟨fun _ => ⟨e4, fun h9 => absurd (by decide) h9, fun _ => fin⟩, fun h9 => absurd h9 (by decide)⟩
    · exact ⟨fun _ => ⟨e4, fun _ => ⟨fun h9 => absurd (by decide) h9, fun _ => fin⟩, fun h9 => absurd h9 (by decide)⟩, fun h9 => absurd h9 (by decide)⟩
    · exact ⟨fun _ => ⟨e4, fun _ => ⟨fun _ => ⟨fun h9 => absurd (by decide) h9, fun _ => fin⟩, fun h9 => absurd h9 (by decide)⟩, fun h9 => absurd h9 (by decide)⟩, fun h9 => absurd h9 (by decide)⟩
    · exact ⟨fun _ => ⟨e4, fun _ => ⟨fun _ => ⟨fun _ => ⟨fun h9 => absurd (by decide) h9, fun _ => fin⟩, fun h9 => absurd h9 (by decide)⟩, fun h9 => absurd h9 (by decide)⟩, fun h9 => absurd h9 (by decide)⟩, fun h9 => absurd h9 (by decide)⟩
    · exact ⟨fun _ => ⟨e4, fun _ => ⟨fun _ => ⟨fun _ => ⟨fun _ => fin, fun h9 => absurd h9 (by decide)⟩, fun h9 => absurd h9 (by decide)⟩, fun h9 => absurd h9 (by decide)⟩, fun h9 => absurd h9 (by decide)⟩, fun h9 => absurd h9 (by decide)⟩
    · have hna := h.2.2.2.1.2.2.1 a ha
      have e9a : S.2 9 a = (N a).1 := hna.1
      have e14 : S.2 14 a = (if (N a).2.2.2.1 = true then 1 else 0) := hna.2.2.2.2.2.1
      have hta : (nI a).toNatClampNeg = a := nI_clamp (by omega)
      have hva : vp_in (nI a) 300 := nI_vp (by omega) (by omega)
      rw [hta, e9a, e14]
      refine ⟨fun h9 => absurd (by decide) h9, fun _ => ⟨hva, fun _ => fin, fun h3 => ⟨hva, fun _ => fin, fun h0 => ?_⟩⟩⟩
      rw [if_pos (hcl h3)] at h0; exact absurd h0 (by decide)
/-- an application goes on -/
theorem st_goes {a b : Nat} (h : rp S0 p N m sc (f :: FR) HD (b :: a :: VS) (32 :: SG) md en S) (hv : VS.length + 2 ≤ 100) (hg : SG.length < 100) (hf : f.2.2.2.2.1 ≤ SG.length) (hk : (N a).1 = 3) (hcl : (N a).2.2.2.1 = false) (ha : a < m) (hb : b < m) (hab : a ≠ b) (fb : (N b).2.2.2.2 = false) : ∃ S' : rm_S, (∀ least : Nat, least ≤ 4 → STs (nI least) S S') ∧ rp S0 p (nd_add N a b) m sc (f :: FR) HD (a :: VS) SG md en S' := by
  have ht := rp_top h
  obtain ⟨e1, e2, e3, e4, e5, e6, e7, e8, e9, ea, eb, ec, ed⟩ := st_get h hv hg
  have hm := h.2.2.2.1.2.1
  have hp := rp_pop2 h
  obtain ⟨S2, q2, c2, o2⟩ := rp_add (n := a) (c := b) hp ha hb (Ne.symm hab) fb
  have c4 := rp_vtop (n := a) c2
  have h293 : S2.1 29 - 1 = nI VS.length := by rw [c2.2.2.2.2.2.2.2.1.1]; exact nI_pred _
  refine ⟨_, fun least hl Q K hn => ?_, c4⟩
  obtain ⟨n, hn⟩ := hn
  refine ⟨n + 1, ?_⟩
  have lt : ¬ nI (sg_rk 32) < nI least := nI_nlt hl (by decide)
  have hna := h.2.2.2.1.2.2.1 a ha
  have e9a : S.2 9 a = 3 := hna.1.trans hk
  have e14 : S.2 14 a = 0 := by rw [hna.2.2.2.2.2.1, if_neg (by rw [hcl]; decide)]
  have hta : (nI a).toNatClampNeg = a := nI_clamp (by omega)
  have hva : vp_in (nI a) 300 := nI_vp (by omega) (by omega)
  unfold wl_settle_0
  refine ⟨by rw [ht.1]; exact ht.2.1, fun h9 => ?_, fun _ => ⟨by rw [e2]; exact e4, ?_⟩⟩
  · rw [ht.1, ht.2.2.1, ht.2.2.2.2.2.2.2.1, e1] at h9
    exact absurd h9 (nI_ge (by omega) (by omega))
  · rw [e2, e3, e5]
    refine w_rank (by omega) ⟨fun h9 => absurd h9 lt, fun _ => ?_⟩
    rw [e6, e7, e8, e9, ec, ed, hta, e9a, e14]
    refine ⟨ea, eb, e4, fun h9 => absurd (by decide) h9, fun _ => ⟨hva, fun h9 => absurd rfl h9, fun _ => ⟨hva, fun h9 => absurd rfl h9, fun _ => q2 _ ⟨?_, ?_⟩⟩⟩⟩
    · rw [h293]; exact eb
    · rw [h293, e9]; exact hn
end ST
