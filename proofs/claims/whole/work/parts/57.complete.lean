/-! COMPLETED: the heads go round the body; then what stood around -/
def cm_sw (o : Int32) (S16 : rm_S) (w17 : Int32) (Q : rm_S → Prop) : Prop := (vp_in o 8 ∧ (vp_in o 8 ∧ ((((S16.2 18) (o.toNatClampNeg)) = 0 → (((S16.1 3) ≤ (S16.1 5) → Q (rm_pf (rm_pf (rm_pf (rm_pf S16 15 ((S16.2 20) (o.toNatClampNeg))) 17 ((S16.1 17) - 1)) 34 w17) 33 4)) ∧ (¬ (S16.1 3) ≤ (S16.1 5) → Q (rm_pf (rm_pf (rm_pf (rm_pf (rm_pf S16 15 ((S16.2 20) (o.toNatClampNeg))) 17 ((S16.1 17) - 1)) 34 w17) 6 1) 33 4)))) ∧ (¬ ((S16.2 18) (o.toNatClampNeg)) = 0 → ((((S16.2 18) (o.toNatClampNeg)) = 1 → wp_want (rm_pf (rm_pf S16 15 ((S16.2 20) (o.toNatClampNeg))) 17 ((S16.1 17) - 1)) 59 (fun S24 => (vp_in o 8 ∧ wp_addChild S24 ((S24.2 22) (o.toNatClampNeg)) w17 (fun S27 => wp_caseEnds (rm_pf S27 33 3) (fun S29 => Q S29))))) ∧ (¬ ((S16.2 18) (o.toNatClampNeg)) = 1 → ((((S16.2 18) (o.toNatClampNeg)) = 2 → wp_want (rm_pf (rm_pf S16 15 ((S16.2 20) (o.toNatClampNeg))) 17 ((S16.1 17) - 1)) 59 (fun S32 => (vp_in o 8 ∧ wp_addChild S32 ((S32.2 22) (o.toNatClampNeg)) w17 (fun S35 => wp_caseEnds (rm_pf S35 33 3) (fun S37 => Q S37))))) ∧ (¬ ((S16.2 18) (o.toNatClampNeg)) = 2 → ((((S16.2 18) (o.toNatClampNeg)) = 3 → (vp_in o 8 ∧ wp_fieldEnds (rm_pf (rm_pf S16 15 ((S16.2 20) (o.toNatClampNeg))) 17 ((S16.1 17) - 1)) ((S16.2 22) (o.toNatClampNeg)) w17 (fun S41 => Q S41))) ∧ (¬ ((S16.2 18) (o.toNatClampNeg)) = 3 → ((((S16.2 18) (o.toNatClampNeg)) = 4 → wp_want (rm_pf (rm_pf S16 15 ((S16.2 20) (o.toNatClampNeg))) 17 ((S16.1 17) - 1)) 41 (fun S44 => (vp_in w17 300 ∧ wp_push (rm_pa S44 14 w17.toNatClampNeg 1) w17 (fun S47 => Q S47)))) ∧ (¬ ((S16.2 18) (o.toNatClampNeg)) = 4 → ((((S16.2 18) (o.toNatClampNeg)) = 5 → wp_want (rm_pf (rm_pf S16 15 ((S16.2 20) (o.toNatClampNeg))) 17 ((S16.1 17) - 1)) 59 (fun S50 => (vp_in o 8 ∧ wp_addChild S50 ((S50.2 22) (o.toNatClampNeg)) w17 (fun S53 => wp_caseEnds (rm_pf S53 33 3) (fun S55 => Q S55))))) ∧ (¬ ((S16.2 18) (o.toNatClampNeg)) = 5 → ((((S16.2 18) (o.toNatClampNeg)) = 6 → wp_want (rm_pf (rm_pf S16 15 ((S16.2 20) (o.toNatClampNeg))) 17 ((S16.1 17) - 1)) 59 (fun S58 => (vp_in o 8 ∧ wp_bind S58 ((S58.2 23) (o.toNatClampNeg)) (fun S61 => (vp_in o 8 ∧ wp_head S61 ((S61.2 18) (o.toNatClampNeg)) w17 (fun S64 => Q (rm_pf S64 33 0))))))) ∧ (¬ ((S16.2 18) (o.toNatClampNeg)) = 6 → ((((S16.2 18) (o.toNatClampNeg)) = 7 → wp_want (rm_pf (rm_pf S16 15 ((S16.2 20) (o.toNatClampNeg))) 17 ((S16.1 17) - 1)) 59 (fun S67 => (vp_in o 8 ∧ wp_bind S67 ((S67.2 23) (o.toNatClampNeg)) (fun S70 => (vp_in o 8 ∧ wp_head S70 ((S70.2 18) (o.toNatClampNeg)) w17 (fun S73 => Q (rm_pf S73 33 0))))))) ∧ (¬ ((S16.2 18) (o.toNatClampNeg)) = 7 → wp_want (rm_pf (rm_pf S16 15 ((S16.2 20) (o.toNatClampNeg))) 17 ((S16.1 17) - 1)) 59 (fun S75 => (vp_in o 8 ∧ wp_addChild S75 ((S75.2 22) (o.toNatClampNeg)) w17 (fun S78 => wp_caseEnds (rm_pf S78 33 3) (fun S80 => Q S80))))))))))))))))))))))
theorem cm_iff {S : rm_S} {a1 : Int32} {Q : rm_S → Prop} : wp_completed S a1 Q ↔ ∃ n9 : Nat, wl_completed_9 a1 ((S.1 17) - 1) Q (fun w17 S16 => cm_sw ((S.1 17) - 1) S16 w17 Q) n9 a1 S := Iff.rfl
/-- the heads hs (the latest first), of nodes from lo to hi, go round a body as W says -/
def hw (N : Nat → nd_T) (wb : Nat) : Nat → List (Int32 × Int32) → Nat → (fr_F → fr_F) → Prop
  | lo, [], hi, W => lo ≤ hi ∧ W = id
  | lo, x :: t, hi, W => ∃ (mid : Nat) (W0 : fr_F → fr_F), hw N wb lo t mid W0 ∧ ((x = (5, -1) ∧ mid ≤ hi ∧ W = fun F => W0 (fr_fun F)) ∨ (∃ (b : Nat) (B : fr_F), gen_is N mid hi b B wb ∧ (N b).2.2.2.2 = false ∧ ((x = (6, nI b) ∧ W = fun F => W0 (fr_let B F)) ∨ (x = (7, nI b) ∧ W = fun F => W0 (fr_fix B F)))))
theorem hw_le {N : Nat → nd_T} {wb : Nat} : ∀ {hs : List (Int32 × Int32)} {lo hi : Nat} {W : fr_F → fr_F}, hw N wb lo hs hi W → lo ≤ hi := by
  intro hs
  induction hs with
  | nil => intro lo hi W h; exact h.1
  | cons x t ih =>
    intro lo hi W h
    obtain ⟨mid, W0, h1, h2⟩ := h
    have := ih h1
    rcases h2 with ⟨_, h2, _⟩ | ⟨b, B, h2, _⟩
    · omega
    · have := h2.1; have := h2.2.1; omega
theorem hw_N {N N' : Nat → nd_T} {wb wb2 : Nat} (hw9 : wb ≤ wb2) : ∀ {hs : List (Int32 × Int32)} {lo hi hi2 : Nat} {W : fr_F → fr_F}, hw N wb lo hs hi W → (∀ i, i < hi → N' i = N i) → hi ≤ hi2 → hw N' wb2 lo hs hi2 W := by
  intro hs
  induction hs with
  | nil => intro lo hi hi2 W h _ h2; exact ⟨by have := h.1; omega, h.2⟩
  | cons x t ih =>
    intro lo hi hi2 W h hN h2
    obtain ⟨mid, W0, h1, h3⟩ := h
    rcases h3 with ⟨e1, e2, e3⟩ | ⟨b, B, e1, e2, e3⟩
    · exact ⟨mid, W0, ih h1 (fun i hi9 => hN i (by omega)) (Nat.le_refl _), Or.inl ⟨e1, by omega, e3⟩⟩
    · have a1 := e1.1
      have a2 := e1.2.1
      refine ⟨mid, W0, ih h1 (fun i hi9 => hN i (by omega)) (Nat.le_refl _), Or.inr ⟨b, B, gen_up (gen_N e1 (fun i _ i2 => by rw [hN i i2]; exact nq.rf)) (Nat.le_refl _) h2 hw9, ?_, e3⟩⟩
      rw [hN b a2]; exact e2
section CP
variable {S0 S : rm_S} {L p m : Nat} {tx : Nat → Nat} {sc : List Nat} {f : rf_T} {FR : List rf_T} {HD : List (Int32 × Int32)} {VS SG : List Nat} {md en : Int32}
theorem rp_hpop {N : Nat → nd_T} {x : Int32 × Int32} (h : rp S0 p N m sc FR (x :: HD) VS SG md en S) : rp S0 p N m sc FR HD VS SG md en (rm_pf S 26 (nI HD.length)) ∧ S.1 26 = nI (HD.length + 1) ∧ S.2 27 HD.length = x.1 ∧ S.2 28 HD.length = x.2 := by
  obtain ⟨h1, h2, h3, h4, h5, h6, h7, h8, h9, ha, hb⟩ := h
  refine ⟨⟨rx_pf h1 (by decide), h2, h3, h4, h5, h6, ⟨rfl, h7.2.1.2, h7.2.2.2⟩, h8, h9, ha, hb⟩, h7.1, ?_, ?_⟩
  · have := h7.2.1.1; rw [List.length_map] at this; exact this
  · have := h7.2.2.1; rw [List.length_map] at this; exact this
theorem l_hd {lo wb : Nat} (hfh : f.2.2.1 = HD.length) (hHD : HD.length ≤ 50) : ∀ (hs : List (Int32 × Int32)) (N : Nat → nd_T) (m mid v w : Nat) (W : fr_F → fr_F) (F : fr_F) (S : rm_S), hs.length ≤ 50 → m + hs.length ≤ 290 → hs.length + HD.length < 60 → rp S0 p N m sc (f :: FR) (hs ++ HD) VS SG md en S → hw N wb lo hs mid W → gen_is N mid m v F w → (N v).2.2.2.2 = false → wb ≤ w → ∃ (S1 : rm_S) (N1 : Nat → nd_T) (v1 : Nat), (∀ (a1 : Int32) (Q : rm_S → Prop) (K : Int32 → rm_S → Prop), K (nI v1) S1 → ∃ n : Nat, wl_completed_9 a1 (nI FR.length) Q K n (nI v) S) ∧ rp S0 p N1 (m + hs.length) sc (f :: FR) HD VS SG md en S1 ∧ (∀ i, i < lo → N1 i = N i) ∧ gen_is N1 lo (m + hs.length) v1 (W F) (w + 6 * hs.length) ∧ (N1 v1).2.2.2.2 = false := by
  intro hs
  induction hs with
  | nil =>
    intro N m mid v w W F S _ _ _ h hh hg hv _
    have ht := rp_top h
    obtain ⟨hh1, rfl⟩ := hh
    have h26 : S.1 26 = nI HD.length := h.2.2.2.2.2.2.1.1
    refine ⟨S, N, v, fun a1 Q K hK => ⟨1, ht.2.1, fun _ => hK, fun h9 => absurd ?_ h9⟩, h, fun _ _ => rfl, gen_up hg hh1 (Nat.le_refl _) (Nat.le_refl _), hv⟩
    rw [ht.2.2.1, ht.2.2.2.2.2.1, h26, hfh]
    exact nI_le (Nat.le_refl _) (by omega)
  | cons x t ih =>
    intro N m mid v w W F S hl1 hl2 hl3 h hh hg hv hwb
    have hl1 : t.length + 1 ≤ 50 := hl1
    have hl2 : m + (t.length + 1) ≤ 290 := hl2
    have hl3 : t.length + 1 + HD.length < 60 := hl3
    have ht := rp_top h
    have a1 := hg.1
    have a2 := hg.2.1
    obtain ⟨mid0, W0, hh1, hh2⟩ := hh
    obtain ⟨c0, e26, e27, e28⟩ := rp_hpop (HD := t ++ HD) h
    have hlen : (t ++ HD).length = t.length + HD.length := List.length_append
    rw [hlen] at c0 e26 e27 e28
    have h261 : S.1 26 - 1 = nI (t.length + HD.length) := by rw [e26, nI_pred]
    have hcl : (nI (t.length + HD.length)).toNatClampNeg = t.length + HD.length := nI_clamp (by omega)
    have hv60 : vp_in (nI (t.length + HD.length)) 60 := nI_vp (by omega) (by omega)
    have hne : ¬ S.1 26 ≤ S.2 19 (nI FR.length).toNatClampNeg := by
      rw [ht.2.2.1, ht.2.2.2.2.2.1, e26, hfh]; exact nI_ge (by omega) (by omega)
    obtain ⟨q1, c1⟩ := rp_node (k := x.1) (v := 0) c0 (by omega)
    have hq26 : (rs_node (rm_pf S 26 (nI (t.length + HD.length))) x.1 0).1 26 = nI (t.length + HD.length) := rfl
    have hq28 : (rs_node (rm_pf S 26 (nI (t.length + HD.length))) x.1 0).2 28 = S.2 28 := rfl
    rcases hh2 with ⟨rfl, e2, rfl⟩ | ⟨b, B, e1, e2, e3⟩
    · obtain ⟨S2, q2, c2, o2⟩ := rp_add (n := m) (c := v) c1 (by omega) (by omega) (by omega) (by rw [nd_new_n (by omega)]; exact hv)
      have hgn : gen_is (nd_add (nd_new N m 5 0) m v) mid0 (m + 1) m (fr_fun F) (w + 6) := by
        refine gen_fun (a := v) (h2 := m) (nd_eta _ (by rw [nd_add_k, nd_new_s]) rfl (by rw [nd_add_ch (by omega), if_pos rfl, nd_new_s]; rfl)) (gen_up (gen_N hg (fun i i1 i2 => (nq_add (by omega)).tr (by rw [nd_new_n (by omega)]; exact nq.rf))) e2 (Nat.le_refl _) (Nat.le_refl _)) (Nat.le_refl _) (by omega) (by omega)
      obtain ⟨S3, N3, v3, q3, c3, d3, g3, r3⟩ := ih (nd_add (nd_new N m 5 0) m v) (m + 1) mid0 m (w + 6) W0 (fr_fun F) S2 (by omega) (by omega) (by omega) c2 (hw_N (Nat.le_refl _) hh1 (fun i hi9 => by rw [nd_add_o (by omega) (by omega), nd_new_n (by omega)]) (Nat.le_refl _)) hgn (by rw [nd_add_fl (by omega), if_neg (by omega), nd_new_s]) (by omega)
      have hle := hw_le hh1
      refine ⟨S3, N3, v3, fun a1 Q K hK => ?_, ?_, fun i hi9 => ?_, ?_, r3⟩
      · obtain ⟨n, hn⟩ := q3 a1 Q K hK
        refine ⟨n + 1, ht.2.1, fun h9 => absurd h9 hne, fun _ => ⟨by rw [h261]; exact hv60, ?_⟩⟩
        rw [h261, hcl, e27]
        refine q1 _ ⟨hv60, fun _ => q2 _ hn, fun h9 => absurd ?_ h9⟩
        rw [hq26, hcl, hq28, e28]; decide
      · rw [List.length_cons, show m + (t.length + 1) = m + 1 + t.length by omega]; exact c3
      · rw [d3 i hi9, nd_add_o (by omega) (by omega), nd_new_n (by omega)]
      · rw [List.length_cons, show m + (t.length + 1) = m + 1 + t.length by omega, show w + 6 * (t.length + 1) = w + 6 + 6 * t.length by omega]; exact g3
    · have b1 := e1.1
      have b2 := e1.2.1
      have hle := hw_le hh1
      obtain ⟨S2, q2, c2, o2⟩ := rp_add (n := m) (c := b) c1 (by omega) (by omega) (by omega) (by rw [nd_new_n (by omega)]; exact e2)
      obtain ⟨S3, q3, c3, o3⟩ := rp_add (n := m) (c := v) c2 (by omega) (by omega) (by omega) (by rw [nd_add_fl (by omega), if_neg (by omega), nd_new_n (by omega)]; exact hv)
      have hx2 : x.2 = nI b := by rcases e3 with ⟨rfl, _⟩ | ⟨rfl, _⟩ <;> rfl
      have hqn : ∀ i, i < m → nq (nd_add (nd_add (nd_new N m x.1 0) m b) m v i) (N i) := fun i hi9 => (nq_add (by omega)).tr ((nq_add (by omega)).tr (by rw [nd_new_n (by omega)]; exact nq.rf))
      have hch : (nd_add (nd_add (nd_new N m x.1 0) m b) m v m).2.2.1 = [b, v] := by
        rw [nd_add_ch (by omega), if_pos rfl, nd_add_ch (by omega), if_pos rfl, nd_new_s]; rfl
      have hk1 : (nd_add (nd_add (nd_new N m x.1 0) m b) m v m).1 = x.1 := by rw [nd_add_k, nd_add_k, nd_new_s]
      have hgn : ∃ W1 : fr_F → fr_F, W = (fun F => W0 (W1 F)) ∧ gen_is (nd_add (nd_add (nd_new N m x.1 0) m b) m v) mid0 (m + 1) m (W1 F) (w + 6) := by
        have ga := gen_N (N1 := nd_add (nd_add (nd_new N m x.1 0) m b) m v) e1 (fun i _ i2 => hqn i (by omega))
        have gb := gen_N (N1 := nd_add (nd_add (nd_new N m x.1 0) m b) m v) hg (fun i _ i2 => hqn i i2)
        rcases e3 with ⟨rfl, rfl⟩ | ⟨rfl, rfl⟩
        · exact ⟨fr_let B, rfl, gen_let (nd_eta _ hk1 rfl hch) ga gb (Nat.le_refl _) (by omega) (by omega) (by omega)⟩
        · exact ⟨fr_fix B, rfl, gen_fix (nd_eta _ hk1 rfl hch) ga gb (Nat.le_refl _) (by omega) (by omega) (by omega)⟩
      obtain ⟨W1, rfl, hgn⟩ := hgn
      obtain ⟨S4, N4, v4, q4, c4, d4, g4, r4⟩ := ih _ (m + 1) mid0 m (w + 6) W0 (W1 F) S3 (by omega) (by omega) (by omega) c3 (hw_N (Nat.le_refl _) hh1 (fun i hi9 => by rw [nd_add_o (by omega) (by omega), nd_add_o (by omega) (by omega), nd_new_n (by omega)]) (Nat.le_refl _)) hgn (by rw [nd_add_fl (by omega), if_neg (by omega), nd_add_fl (by omega), if_neg (by omega), nd_new_s]) (by omega)
      refine ⟨S4, N4, v4, fun a1 Q K hK => ?_, ?_, fun i hi9 => ?_, ?_, r4⟩
      · obtain ⟨n, hn⟩ := q4 a1 Q K hK
        refine ⟨n + 1, ht.2.1, fun h9 => absurd h9 hne, fun _ => ⟨by rw [h261]; exact hv60, ?_⟩⟩
        rw [h261, hcl, e27]
        refine q1 _ ⟨hv60, fun h9 => absurd h9 ?_, fun _ => ⟨hv60, ?_⟩⟩
        · rw [hq26, hcl, hq28, e28, hx2]; exact nI_pos (by omega)
        · rw [hq26, hcl, hq28, e28, hx2]; exact q2 _ (q3 _ hn)
      · rw [List.length_cons, show m + (t.length + 1) = m + 1 + t.length by omega]; exact c4
      · rw [d4 i hi9, nd_add_o (by omega) (by omega), nd_add_o (by omega) (by omega), nd_new_n (by omega)]
      · rw [List.length_cons, show m + (t.length + 1) = m + 1 + t.length by omega, show w + 6 * (t.length + 1) = w + 6 + 6 * t.length by omega]; exact g4
/-- the frame is left -/
def rs_ret (S : rm_S) (k o : Nat) : rm_S := rm_pf (rm_pf S 15 (nI k)) 17 (nI o)
theorem rp_ret {N : Nat → nd_T} (h : rp S0 p N m sc (f :: FR) HD VS SG md en S) (hk : f.2.2.2.1 ≤ sc.length) : rp S0 p N m (sc.take f.2.2.2.1) FR HD VS SG md en (rs_ret S f.2.2.2.1 FR.length) := by
  obtain ⟨h1, h2, h3, h4, h5, h6, h7, h8, h9, ha, hb⟩ := h
  have hl : (sc.take f.2.2.2.1).length = f.2.2.2.1 := by rw [List.length_take]; omega
  refine ⟨rx_pf (rx_pf h1 (by decide)) (by decide), h2, h3, h4, ⟨?_, fun j hj => ?_, fun c hc => h5.2.2 c (List.mem_of_mem_take hc)⟩, ⟨rfl, by have := h6.2.1; have h6 : FR.length + 1 ≤ 6 := this; omega, h6.2.2.2⟩, h7, h8, h9, ha, hb⟩
  · rw [hl]; rfl
  · rw [hl] at hj
    show S.2 16 j = _
    rw [h5.2.1 j (by omega)]
    simp only [List.getD_eq_getElem?_getD]
    rw [List.getElem?_take, if_pos hj]
theorem sw_get {N : Nat → nd_T} {w : Int32} {Q : rm_S → Prop} (h : rp S0 p N m sc (f :: FR) HD VS SG md en S) : vp_in (nI FR.length) 8 ∧ (nI FR.length).toNatClampNeg = FR.length ∧ S.2 18 FR.length = nI f.1 ∧ S.2 20 FR.length = nI f.2.2.2.1 ∧ S.1 17 - 1 = nI FR.length ∧ S.2 22 FR.length = f.2.1 ∧ S.2 23 FR.length = f.2.2.2.2.2.1 := by
  have ht := rp_top h
  exact ⟨ht.2.1, ht.2.2.1, ht.2.2.2.1, ht.2.2.2.2.2.2.1, ht.1, ht.2.2.2.2.1, ht.2.2.2.2.2.2.2.2.1⟩
theorem sw_0 {N : Nat → nd_T} {w : Int32} {Q : rm_S → Prop} (h : rp S0 p N m sc (f :: FR) HD VS SG md en S) (hs : f.1 = 0) (hQ : ((S.1 3) ≤ (S.1 5) → Q (rm_pf (rm_pf (rs_ret S f.2.2.2.1 FR.length) 34 w) 33 4)) ∧ (¬ (S.1 3) ≤ (S.1 5) → Q (rm_pf (rm_pf (rm_pf (rs_ret S f.2.2.2.1 FR.length) 34 w) 6 1) 33 4))) : cm_sw (nI FR.length) S w Q := by
  obtain ⟨a1, a2, a3, a4, a5, a6, a7⟩ := sw_get (w := w) (Q := Q) h
  have a3 : S.2 18 FR.length = 0 := by rw [a3, hs]; rfl
  unfold cm_sw
  simp (decide := true) only [a1, a2, a3, a4, a5, not_false_eq_true, not_true_eq_false, false_implies, true_implies, and_true, true_and, and_self]
  exact hQ
theorem sw_3 {N : Nat → nd_T} {w : Int32} {Q : rm_S → Prop} (h : rp S0 p N m sc (f :: FR) HD VS SG md en S) (hs : f.1 = 3) (hQ : wp_fieldEnds (rs_ret S f.2.2.2.1 FR.length) f.2.1 w Q) : cm_sw (nI FR.length) S w Q := by
  obtain ⟨a1, a2, a3, a4, a5, a6, a7⟩ := sw_get (w := w) (Q := Q) h
  have a3 : S.2 18 FR.length = 3 := by rw [a3, hs]; rfl
  unfold cm_sw
  simp (decide := true) only [a1, a2, a3, a4, a5, a6, not_false_eq_true, not_true_eq_false, false_implies, true_implies, and_true, true_and, and_self]
  exact hQ
theorem sw_4 {N : Nat → nd_T} {v : Nat} {Q : rm_S → Prop} (h : rp S0 p N m sc (f :: FR) HD VS SG md en S) (hs : f.1 = 4) (hv : v < 300) (hQ : wp_want (rs_ret S f.2.2.2.1 FR.length) 41 (fun S44 => wp_push (rm_pa S44 14 v 1) (nI v) Q)) : cm_sw (nI FR.length) S (nI v) Q := by
  obtain ⟨a1, a2, a3, a4, a5, a6, a7⟩ := sw_get (w := nI v) (Q := Q) h
  have a3 : S.2 18 FR.length = 4 := by rw [a3, hs]; rfl
  have hvp : vp_in (nI v) 300 := nI_vp hv (by omega)
  have hvc : (nI v).toNatClampNeg = v := nI_clamp (by omega)
  unfold cm_sw
  simp (decide := true) only [a1, a2, a3, a4, a5, hvp, hvc, not_false_eq_true, not_true_eq_false, false_implies, true_implies, and_true, true_and, and_self]
  exact hQ
theorem sw_5 {N : Nat → nd_T} {w : Int32} {Q : rm_S → Prop} (h : rp S0 p N m sc (f :: FR) HD VS SG md en S) (hs : f.1 = 5) (hQ : wp_want (rs_ret S f.2.2.2.1 FR.length) 59 (fun S50 => wp_addChild S50 (S50.2 22 FR.length) w (fun S53 => wp_caseEnds (rm_pf S53 33 3) Q))) : cm_sw (nI FR.length) S w Q := by
  obtain ⟨a1, a2, a3, a4, a5, a6, a7⟩ := sw_get (w := w) (Q := Q) h
  have a3 : S.2 18 FR.length = 5 := by rw [a3, hs]; rfl
  unfold cm_sw
  simp (decide := true) only [a1, a2, a3, a4, a5, not_false_eq_true, not_true_eq_false, false_implies, true_implies, and_true, true_and, and_self]
  exact hQ
theorem sw_6 {N : Nat → nd_T} {w : Int32} {Q : rm_S → Prop} (h : rp S0 p N m sc (f :: FR) HD VS SG md en S) (hs : f.1 = 6 ∨ f.1 = 7) (hQ : wp_want (rs_ret S f.2.2.2.1 FR.length) 59 (fun S58 => wp_bind S58 (S58.2 23 FR.length) (fun S61 => wp_head S61 (S61.2 18 FR.length) w (fun S64 => Q (rm_pf S64 33 0))))) : cm_sw (nI FR.length) S w Q := by
  obtain ⟨a1, a2, a3, a4, a5, a6, a7⟩ := sw_get (w := w) (Q := Q) h
  rcases hs with hs | hs
  · have a3 : S.2 18 FR.length = 6 := by rw [a3, hs]; rfl
    unfold cm_sw
    simp (decide := true) only [a1, a2, a3, a4, a5, not_false_eq_true, not_true_eq_false, false_implies, true_implies, and_true, true_and, and_self]
    exact hQ
  · have a3 : S.2 18 FR.length = 7 := by rw [a3, hs]; rfl
    unfold cm_sw
    simp (decide := true) only [a1, a2, a3, a4, a5, not_false_eq_true, not_true_eq_false, false_implies, true_implies, and_true, true_and, and_self]
    exact hQ
end CP
/-- a frame in which something was compared, or matched -/
def fm (f : rf_T) (c mt : Int32) : rf_T := (f.1, f.2.1, f.2.2.1, f.2.2.2.1, f.2.2.2.2.1, f.2.2.2.2.2.1, c, mt)
def isCmp (tx : Nat → Nat) (L p : Nat) : Prop := rd_ch tx L p = 60 ∨ rd_ch tx L p = 126
/-- what an expression, read in a frame from its beginning, comes to -/
def XE (S0 : rm_S) (L : Nat) (tx : Nat → Nat) (p : Nat) (N : Nat → nd_T) (m : Nat) (sc : List Nat) (f : rf_T) (FR : List rf_T) (HD : List (Int32 × Int32)) (VS SG : List Nat) (S : rm_S) (p1 : Nat) (F : fr_F) : Prop := (isCmp tx L p1 ∧ ILL S0 S p1) ∨ (∃ (S1 : rm_S) (N1 : Nat → nd_T) (m1 v w : Nat) (ys : List Nat) (c mt md : Int32), rp S0 p1 N1 m1 (sc ++ ys) (fm f c mt :: FR) HD VS SG md 0 S1 ∧ (∀ i, i < m → N1 i = N i) ∧ gen_is N1 m m1 v F w ∧ (N1 v).2.2.2.2 = false ∧ m1 + 1 + 2 * p ≤ m + 2 * p1 ∧ w + 3 + 6 * p ≤ 6 * p1 ∧ ∀ S2 : rm_S, (∀ Q : rm_S → Prop, Q S2 → cm_sw (nI FR.length) S1 (nI v) Q) → RTs S S2)
def SE (S0 : rm_S) (L : Nat) (tx : Nat → Nat) (E : List Nat → Nat → ps_Q fr_F) (fl : Nat) : Prop := ∀ (p : Nat) (N : Nat → nd_T) (m : Nat) (sc : List Nat) (f : rf_T) (FR : List rf_T) (HD : List (Int32 × Int32)) (VS SG : List Nat) (S : rm_S), FR.length = fl → rp S0 p N m sc (f :: FR) HD VS SG 0 0 S → p ≤ L → bd_ok p m sc HD VS SG 0 → f.2.2.1 = HD.length → f.2.2.2.2.1 = SG.length → f.2.2.2.2.2.2.1 = 0 → f.2.2.2.2.2.2.2 = -1 → out (E sc p) (ILL S0 S) (XE S0 L tx p N m sc f FR HD VS SG S)
/-- the level below: none, or expressions in a further frame -/
def SX (S0 : rm_S) (L : Nat) (tx : Nat → Nat) (E : List Nat → Nat → ps_Q fr_F) (fl : Nat) : Prop := (fl = 6 ∧ ∀ sc p, E sc p = .inl p) ∨ (fl < 6 ∧ SE S0 L tx E fl)
