/-! ATOMS -/
theorem nI_dig2 {v c : Nat} (hc : 48 ≤ c) : ((10 * nI v) + nI c) - 48 = nI (10 * v + (c - 48)) := by
  have e : (10 : Int32) * nI v = nI (10 * v) := (Int32.ofNat_mul 10 v).symm
  obtain ⟨d, rfl⟩ := Nat.exists_eq_add_of_le hc
  rw [e, nI_add, show 10 * v + (48 + d) = 10 * v + (48 + d - 48) + 48 by omega, ← nI_add]
  show nI (10 * v + (48 + d - 48)) + (48 : Int32) - 48 = _
  rw [Int32.add_sub_cancel]
theorem ps_xp_t {tx : Nat → Nat} {L c p : Nat} {β : Type} {k : Nat → ps_Q β} (h : rd_ch tx L p = c) : ps_xp tx L c p k = k (p + 1) := if_pos h
theorem ps_xp_f {tx : Nat → Nat} {L c p : Nat} {β : Type} {k : Nat → ps_Q β} (h : ¬ rd_ch tx L p = c) : ps_xp tx L c p k = .inl p := if_neg h
section AT
variable {S0 S : rm_S} {L p m : Nat} {tx : Nat → Nat} {N : Nat → nd_T} {sc : List Nat} {FR : List rf_T} {HD : List (Int32 × Int32)} {VS SG : List Nat} {md en : Int32}
theorem l_rnum (ht : rt_ok S0 L tx) : ∀ (r i v p : Nat) (S : rm_S), i + r = 4 → p ≤ L → rp S0 p N m sc FR HD VS SG md en S → ∃ S' : rm_S, rp S0 (ps_dg tx L r p v).1 N m sc FR HD VS SG md en S' ∧ ∀ (Q : rm_S → Prop) (K : Int32 → Int32 → rm_S → Prop), (∀ x, K (nI (ps_dg tx L r p v).2) x S') → wl_readNumeral_4 Q K (r + 1) (nI v) (nI i) S := by
  intro r
  induction r with
  | zero =>
    intro i v p S hi _ h
    have e : i = 4 := by omega
    subst e
    exact ⟨S, h, fun Q K hK => ⟨fun _ => hK _, fun h9 => absurd (nI_le (a := 4) (b := 4) (by omega) (by omega)) h9⟩⟩
  | succ r ih =>
    intro i v p S hi hp h
    have hlt : ¬ (4 : Int32) ≤ nI i := nI_ge (a := i) (b := 4) (by omega) (by omega)
    by_cases hd : 48 ≤ rd_ch tx L p ∧ rd_ch tx L p ≤ 57
    · have e : ps_dg tx L (r + 1) p v = ps_dg tx L r (p + 1) (10 * v + (rd_ch tx L p - 48)) := if_pos hd
      have hpl : p < L := rd_ch_in (tx := tx) (by omega)
      obtain ⟨S', c1, q1⟩ := ih (i + 1) (10 * v + (rd_ch tx L p - 48)) (p + 1) _ (by omega) hpl (rp_at5 h (p + 1))
      rw [e]
      refine ⟨S', c1, fun Q K hK => ⟨fun h9 => absurd h9 hlt, fun _ => rp_lk ht h hp (w_isDigit (rt_ch ht p) ⟨fun h9 => absurd hd (ch_b0.mp h9), fun _ => rp_lk ht h hp ?_⟩)⟩⟩
      rw [nI_dig2 hd.1, h.2.1, nI_1, nI_1]
      exact q1 Q K hK
    · have e : ps_dg tx L (r + 1) p v = (p, v) := if_neg hd
      rw [e]
      exact ⟨S, h, fun Q K hK => ⟨fun h9 => absurd h9 hlt, fun _ => rp_lk ht h hp (w_isDigit (rt_ch ht p) ⟨fun _ => hK _, fun h9 => absurd (ch_b0.mpr hd) h9⟩)⟩⟩
theorem l_rname (ht : rt_ok S0 L tx) (h : rp S0 p N m sc FR HD VS SG md en S) (hp : p ≤ L) (hl : sc.length ≤ 90) : ∀ (i k : Nat), i + k = sc.length → (∀ j, rd_fo (fun j => sc.getD j 0) (rd_ch tx L p) i k = some j → ∀ (Q : rm_S → Prop) (K : Int32 → rm_S → Prop), K (nI (sc.length - 1 - j)) S → wl_readName_7 Q K (i + 1) (nI i - 1) S) ∧ (rd_fo (fun j => sc.getD j 0) (rd_ch tx L p) i k = none → ∀ (Q : rm_S → Prop) (K : Int32 → rm_S → Prop), K (-1) S → wl_readName_7 Q K (i + 1) (nI i - 1) S) := by
  intro i
  induction i with
  | zero =>
    intro k hk
    refine ⟨fun j hj => (by cases hj), fun _ Q K hK => ⟨fun _ => hK, fun h9 => absurd (show (nI 0 - 1 : Int32) < 0 by decide) h9⟩⟩
  | succ i ih =>
    intro k hk
    have h5 := h.2.2.2.2.1
    have hci : S.2 16 i = nI (sc.getD i 0) := h5.2.1 i (by omega)
    have hcv : sc.getD i 0 < 65536 := by
      rw [List.getD_eq_getElem?_getD, List.getElem?_eq_getElem (by omega)]
      exact h5.2.2 _ (List.getElem_mem _)
    have hch := rt_ch ht p
    have step : ∀ (Q : rm_S → Prop) (K : Int32 → rm_S → Prop), (sc.getD i 0 = rd_ch tx L p → K (nI i) S) → (¬ sc.getD i 0 = rd_ch tx L p → wl_readName_7 Q K (i + 1) (nI i - 1) S) → wl_readName_7 Q K (i + 1 + 1) (nI (i + 1) - 1) S := by
      intro Q K h1 h2
      rw [nI_pred]
      refine ⟨fun h9 => absurd h9 (nI_pos (by omega)), fun _ => ⟨nI_vp (by omega) (by omega), rp_lk ht h hp ⟨fun h9 => ?_, fun h9 => ?_⟩⟩⟩
      · rw [nI_clamp (by omega), hci] at h9
        exact h1 ((nI_eq (by omega) (by omega)).mp h9)
      · rw [nI_clamp (by omega), hci] at h9
        have := h2 (fun e => h9 (by rw [e]))
        rw [← nI_dec] at this
        exact this
    have hrec := ih (k + 1) (by omega)
    by_cases he : sc.getD i 0 = rd_ch tx L p
    · refine ⟨fun j hj Q K hK => ?_, fun hj => ?_⟩
      · unfold rd_fo at hj
        rw [if_pos he] at hj
        cases hj
        refine step Q K (fun _ => ?_) (fun h9 => absurd he h9)
        rw [show i = sc.length - 1 - k by omega]; exact hK
      · unfold rd_fo at hj; rw [if_pos he] at hj; cases hj
    · refine ⟨fun j hj Q K hK => ?_, fun hj Q K hK => ?_⟩
      · unfold rd_fo at hj; rw [if_neg he] at hj
        exact step Q K (fun h9 => absurd h9 he) (fun _ => hrec.1 j hj Q K hK)
      · unfold rd_fo at hj; rw [if_neg he] at hj
        exact step Q K (fun h9 => absurd h9 he) (fun _ => hrec.2 hj Q K hK)
/-- a leaf: a node, pushed -/
theorem leaf_push {f : rf_T} {S1 : rm_S} {k v p1 kk : Nat} {kd : Int32} (h : rp S0 p1 N m sc (f :: FR) HD VS SG 1 0 S1) (hm : m < 300) (hv : VS.length < 100) (hk : (kd = 0 ∧ k = 1) ∨ (kd = 1 ∧ k = 2) ∨ (kd = 4 ∧ k = 16)) (hr : RTs S (rs_push (rs_node S1 kd (nI v)) VS.length (nI m))) (hp : p < p1) : ∃ (S' : rm_S) (N' : Nat → nd_T) (m' x w : Nat), RTs S S' ∧ rp S0 p1 N' m' sc (f :: FR) HD (x :: VS) SG 2 0 S' ∧ (∀ i, i < m → N' i = N i) ∧ gen_is N' m m' x (fr_1 k v) w ∧ (N' x).2.2.2.2 = false ∧ ((N' x).1 = 3 → (N' x).2.2.2.1 = true) ∧ m' + 1 + 2 * p ≤ m + 2 * p1 ∧ w + 3 + 6 * p ≤ 6 * p1 := by
  obtain ⟨q1, c1⟩ := rp_node (k := kd) (v := nI v) h hm
  refine ⟨_, nd_new N m kd (nI v), m + 1, m, 1, hr, rp_push c1, fun i hi => nd_new_n (by omega), gen_leaf (by rw [nd_new_s]) hk (Nat.le_refl _) (by omega), by rw [nd_new_s], fun h9 => ?_, by omega, by omega⟩
  rw [nd_new_s] at h9
  have h9 : kd = 3 := h9
  rcases hk with ⟨rfl, _⟩ | ⟨rfl, _⟩ | ⟨rfl, _⟩ <;> exact absurd h9 (by decide)
theorem w_push_il {v : Int32} (h : rp_il S0 p S) (hv : vs_at VS S) (hl : VS.length < 100) : (∀ Q : rm_S → Prop, Q (rs_push S VS.length v) → wp_push S v Q) ∧ rp_il S0 p (rs_push S VS.length v) := ⟨fun Q hQ => w_push hv hl hQ, il_pf (il_pf (il_pa h (by decide)) (by decide) (by decide)) (by decide) (by decide)⟩
theorem fm_sc {f : rf_T} {c mt : Int32} : (fm f c mt).2.2.2.1 = f.2.2.2.1 := rfl
/-- a field is read: T is the state in which begin is called -/
theorem fld_core {E : List Nat → Nat → ps_Q fr_F} {f : rf_T} {n p0 tag i wb : Nat} {cs : List Nat} {B : fr_F} {Sp T : rm_S} (hX : SX S0 L tx E (FR.length + 1)) (ht : rt_ok S0 L tx) (htag : tag < 8) (hb0 : bd_ok p0 n sc HD VS SG 1) (hp0 : p0 ≤ L) (hp : p ≤ L) (hT : rp S0 p N m sc (f :: FR) HD VS SG md 0 T) (hn : n < m) (n1 : (N n).1 = 4) (n2 : (N n).2.1 = nI tag) (n3 : (N n).2.2.1 = cs) (n4 : (N n).2.2.2.2 = false) (hi : cs.length = i) (hB : seg N (fun j => n < j ∧ j < m) (fldU cs) B wb) (hm : m + 2 * p0 + 2 ≤ n + 2 * p + 1) (hi3 : i < 3) (hgo : ∀ S2 : rm_S, (∀ Q : rm_S → Prop, Q S2 → wp_begin T 3 (nI n) Q) → RTs Sp S2) : out (E sc p) (ILL S0 Sp) (fun p2 A => (isCmp tx L p2 ∧ ILL S0 Sp p2) ∨ ∃ (S4 : rm_S) (N4 : Nat → nd_T) (m4 v w : Nat) (md4 : Int32), rp S0 p2 N4 m4 sc (f :: FR) HD VS SG md4 0 S4 ∧ (N4 n).1 = 4 ∧ (N4 n).2.1 = nI tag ∧ (N4 n).2.2.1 = cs ++ [v] ∧ (N4 n).2.2.2.2 = false ∧ (∀ j, j < n → N4 j = N j) ∧ m ≤ m4 ∧ seg N4 (fun j => n < j ∧ j < m4) (fldU (cs ++ [v])) (fr_ap (if i = 0 then B else fr_ap B (fr_1 3 0)) A) (max (wb + 2) (w + 2)) ∧ m4 + 1 + 2 * p ≤ m + 2 * p2 ∧ w + 3 + 6 * p ≤ 6 * p2 ∧ ∀ S2 : rm_S, (∀ Q : rm_S → Prop, Q S2 → ((nI (tag % 4) ≤ nI (i + 1) → wp_want S4 41 (fun S7 => wp_push S7 (nI n) Q)) ∧ (¬ nI (tag % 4) ≤ nI (i + 1) → wp_want S4 44 (fun S11 => ((¬ (S11.1 6) = 0 → Q S11) ∧ ((S11.1 6) = 0 → wp_begin S11 3 (nI n) Q)))))) → RTs Sp S2) := by
  have hL := ht.2.1
  obtain ⟨g1, g2, g3, g4, g5⟩ := hb0
  have hfl : (f :: FR).length = FR.length + 1 := rfl
  rcases hX with ⟨h6, hE0⟩ | ⟨h6, hSE⟩
  · rw [hE0]
    exact ⟨_, hgo _ (fun Q hQ => w_begin_0 hT (by omega) hQ), rp_il6 hT⟩
  · have c1 := rp_begin (a := 3) (a2 := nI n) hT (by omega)
    have s1 := hgo _ (fun Q hQ => w_begin_1 hT (by omega) hQ)
    refine out_mono (hSE p N m sc _ (f :: FR) HD VS SG _ rfl c1 hp ⟨by omega, by omega, by omega, by omega, by omega⟩ rfl rfl rfl rfl) (fun q hq => ?_) (fun p2 A _ hq => ?_)
    · obtain ⟨S3, a1, a2⟩ := hq; exact ⟨S3, s1.tr a1, a2⟩
    · rcases hq with ⟨hc, S3, a1, a2⟩ | ⟨S1, N1, m1, v, w, ys, c, mt, md1, a1, a2, a3, a4, a5, a6, a7⟩
      · exact Or.inl ⟨hc, S3, s1.tr a1, a2⟩
      · right
        have b1 := a3.1
        have b2 := a3.2.1
        have hret := rp_ret a1 (by rw [fm_sc, List.length_append]; show sc.length ≤ _; omega)
        have htk : (sc ++ ys).take sc.length = sc := List.take_left' rfl
        have hret : rp S0 p2 N1 m1 sc (f :: FR) HD VS SG md1 0 (rs_ret S1 sc.length (f :: FR).length) := by
          rw [fm_sc] at hret
          have e : (sc ++ ys).take ((3, nI n, HD.length, sc.length, SG.length, T.2 23 (f :: FR).length, (0 : Int32), (-1 : Int32)) : rf_T).2.2.2.1 = sc := htk
          rw [e] at hret; exact hret
        have hnN : N1 n = N n := a2 n hn
        obtain ⟨S4, q4, c4, o4⟩ := rp_add (n := n) (c := v) hret (by omega) (by omega) (by omega) a4
        have hvn : v ≠ n := by omega
        have hm300 := c4.2.2.2.1.2.1
        have e10 : S4.2 10 n = nI tag := by
          rw [(c4.2.2.2.1.2.2.1 n (by omega)).2.1, nd_add_v, hnN, n2]
        have e13 : S4.2 13 n = nI (i + 1) := by
          rw [(c4.2.2.2.1.2.2.1 n (by omega)).2.2.2.2.1, nd_add_ch hvn, if_pos rfl, List.length_append, hnN, n3, hi]; rfl
        have hvp : vp_in (nI n) 300 := nI_vp (by omega) (by omega)
        have hvc : (nI n).toNatClampNeg = n := nI_clamp (by omega)
        refine ⟨S4, nd_add N1 n v, m1, v, w, md1, c4, ?_, ?_, ?_, ?_, fun j hj => ?_, by omega, ?_, a5, a6, fun S2 hS2 => ?_⟩
        · rw [nd_add_k, hnN]; exact n1
        · rw [nd_add_v, hnN]; exact n2
        · rw [nd_add_ch hvn, if_pos rfl, hnN, n3]
        · rw [nd_add_fl hvn, if_neg (by omega), hnN]; exact n4
        · rw [nd_add_o (by omega) (by omega), a2 j (by omega)]
        · rw [fldU_c]
          have sB : seg (nd_add N1 n v) (fun j => n < j ∧ j < m) (fldU cs) B wb := seg_N hB (fun j hj => (nq_add (by omega)).tr (by rw [a2 j hj.2]; exact nq.rf))
          have sA : seg (nd_add N1 n v) (iv_r m m1) [(0, nI v, 0)] A w := seg_N a3.2.2 (fun j hj => nq_add (by have := hj.1; omega))
          by_cases h0 : i = 0
          · have hcs : cs = [] := List.eq_nil_of_length_eq_zero (by omega)
            rw [if_pos h0, if_pos hcs]
            exact seg_iv (seg_app (w3 := max (wb + 2) (w + 2)) sB sA (fun j h8 h9 => by have := h9.1; have := h8.2; omega) (by simp only [List.length_cons, List.length_nil]; omega) (by omega)) (fun j hj => hj.elim (fun h => ⟨h.1, by omega⟩) (fun h => ⟨by have := h.1; omega, h.2⟩)) (Nat.le_refl _)
          · have hcs : ¬ cs = [] := fun h => h0 (by rw [← hi, h]; rfl)
            rw [if_neg h0, if_neg hcs, fr_ap_as]
            exact seg_iv (seg_app (w3 := max (wb + 2) (w + 2)) sB (seg_ce (k := 3) (a := 0) (seg_iv sA (fun j h => h) (show w ≤ w + 2 by omega)) (by simp)) (fun j h8 h9 => by have := h9.1; have := h8.2; omega) (by simp; omega) (by omega)) (fun j hj => hj.elim (fun h => ⟨h.1, by omega⟩) (fun h => ⟨by have := h.1; omega, h.2⟩)) (Nat.le_refl _)
        · exact s1.tr (a7 S2 (fun Q hQ => sw_3 a1 rfl (show wp_fieldEnds (rs_ret S1 sc.length (f :: FR).length) (nI n) (nI v) Q from q4 _ ⟨hvp, hvp, by
            rw [hvc, e10, e13, nI_m4 htag]
            exact hS2 Q hQ⟩)))
/-- the fields of a construction -/
theorem sim_fld {E : List Nat → Nat → ps_Q fr_F} {f : rf_T} {n p0 tag : Nat} {N0 : Nat → nd_T} {Sp : rm_S} (hX : SX S0 L tx E (FR.length + 1)) (hE : ∀ sc p, p ≤ L → ps_ad L p (E sc p)) (ht : rt_ok S0 L tx) (htag : tag < 8) (hb0 : bd_ok p0 n sc HD VS SG 1) (hp0 : p0 ≤ L) : ∀ (r i p m : Nat) (N : Nat → nd_T) (cs : List Nat) (B : fr_F) (wb : Nat) (md : Int32) (T : rm_S), p ≤ L → i + r + 1 = tag % 4 → rp S0 p N m sc (f :: FR) HD VS SG md 0 T → n < m → (N n).1 = 4 → (N n).2.1 = nI tag → (N n).2.2.1 = cs → (N n).2.2.2.2 = false → (∀ j, j < n → N j = N0 j) → cs.length = i → seg N (fun j => n < j ∧ j < m) (fldU cs) B wb → m + 2 * p0 + 2 ≤ n + 2 * p + 1 → wb + 2 * i + 9 + 6 * p0 ≤ 6 * p + 2 → (∀ S2 : rm_S, (∀ Q : rm_S → Prop, Q S2 → wp_begin T 3 (nI n) Q) → RTs Sp S2) → out (ps_bd (E sc p) (fun p2 A => ps_bd (ps_fl tx L E sc r (i + 1) p2 (fr_ap (if i = 0 then B else fr_ap B (fr_1 3 0)) A)) (fun p3 B' => ps_xp tx L 41 p3 (fun p4 => .inr (p4, fr_ap B' (fr_1 17 tag)))))) (ILL S0 Sp) (fun p4 F => ∃ (S' : rm_S) (N' : Nat → nd_T) (m' v w : Nat), RTs Sp S' ∧ rp S0 p4 N' m' sc (f :: FR) HD (v :: VS) SG 2 0 S' ∧ (∀ i, i < n → N' i = N0 i) ∧ gen_is N' n m' v F w ∧ (N' v).2.2.2.2 = false ∧ ((N' v).1 = 3 → (N' v).2.2.2.1 = true) ∧ m' + 1 + 2 * p0 ≤ n + 2 * p4 ∧ w + 3 + 6 * p0 ≤ 6 * p4) := by
  have hL := ht.2.1
  have hb := hb0
  obtain ⟨g1, g2, g3, g4, g5⟩ := hb
  have ht4 : tag % 4 < 4 := Nat.mod_lt _ (by omega)
  intro r
  induction r with
  | zero =>
    intro i p m N cs B wb md T hp hr hT hn n1 n2 n3 n4 n5 hi hB hm hw hgo
    refine out_bd (out_mono (fld_core hX ht htag hb0 hp0 hp hT hn n1 n2 n3 n4 hi hB hm (by omega) hgo) (fun q hq => hq) (fun p2 A e hq _ => ?_))
    have hadv := hE sc p hp
    rw [e] at hadv
    have hp2 : p < p2 := hadv.1
    have hp2L : p2 ≤ L := hadv.2
    simp only [ps_fl, ps_bd_r]
    rcases hq with ⟨hc, hq⟩ | ⟨S4, N4, m4, v, w, md4, a1, a2, a3, a4, a5, a6, a7, a8, a9, aa, ab⟩
    · have : ¬ rd_ch tx L p2 = 41 := by rcases hc with h | h <;> omega
      rw [ps_xp_f this]; exact hq
    · have hle : nI (tag % 4) ≤ nI (i + 1) := nI_le (by omega) (by omega)
      have hvs : vs_at VS S4 := a1.2.2.2.2.2.2.2.1
      by_cases hc : rd_ch tx L p2 = 41
      · have hpl : p2 < L := rd_ch_in (tx := tx) (by omega)
        rw [ps_xp_t hc]
        have c5 := rp_push (v := n) (rp_at5 a1 (p2 + 1))
        refine ⟨_, N4, m4, n, 6 * p2 + 6 - (6 * p0 + 3), ab _ (fun Q hQ => ⟨fun _ => w_want_1 ht a1 hp2L hc (w_push (VS := VS) (S := rm_pf S4 5 (nI (p2 + 1))) hvs (by omega) hQ), fun h9 => absurd hle h9⟩), c5, fun j hj => (a6 j hj).trans (n5 j hj), ?_, a5, fun h9 => absurd (a2.symm.trans h9) (by decide), by omega, by omega⟩
        exact gen_built (nd_eta _ a2 a3 a4) (by simp) a8 (fun j hj => ⟨by omega, hj.2⟩) (Nat.le_refl _) (by omega) (by omega) (by rw [List.length_append, hi]; simp; omega)
      · rw [ps_xp_f hc]
        obtain ⟨q5, c5⟩ := w_push_il (v := nI n) (VS := VS) (rp_il6 a1) hvs (by omega)
        exact ⟨_, ab _ (fun Q hQ => ⟨fun _ => w_want_0 (c := 41) ht a1 hp2L (by omega) hc (q5 Q hQ), fun h9 => absurd hle h9⟩), c5⟩
  | succ r ih =>
    intro i p m N cs B wb md T hp hr hT hn n1 n2 n3 n4 n5 hi hB hm hw hgo
    refine out_bd (out_mono (fld_core hX ht htag hb0 hp0 hp hT hn n1 n2 n3 n4 hi hB hm (by omega) hgo) (fun q hq => hq) (fun p2 A e hq _ => ?_))
    have hadv := hE sc p hp
    rw [e] at hadv
    have hp2 : p < p2 := hadv.1
    have hp2L : p2 ≤ L := hadv.2
    have es : ps_bd (ps_fl tx L E sc (r + 1) (i + 1) p2 (fr_ap (if i = 0 then B else fr_ap B (fr_1 3 0)) A)) (fun p3 B' => ps_xp tx L 41 p3 (fun p4 => .inr (p4, fr_ap B' (fr_1 17 tag)))) = ps_xp tx L 44 p2 (fun p1 => ps_bd (E sc p1) (fun p2 A2 => ps_bd (ps_fl tx L E sc r (i + 1 + 1) p2 (fr_ap (fr_ap (fr_ap (if i = 0 then B else fr_ap B (fr_1 3 0)) A) (fr_1 3 0)) A2)) (fun p3 B' => ps_xp tx L 41 p3 (fun p4 => .inr (p4, fr_ap B' (fr_1 17 tag)))))) := by
      simp only [ps_fl, if_neg (Nat.succ_ne_zero i), ps_xp_bd, ps_bd_a]
    rw [es]
    rcases hq with ⟨hc, hq⟩ | ⟨S4, N4, m4, v, w, md4, a1, a2, a3, a4, a5, a6, a7, a8, a9, aa, ab⟩
    · have : ¬ rd_ch tx L p2 = 44 := by rcases hc with h | h <;> omega
      rw [ps_xp_f this]; exact hq
    · have hle : ¬ nI (tag % 4) ≤ nI (i + 1) := nI_ge (by omega) (by omega)
      by_cases hc : rd_ch tx L p2 = 44
      · have hpl : p2 < L := rd_ch_in (tx := tx) (by omega)
        rw [ps_xp_t hc]
        have c5 := rp_at5 a1 (p2 + 1)
        have h9 := ih (i + 1) (p2 + 1) m4 N4 (cs ++ [v]) _ _ md4 _ hpl (by omega) c5 (by omega) a2 a3 a4 a5 (fun j hj => (a6 j hj).trans (n5 j hj)) (by rw [List.length_append, hi]; rfl) a8 (by omega) (by omega) (fun S2 hS2 => ab S2 (fun Q hQ => ⟨fun h9 => absurd h9 hle, fun _ => w_want_1 ht a1 hp2L hc ⟨fun h9 => absurd c5.2.2.1 h9, fun _ => hS2 Q hQ⟩⟩))
        rw [if_neg (Nat.succ_ne_zero i)] at h9
        exact h9
      · rw [ps_xp_f hc]
        have il := rp_il6 a1
        exact ⟨_, ab _ (fun Q hQ => ⟨fun h9 => absurd h9 hle, fun _ => w_want_0 (c := 44) ht a1 hp2L (by omega) hc ⟨fun _ => hQ, fun h9 => absurd h9 il.2.2⟩⟩), il⟩
/-- atoms -/
theorem sim_at {E : List Nat → Nat → ps_Q fr_F} {fl : Nat} (hX : SX S0 L tx E (fl + 1)) (hE : ∀ sc p, p ≤ L → ps_ad L p (E sc p)) (ht : rt_ok S0 L tx) : SA S0 L tx E fl := by
  intro p N m sc f FR HD VS SG S hfl h hp hb
  subst hfl
  have hL := ht.2.1
  have hb' := hb
  obtain ⟨g1, g2, g3, g4, g5⟩ := hb'
  have hch := rt_ch ht p
  have hvs : vs_at VS S := h.2.2.2.2.2.2.2.1
  unfold ps_at
  by_cases hd : 48 ≤ rd_ch tx L p ∧ rd_ch tx L p ≤ 57
  · rw [if_pos hd]
    obtain ⟨S1, c1, q1⟩ := l_rnum ht 4 0 0 p S rfl hp h
    obtain ⟨q2, c2⟩ := rp_node (k := 0) (v := nI (ps_dg tx L 4 p 0).2) c1 (by omega)
    have hadv := ps_ad_nu (tx := tx) hp hd
    have hp1 : p < (ps_dg tx L 4 p 0).1 := hadv.1
    refine leaf_push (kk := 0) c1 (by omega) (by omega) (Or.inl ⟨rfl, rfl⟩) (rt_1 h (fun Q hQ => rp_lk ht h hp (w_isDigit hch ⟨fun h9 => absurd hd (ch_b0.mp h9), fun _ => ⟨5, q1 _ _ (fun x => q2 _ (w_push (VS := VS) c2.2.2.2.2.2.2.2.1 (by omega) hQ))⟩⟩))) hp1
  · rw [if_neg hd]
    by_cases hn : 97 ≤ rd_ch tx L p ∧ rd_ch tx L p ≤ 122
    · rw [if_pos hn]
      have hpl : p < L := rd_ch_in (tx := tx) (by omega)
      have hrn := l_rname ht h hp (by omega) sc.length 0 (by omega)
      have e15 : S.1 15 - 1 = nI sc.length - 1 := by rw [h.2.2.2.2.1.1]
      unfold ps_ac
      cases e : ps_fo sc (rd_ch tx L p) with
      | none =>
        refine ⟨_, rt_1 h (fun Q hQ => rp_lk ht h hp (w_isDigit hch ⟨fun _ => w_isName hch ⟨fun h9 => absurd hn (ch_b0.mp h9), fun _ => ⟨sc.length + 1, ?_⟩⟩, fun h9 => absurd (ch_b0.mpr hd) h9⟩)), rp_il6 h⟩
        rw [e15]
        exact hrn.2 e _ _ ⟨fun h9 => absurd h9 (by decide), fun _ => hQ⟩
      | some j =>
        have hj := ps_fo_lt e
        have c1 := rp_at5 h (p + 1)
        obtain ⟨q2, c2⟩ := rp_node (k := 1) (v := nI j) c1 (by omega)
        have e16 : ((rm_pf S 5 (nI (p + 1))).1 15 - 1) - nI (sc.length - 1 - j) = nI j := by
          show (S.1 15 - 1) - nI (sc.length - 1 - j) = nI j
          rw [h.2.2.2.2.1.1, show sc.length = j + (sc.length - 1 - j) + 1 by omega, nI_pred, ← nI_add]
          rw [show j + (sc.length - 1 - j) + 1 - 1 - j = sc.length - 1 - j by omega, Int32.add_sub_cancel]
        refine leaf_push (kk := 0) c1 (by omega) (by omega) (Or.inr (Or.inl ⟨rfl, rfl⟩)) (rt_1 h (fun Q hQ => rp_lk ht h hp (w_isDigit hch ⟨fun _ => w_isName hch ⟨fun h9 => absurd hn (ch_b0.mp h9), fun _ => ⟨sc.length + 1, ?_⟩⟩, fun h9 => absurd (ch_b0.mpr hd) h9⟩))) (by omega)
        rw [e15]
        refine hrn.1 j e _ _ ⟨fun _ => ?_, fun h9 => absurd (nI_pos' (by omega)) h9⟩
        rw [h.2.1, nI_1]
        have e17 : (S.1 15 - 1) - nI (sc.length - 1 - j) = nI j := e16
        rw [e17]
        exact q2 _ (w_push (VS := VS) c2.2.2.2.2.2.2.2.1 (by omega) hQ)
    · rw [if_neg hn]
      by_cases hk : 65 ≤ rd_ch tx L p ∧ rd_ch tx L p ≤ 72
      · rw [if_pos hk]
        have hpl : p < L := rd_ch_in (tx := tx) (by omega)
        have htag : rd_ch tx L p - 65 < 8 := by omega
        have e65 : nI (rd_ch tx L p) - 65 = nI (rd_ch tx L p - 65) := by
          rw [show rd_ch tx L p = (rd_ch tx L p - 65) + 65 by omega, ← nI_add]
          show nI (rd_ch tx L p - 65) + (65 : Int32) - 65 = _
          rw [Int32.add_sub_cancel, show rd_ch tx L p - 65 + 65 - 65 = rd_ch tx L p - 65 by omega]
        obtain ⟨q2, c2⟩ := rp_node (k := 4) (v := nI (rd_ch tx L p - 65)) h (by omega)
        have c3 := rp_at5 c2 (p + 1)
        have e10 : (rs_node S 4 (nI (rd_ch tx L p - 65))).2 10 m = nI (rd_ch tx L p - 65) := by
          rw [(c2.2.2.2.1.2.2.1 m (by omega)).2.1, nd_new_s]
        have hvp : vp_in (nI m) 300 := nI_vp (by omega) (by omega)
        have hvc : (nI m).toNatClampNeg = m := nI_clamp (by omega)
        have e5 : (rs_node S 4 (nI (rd_ch tx L p - 65))).1 5 + 1 = nI (p + 1) := by rw [c2.2.1, nI_1]
        have go : ∀ Q : rm_S → Prop, ((¬ nI ((rd_ch tx L p - 65) % 4) = 0 → wp_want (rm_pf (rs_node S 4 (nI (rd_ch tx L p - 65))) 5 (nI (p + 1))) 40 (fun S22 => ((¬ (S22.1 6) = 0 → Q S22) ∧ ((S22.1 6) = 0 → wp_begin S22 3 (nI m) Q)))) ∧ (nI ((rd_ch tx L p - 65) % 4) = 0 → wp_push (rm_pf (rs_node S 4 (nI (rd_ch tx L p - 65))) 5 (nI (p + 1))) (nI m) Q)) → wp_readAtom S Q := by
          intro Q hQ
          refine rp_lk ht h hp (w_isDigit hch ⟨fun _ => w_isName hch ⟨fun _ => w_isCons hch ⟨fun h9 => absurd hk (ch_b0.mp h9), fun _ => ?_⟩, fun h9 => absurd (ch_b0.mpr hn) h9⟩, fun h9 => absurd (ch_b0.mpr hd) h9⟩)
          rw [e65]
          refine q2 _ ⟨hvp, ?_⟩
          rw [hvc, e10, nI_m4 htag, e5]
          exact hQ
        unfold ps_co
        by_cases h0 : (rd_ch tx L p - 65) % 4 = 0
        · rw [if_pos h0]
          have e9 := leaf_push (S := S) (p := p) (v := rd_ch tx L p - 65) (kd := 4) (k := 16) (kk := 0) (S1 := rm_pf S 5 (nI (p + 1))) (rp_at5 h (p + 1)) (by omega) (by omega) (Or.inr (Or.inr ⟨rfl, rfl⟩)) (rt_1 h (fun Q hQ => go Q ⟨fun h9 => absurd (by rw [h0]; rfl) h9, fun _ => w_push (VS := VS) c3.2.2.2.2.2.2.2.1 (by omega) (by
            have : rs_push (rm_pf (rs_node S 4 (nI (rd_ch tx L p - 65))) 5 (nI (p + 1))) VS.length (nI m) = rs_push (rs_node (rm_pf S 5 (nI (p + 1))) 4 (nI (rd_ch tx L p - 65))) VS.length (nI m) := by
              unfold rs_push rs_node
              refine Prod.ext (funext fun j => ?_) rfl
              show (if j = 33 then _ else if j = 29 then _ else if j = 5 then _ else if j = 8 then _ else S.1 j) = (if j = 33 then _ else if j = 29 then _ else if j = 8 then _ else if j = 5 then _ else S.1 j)
              by_cases j5 : j = 5
              · subst j5; rfl
              · rw [if_neg j5, if_neg j5]; rfl
            rw [this]; exact hQ)⟩)) (by omega)
          exact e9
        · rw [if_neg h0]
          have h00 : ¬ nI ((rd_ch tx L p - 65) % 4) = 0 := nI_ne0 (by omega) (by omega)
          obtain ⟨r, hr⟩ : ∃ r, (rd_ch tx L p - 65) % 4 = r + 1 := ⟨(rd_ch tx L p - 65) % 4 - 1, by omega⟩
          have es : ps_bd (ps_fl tx L E sc ((rd_ch tx L p - 65) % 4) 0 (p + 1) fr_0) (fun p1 F => ps_xp tx L 41 p1 (fun p2 => .inr (p2, fr_ap F (fr_1 17 (rd_ch tx L p - 65))))) = ps_xp tx L 40 (p + 1) (fun p1 => ps_bd (E sc p1) (fun p2 A => ps_bd (ps_fl tx L E sc r (0 + 1) p2 (fr_ap (if 0 = 0 then fr_0 else fr_ap fr_0 (fr_1 3 0)) A)) (fun p3 B' => ps_xp tx L 41 p3 (fun p4 => .inr (p4, fr_ap B' (fr_1 17 (rd_ch tx L p - 65))))))) := by
            rw [hr]; simp only [ps_fl, if_pos, ps_xp_bd, ps_bd_a]
          rw [es]
          by_cases hc : rd_ch tx L (p + 1) = 40
          · have hpl2 : p + 1 < L := rd_ch_in (tx := tx) (by omega)
            rw [ps_xp_t hc]
            have c4 := rp_at5 c3 (p + 1 + 1)
            exact sim_fld (N0 := N) hX hE ht htag hb hp r 0 (p + 1 + 1) (m + 1) _ [] fr_0 0 1 _ hpl2 (by omega) c4 (by omega) (by rw [nd_new_s]) (by rw [nd_new_s]) (by rw [nd_new_s]) (by rw [nd_new_s]) (fun j hj => nd_new_n (by omega)) rfl seg_nil (by omega) (by omega) (fun S2 hS2 => rt_1 h (fun Q hQ => go Q ⟨fun _ => w_want_1 ht c3 hpl hc ⟨fun h9 => absurd c4.2.2.1 h9, fun _ => hS2 Q hQ⟩, fun h9 => absurd h9 h00⟩))
          · rw [ps_xp_f hc]
            have il := rp_il6 c3
            exact ⟨_, rt_1 h (fun Q hQ => go Q ⟨fun _ => w_want_0 (c := 40) ht c3 hpl (by omega) hc ⟨fun _ => hQ, fun h9 => absurd h9 il.2.2⟩, fun h9 => absurd h9 h00⟩), il⟩
      · rw [if_neg hk]
        have q40 : nI (rd_ch tx L p) = 40 ↔ rd_ch tx L p = 40 := nI_eq (b := 40) (by omega) (by omega)
        by_cases hc : rd_ch tx L p = 40
        · have hpl : p < L := rd_ch_in (tx := tx) (by omega)
          rw [ps_xp_t hc]
          have c3 := rp_at5 h (p + 1)
          have go : ∀ Q : rm_S → Prop, wp_begin (rm_pf S 5 (nI (p + 1))) 4 (-1) Q → wp_readAtom S Q := by
            intro Q hQ
            refine rp_lk ht h hp (w_isDigit hch ⟨fun _ => w_isName hch ⟨fun _ => w_isCons hch ⟨fun _ => ⟨fun h9 => absurd (q40.mpr hc) h9, fun _ => ?_⟩, fun h9 => absurd (ch_b0.mpr hk) h9⟩, fun h9 => absurd (ch_b0.mpr hn) h9⟩, fun h9 => absurd (ch_b0.mpr hd) h9⟩)
            rw [h.2.1, nI_1]; exact hQ
          have hfl : (f :: FR).length = FR.length + 1 := rfl
          rcases hX with ⟨h6, hE0⟩ | ⟨h6, hSE⟩
          · show out (ps_bd (E sc (p + 1)) _) _ _
            rw [hE0]
            exact ⟨_, rt_1 h (fun Q hQ => go Q (w_begin_0 c3 (by omega) hQ)), rp_il6 c3⟩
          · have c4 := rp_begin (a := 4) (a2 := -1) c3 (by omega)
            have s1 := rt_1 h (fun Q hQ => go Q (w_begin_1 c3 (by omega) hQ))
            refine out_bd (out_mono (hSE (p + 1) N m sc _ (f :: FR) HD VS SG _ rfl c4 hpl ⟨by omega, by omega, by omega, by omega, by omega⟩ rfl rfl rfl rfl) (fun q hq => ?_) (fun p2 A e hq _ => ?_))
            · obtain ⟨S3, a1, a2⟩ := hq; exact ⟨S3, s1.tr a1, a2⟩
            · have hadv := hE sc (p + 1) hpl
              rw [e] at hadv
              have hp2 : p + 1 < p2 := hadv.1
              have hp2L : p2 ≤ L := hadv.2
              rcases hq with ⟨hcc, S3, a1, a2⟩ | ⟨S1, N1, m1, v, w, ys, c, mt, md1, a1, a2, a3, a4, a5, a6, a7⟩
              · have : ¬ rd_ch tx L p2 = 41 := by rcases hcc with h | h <;> omega
                rw [ps_xp_f this]
                exact ⟨S3, s1.tr a1, a2⟩
              · have b1 := a3.1
                have b2 := a3.2.1
                have hm1 := a1.2.2.2.1.2.1
                have hret := rp_ret a1 (by rw [fm_sc, List.length_append]; show sc.length ≤ _; omega)
                have htk : (sc ++ ys).take sc.length = sc := List.take_left' rfl
                have hret : rp S0 p2 N1 m1 sc (f :: FR) HD VS SG md1 0 (rs_ret S1 sc.length (f :: FR).length) := by
                  rw [fm_sc] at hret
                  have e : (sc ++ ys).take ((4, -1, HD.length, sc.length, SG.length, (rm_pf S 5 (nI (p + 1))).2 23 (f :: FR).length, (0 : Int32), (-1 : Int32)) : rf_T).2.2.2.1 = sc := htk
                  rw [e] at hret; exact hret
                by_cases hc2 : rd_ch tx L p2 = 41
                · rw [ps_xp_t hc2]
                  have c5 := rp_at5 hret (p2 + 1)
                  have c6 := rp_only (S' := rm_pa (rm_pf (rs_ret S1 sc.length (f :: FR).length) 5 (nI (p2 + 1))) 14 v 1) (l := [14]) c5 ⟨rfl, fun k hk9 => by
                    show (if k = 14 then _ else _) = _
                    rw [if_neg (show ¬ k = 14 from fun e => hk9 (by rw [e]; exact List.mem_cons_self))]⟩ (by decide) (rn_cl (n := v) (c := true) c5.2.2.2.1)
                  have c7 := rp_push (v := v) c6
                  refine ⟨_, _, m1, v, w, s1.tr (a7 _ (fun Q hQ => sw_4 a1 rfl (by omega) (w_want_1 (c := 41) ht hret hp2L hc2 (w_push (VS := VS) c6.2.2.2.2.2.2.2.1 (by omega) hQ)))), c7, fun i hi9 => ?_, gen_N a3 (fun i i1 i2 => ?_), ?_, fun _ => ?_, by omega, by omega⟩
                  · rw [if_neg (by omega)]; exact a2 i hi9
                  · by_cases ei : i = v
                    · rw [if_pos ei, ei]; exact ⟨rfl, rfl, rfl⟩
                    · rw [if_neg ei]; exact nq.rf
                  · rw [if_pos rfl]; exact a4
                  · rw [if_pos rfl]
                · rw [ps_xp_f hc2]
                  have hvs2 : vs_at VS (rs_ret S1 sc.length (f :: FR).length) := hret.2.2.2.2.2.2.2.1
                  obtain ⟨q5, c5⟩ := w_push_il (v := nI v) (VS := VS) (S := rm_pa (rm_pf (rs_ret S1 sc.length (f :: FR).length) 6 1) 14 v 1) (il_pa (rp_il6 hret) (by decide)) hvs2 (by omega)
                  exact ⟨_, s1.tr (a7 _ (fun Q hQ => sw_4 a1 rfl (by omega) (w_want_0 (c := 41) ht hret hp2L (by omega) hc2 (q5 Q hQ)))), c5⟩
        · rw [ps_xp_f hc]
          exact ⟨_, rt_1 h (fun Q hQ => rp_lk ht h hp (w_isDigit hch ⟨fun _ => w_isName hch ⟨fun _ => w_isCons hch ⟨fun _ => ⟨fun _ => hQ, fun h9 => absurd (q40.mp h9) hc⟩, fun h9 => absurd (ch_b0.mpr hk) h9⟩, fun h9 => absurd (ch_b0.mpr hn) h9⟩, fun h9 => absurd (ch_b0.mpr hd) h9⟩)), rp_il6 h⟩
end AT
