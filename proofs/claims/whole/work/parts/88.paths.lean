/-! PATHS: kind, value -/
def sh2 (x : Int32) : Int32 := (x.toUInt32 >>> (Int32.toUInt32 2 &&& Int32.toUInt32 31)).toInt32
def d3 (x : Int32) : Nat := (x &&& 3).toBitVec.toNat
theorem d3_lt {x : Int32} : d3 x < 4 := by
  unfold d3
  rw [Int32.toBitVec_and, BitVec.toNat_and]
  exact Nat.lt_of_le_of_lt Nat.and_le_right (by decide)
theorem d3_eq {x : Int32} : x &&& 3 = nI (d3 x) := by
  refine Int32.toBitVec_inj.mp ?_
  show (x &&& 3).toBitVec = BitVec.ofNat 32 (x &&& 3).toBitVec.toNat
  refine BitVec.eq_of_toNat_eq ?_
  rw [BitVec.toNat_ofNat, Nat.mod_eq_of_lt (BitVec.isLt _)]
theorem sh2_n {x : Int32} : (sh2 x).toBitVec.toNat = x.toBitVec.toNat / 4 := by
  show (x.toUInt32 >>> (2 : UInt32)).toNat = x.toUInt32.toNat / 4
  rw [UInt32.toNat_shiftRight]
  show x.toUInt32.toNat >>> 2 = _
  rw [Nat.shiftRight_eq_div_pow]
theorem x_0 {x : Int32} (h : x.toBitVec.toNat < 1) : x &&& 3 = 0 := by
  have e : x = 0 := Int32.toBitVec_inj.mp (BitVec.eq_of_toNat_eq (by show _ = 0; omega))
  rw [e]; rfl
def afo (bs : List hb_T) : Nat → aw_T → Int32 → Option aw_T
  | 0, w, _ => some w
  | r + 1, w, x => if x &&& 3 = 0 then some w else match w with
    | .inl _ => none
    | .inr p => match bk bs p with
      | none => none
      | some b => if b.1 < 8 then (match b.2[d3 x - 1]? with
        | some y => afo bs r y (sh2 x)
        | none => none) else none
section PA
variable {f : Nat → Int32} {t s0 N : Nat} {bs : List hb_T} {S : rm_S} {A : am_T} {C : List fr_C}
theorem afo_0 {r : Nat} {w : aw_T} {x : Int32} (h : x &&& 3 = 0) : afo bs (r + 1) w x = some w := by
  unfold afo; rw [if_pos h]
theorem afo_n {r : Nat} {w : Int32} {x : Int32} (h : ¬ x &&& 3 = 0) : afo bs (r + 1) (.inl w) x = none := by
  unfold afo; rw [if_neg h]
theorem afo_p {r p : Nat} {b : hb_T} {x : Int32} (h : ¬ x &&& 3 = 0) (hb : bk bs p = some b) : afo bs (r + 1) (.inr p) x = if b.1 < 8 then (match b.2[d3 x - 1]? with
        | some y => afo bs r y (sh2 x)
        | none => none) else none := by
  show (if x &&& 3 = 0 then some (.inr p) else match bk bs p with
      | none => none
      | some b => if b.1 < 8 then (match b.2[d3 x - 1]? with
        | some y => afo bs r y (sh2 x)
        | none => none) else none) = _
  rw [if_neg h, hb]
theorem afo_f {r p : Nat} {b : hb_T} {x : Int32} {y : aw_T} (h : ¬ x &&& 3 = 0) (hb : bk bs p = some b) (h8 : b.1 < 8) (hy : b.2[d3 x - 1]? = some y) : afo bs (r + 1) (.inr p) x = afo bs r y (sh2 x) := by
  rw [afo_p h hb, if_pos h8, hy]
theorem co_m4 : hp_co f (nI t) (-4) = -1 := by
  have hi : hp_isp (nI t) (-4) = false := by
    unfold hp_isp
    rw [show decide (¬ (-4 : Int32) < 0) = false by decide, Bool.false_and, Bool.and_false]
  have hb : hp_bk f (nI t) (-4) = -1 := by unfold hp_bk; rw [hi]; rfl
  unfold hp_co
  rw [hb]; decide
theorem wa_m4 : ∀ (r : Nat) (x : Int32), mc_wa f t r (-4) x = -4 := by
  intro r
  cases r with
  | zero => intro x; rfl
  | succ r => intro x; unfold mc_wa; rw [co_m4, if_pos rfl]; split <;> rfl
theorem ca_wa (h : hc f t bs) : ∀ (r : Nat) (w : aw_T) (x : Int32), wv bs w → mc_wa f t r (cw 0 w) x = (match afo bs r w x with | some y => cw 0 y | none => -4) := by
  intro r
  induction r with
  | zero => intro w x _; rfl
  | succ r ih =>
    intro w x hw
    have hun : mc_wa f t (r + 1) (cw 0 w) x = if x &&& 3 = 0 then cw 0 w else if hp_co f (nI t) (cw 0 w) = -1 then -4 else mc_wa f t r (hp_wo f (nI t) (cw 0 w) (x &&& 3)) (sh2 x) := rfl
    rw [hun]
    by_cases h0 : x &&& 3 = 0
    · rw [if_pos h0, afo_0 h0]
    rw [if_neg h0, ch_co h hw]
    cases w with
    | inl v =>
      rw [afo_n h0]
      have hwo : hp_wo f (nI t) (cw 0 (.inl v)) (x &&& 3) = -4 := by
        unfold hp_wo
        rw [if_neg (fun h9 => by
          have := h9.1
          rw [show cw 0 (.inl v) = v from rfl, hc_np hw] at this
          exact absurd this (by decide))]
      rw [hwo, wa_m4]; split <;> rfl
    | inr p =>
      obtain ⟨b, hb⟩ := hw
      have hlt := (bk_lt hb).1
      have h1 := h.2.1
      have h2 := h.2.2.2
      have hbv := h.2.2.1 b (bk_lt hb).2
      have hco : co bs (.inr p) = if b.1 < 8 then nI b.1 else -1 := by simp only [co, hb]
      rw [hco, afo_p h0 hb]
      by_cases b8 : b.1 < 8
      · rw [if_pos b8, if_pos b8, if_neg (fun h9 => m1_ne (t := b.1) (by omega) h9.symm)]
        have hk0 : ¬ d3 x = 0 := fun h9 => h0 (by rw [d3_eq, h9]; rfl)
        have hk4 := d3_lt (x := x)
        have ec : cw 0 (.inr p) = nI (4 * p) := rfl
        by_cases hkl : d3 x ≤ b.2.length
        · have hy : b.2[d3 x - 1]? = some b.2[d3 x - 1] := List.getElem?_eq_getElem (by omega)
          have hwo := hc_wo (k := d3 x - 1) h hb (by omega)
          rw [show d3 x - 1 + 1 = d3 x by omega, List.getD_eq_getElem?_getD, hy] at hwo
          rw [hy, d3_eq, ec, hwo]
          exact ih _ _ (hbv.2.2 _ (List.getElem_mem _))
        · have hy : b.2[d3 x - 1]? = none := List.getElem?_eq_none (by omega)
          have hwo : hp_wo f (nI t) (cw 0 (.inr p)) (x &&& 3) = -4 := by
            unfold hp_wo
            rw [ec, (hc_bk h hb).2, d3_eq]
            rw [if_neg (fun h9 => absurd h9.2.2.1 (nI_ge (by omega) (by omega)))]
          rw [hwo, wa_m4, hy]
      · rw [if_neg b8, if_neg b8, if_pos rfl]
theorem afo_vv (hG : ∀ b ∈ bs, (b.1 < 8 ∧ 0 < b.1 % 4 ∧ b.2.length = b.1 % 4 ∧ ∀ x ∈ b.2, vv bs x) ∨ ((b.1 = 8 ∨ b.1 = 9) ∧ ∃ (a : Nat) (w : aw_T), b.2 = [.inl (nI (2 * a + 1)), w]) ∨ b.1 = 10) : ∀ (r : Nat) (w : aw_T) (x : Int32) (y : aw_T), vv bs w → afo bs r w x = some y → vv bs y := by
  intro r
  induction r with
  | zero => intro w x y hw h; exact (Option.some.inj h) ▸ hw
  | succ r ih =>
    intro w x y hw h
    by_cases h0 : x &&& 3 = 0
    · rw [afo_0 h0] at h; exact (Option.some.inj h) ▸ hw
    cases w with
    | inl v => rw [afo_n h0] at h; cases h
    | inr p =>
      obtain ⟨b, hb, _⟩ := hw
      rw [afo_p h0 hb] at h
      by_cases b8 : b.1 < 8
      · rw [if_pos b8] at h
        cases hy : b.2[d3 x - 1]? with
        | none => rw [hy] at h; cases h
        | some z =>
          rw [hy] at h
          refine ih z _ y ?_ h
          rcases hG b (bk_lt hb).2 with ⟨_, _, _, h9⟩ | ⟨h9, _⟩ | h9
          · exact h9 z (List.mem_of_getElem? hy)
          · omega
          · omega
      · rw [if_neg b8] at h; cases h
/-- ends -/
theorem re_7 {a1 : Int32} {Q : Int32 → rm_S → Prop} {K : Int32 → Int32 → rm_S → Prop} (hh : rh s0 S bs) : ∀ (r : Nat) (w : aw_T) (x : Int32), wv bs w → x.toBitVec.toNat < 4 ^ r → (afo bs r w x = none → Q 0 S) → (∀ (y : aw_T) (v : Int32), afo bs r w x = some y → K (cw s0 y) v S) → wl_ends_7 a1 Q K (r + 1) (cw s0 w) x S := by
  intro r
  induction r with
  | zero =>
    intro w x hw hx hQ hK
    exact ⟨fun _ => hK w x rfl, fun h9 => absurd (x_0 hx) h9⟩
  | succ r ih =>
    intro w x hw hx hQ hK
    refine ⟨fun h0 => hK w x (afo_0 h0), fun h0 => ?_⟩
    cases w with
    | inl v => exact ri_n hw ⟨fun h9 => absurd rfl h9, fun _ => hQ (afo_n h0)⟩
    | inr p =>
      obtain ⟨b, hb⟩ := hw
      have hlt := (bk_lt hb).1
      have hz := hh.2.2
      have hbv := hh.2.1 b (bk_lt hb).2
      have ec : cw s0 (.inr p) = nI (4 * (p + s0)) := rfl
      have hk0 : ¬ d3 x = 0 := fun h9 => h0 (by rw [d3_eq, h9]; rfl)
      have hk4 := d3_lt (x := x)
      rw [ec]
      refine ri_p (by omega) ⟨fun _ => rh_k hh hb ⟨fun h7 => hQ ?_, fun h7 => rh_s hh hb ⟨fun h6 => ?_, fun h6 => hQ ?_⟩⟩, fun h9 => absurd h9 (by decide)⟩
      · rw [afo_p h0 hb, if_neg (fun h9 => nI_nlt (a := 7) (by omega) (by omega) h7)]
      · have b8 : b.1 < 8 := Classical.byContradiction fun h9 => h7 (nI_lt (a := 7) (by omega) (by omega))
        rw [d3_eq] at h6
        have hkl : d3 x ≤ b.2.length := Classical.byContradiction fun h9 => nI_ge (by omega) (by omega) h6
        have hy : b.2[d3 x - 1]? = some b.2[d3 x - 1] := List.getElem?_eq_getElem (by omega)
        have ei : (x &&& 3) - 1 = nI (d3 x - 1) := by
          rw [d3_eq, show d3 x = d3 x - 1 + 1 by omega, nI_pred, show d3 x - 1 + 1 - 1 = d3 x - 1 by omega]
        rw [ei]
        refine rh_f hh hb hy ?_
        have hx2 : (sh2 x).toBitVec.toNat < 4 ^ r := by
          rw [sh2_n]; rw [Nat.pow_succ] at hx; omega
        exact ih _ (sh2 x) (hbv.2.2 _ (List.getElem_mem _)) hx2 (fun h9 => hQ (by rw [afo_f h0 hb b8 hy]; exact h9)) (fun y v h9 => hK y v (by rw [afo_f h0 hb b8 hy]; exact h9))
      · rw [d3_eq] at h6
        have hkl : ¬ d3 x ≤ b.2.length := fun h9 => h6 (nI_le h9 (by omega))
        rw [afo_p h0 hb, List.getElem?_eq_none (by omega)]
        split <;> rfl
/-- follow -/
theorem rf_7 {a1 : Int32} {Q : Int32 → rm_S → Prop} {K : Int32 → Int32 → rm_S → Prop} {y : aw_T} (hh : rh s0 S bs) : ∀ (r : Nat) (w : aw_T) (x : Int32), wv bs w → x.toBitVec.toNat < 4 ^ r → afo bs r w x = some y → (∀ v : Int32, K (cw s0 y) v S) → wl_follow_7 a1 Q K (r + 1) (cw s0 w) x S := by
  intro r
  induction r with
  | zero =>
    intro w x hw hx ha hK
    have e : w = y := Option.some.inj ha
    subst e
    exact ⟨fun _ => hK x, fun h9 => absurd (x_0 hx) h9⟩
  | succ r ih =>
    intro w x hw hx ha hK
    refine ⟨fun h0 => ?_, fun h0 => ?_⟩
    · rw [afo_0 h0] at ha
      have e : w = y := Option.some.inj ha
      subst e; exact hK x
    · cases w with
      | inl v => rw [afo_n h0] at ha; cases ha
      | inr p =>
        obtain ⟨b, hb⟩ := hw
        have hbv := hh.2.1 b (bk_lt hb).2
        have ec : cw s0 (.inr p) = nI (4 * (p + s0)) := rfl
        have hk0 : ¬ d3 x = 0 := fun h9 => h0 (by rw [d3_eq, h9]; rfl)
        rw [afo_p h0 hb] at ha
        by_cases b8 : b.1 < 8
        · rw [if_pos b8] at ha
          cases hy : b.2[d3 x - 1]? with
          | none => rw [hy] at ha; cases ha
          | some z =>
            rw [hy] at ha
            have ei : (x &&& 3) - 1 = nI (d3 x - 1) := by
              rw [d3_eq, show d3 x = d3 x - 1 + 1 by omega, nI_pred, show d3 x - 1 + 1 - 1 = d3 x - 1 by omega]
            rw [ei, ec]
            refine rh_f hh hb hy ?_
            have hx2 : (sh2 x).toBitVec.toNat < 4 ^ r := by
              rw [sh2_n]; rw [Nat.pow_succ] at hx; omega
            exact ih z (sh2 x) (hbv.2.2 _ (List.mem_of_getElem? hy)) hx2 ha hK
        · rw [if_neg b8] at ha; cases ha
theorem x_16 {x : Int32} : x.toBitVec.toNat < 4 ^ 16 := x.toBitVec.isLt
/-- a value that is no number and not built is a function -/
theorem vv_fn {y : aw_T} (hG : ∀ b ∈ bs, (b.1 < 8 ∧ 0 < b.1 % 4 ∧ b.2.length = b.1 % 4 ∧ ∀ x ∈ b.2, vv bs x) ∨ ((b.1 = 8 ∨ b.1 = 9) ∧ ∃ (a : Nat) (w : aw_T), b.2 = [.inl (nI (2 * a + 1)), w]) ∨ b.1 = 10) (hy : vv bs y) (h1 : ¬ aod y) (h2 : co bs y = -1) : ∃ (p a : Nat) (b : hb_T) (w : aw_T), y = .inr p ∧ bk bs p = some b ∧ (b.1 = 8 ∨ b.1 = 9) ∧ b.2 = [.inl (nI (2 * a + 1)), w] := by
  cases y with
  | inl v =>
    have hy : np v := hy
    rcases hy with hy | rfl | rfl
    · exact absurd ⟨v, rfl, hy⟩ h1
    · exact absurd h2 (by show ¬ (if (2 : Int32) &&& 3 = 2 then (2 : Int32) >>> ((2 : Int32) &&& 31) else -1) = -1; decide)
    · exact absurd h2 (by show ¬ (if (18 : Int32) &&& 3 = 2 then (18 : Int32) >>> ((2 : Int32) &&& 31) else -1) = -1; decide)
  | inr p =>
    obtain ⟨b, hb, hne⟩ := hy
    have hco : co bs (.inr p) = if b.1 < 8 then nI b.1 else -1 := by simp only [co, hb]
    rw [hco] at h2
    rcases hG b (bk_lt hb).2 with ⟨h9, _⟩ | ⟨h9, a, w, h8⟩ | h9
    · rw [if_pos h9] at h2; exact absurd h2.symm (m1_ne (by omega))
    · exact ⟨p, a, b, w, rfl, hb, h9, h8⟩
    · exact absurd h9 hne
theorem so_y {y : aw_T} (h : hc f t bs) (hy : wv bs y) : hp_so f (nI t) (cw 0 y) = if cw 0 y &&& 1 = 1 then 1 else if ¬ co bs y = -1 then 2 else if hp_fnb f (nI t) (cw 0 y) = true then 3 else 0 := by
  unfold hp_so; rw [ch_co h hy]
theorem so_m4 : hp_so f (nI t) (-4) = 0 ∧ hp_me f (nI t) (-4) = 0 := by
  have hi : hp_isp (nI t) (-4) = false := by
    unfold hp_isp
    rw [show decide (¬ (-4 : Int32) < 0) = false by decide, Bool.false_and, Bool.and_false]
  have hb : hp_bk f (nI t) (-4) = -1 := by unfold hp_bk; rw [hi]; rfl
  have e : hp_so f (nI t) (-4) = 0 := by
    unfold hp_so hp_fnb
    rw [co_m4, hb]; decide
  refine ⟨e, ?_⟩
  unfold hp_me
  rw [e, if_neg (by decide), if_neg (by decide), if_neg (by decide)]
theorem r_kind {x : Int32} {Q : Int32 → rm_S → Prop} (hf : hc f t A.1) (h : GA N A) (hk : RK N C A s0 S) (hQ : Q (hp_so f (nI t) (mc_wa f t 16 (cw 0 A.2.1) x)) (rm_pf S 0 0)) : wp_kind S x Q := by
  obtain ⟨k1, k2, k3, k4, k5, k6, k7, k8, k9, k10, k11, k12⟩ := hk
  obtain ⟨h1, h2, h3, h4, h5, h6, h7⟩ := h
  have k11 : rh s0 (rm_pf S 0 0) A.1 := k11
  have k6 : (rm_pf S 0 0).1 49 = cw s0 A.2.1 := k6
  have hz := k11.2.2
  have hz2 := hf.2.2.2
  have hz1 := hf.2.1
  rw [ca_wa hf 16 _ x (vv_wv h2)] at hQ
  refine ⟨17, ?_⟩
  rw [k6]
  refine re_7 k11 16 A.2.1 x (vv_wv h2) x_16 (fun ha => ⟨fun _ => ?_, fun h9 => absurd rfl h9⟩) (fun y v ha => ⟨fun h9 => absurd h9 (by decide), fun _ => ⟨17, ?_⟩⟩)
  · rw [ha] at hQ
    rw [so_m4.1] at hQ; exact hQ
  · rw [ha] at hQ
    have hvy := afo_vv h7 16 A.2.1 x y h2 ha
    have hQ : Q (hp_so f (nI t) (cw 0 y)) (rm_pf S 0 0) := hQ
    rw [so_y hf (vv_wv hvy)] at hQ
    rw [k6]
    refine rf_7 k11 16 A.2.1 x (vv_wv h2) x_16 ha (fun v9 => ?_)
    refine rq_int (vv_wv hvy) (by omega) (fun h9 => ⟨fun h8 => absurd h8 (by decide), fun _ => ?_⟩) (fun h9 => ⟨fun _ => ?_, fun h8 => absurd rfl h8⟩)
    · rw [if_pos ((aod_iff (s0 := 0) (vv_wv hvy) (by omega)).mp h9)] at hQ; exact hQ
    · rw [if_neg (fun h8 => h9 ((aod_iff (s0 := 0) (vv_wv hvy) (by omega)).mpr h8))] at hQ
      refine rq_built k11 (vv_wv hvy) (fun h8 => ⟨fun h7 => absurd h7 (by decide), fun _ => ?_⟩) (fun h8 => ⟨fun _ => ?_, fun h7 => absurd rfl h7⟩)
      · rw [if_pos h8] at hQ; exact hQ
      · rw [if_neg (fun h7 => h7 h8)] at hQ
        obtain ⟨p, a, b, w, rfl, hb, hb8, _⟩ := vv_fn h7 hvy h9 h8
        have : hp_fnb f (nI t) (cw 0 (.inr p)) = true := (ch_fn hf (vv_wv hvy)).mpr (by
          have ek : knd A.1 (.inr p) = b.1 := by simp only [knd, hb]
          unfold fnw; rw [ek]; exact hb8)
        rw [if_pos this] at hQ; exact hQ
theorem r_value {x : Int32} {Q : Int32 → rm_S → Prop} (hf : hc f t A.1) (h : GA N A) (hk : RK N C A s0 S) (hQ : Q (hp_me f (nI t) (mc_wa f t 16 (cw 0 A.2.1) x)) (rm_pf S 0 0)) : wp_value S x Q := by
  obtain ⟨k1, k2, k3, k4, k5, k6, k7, k8, k9, k10, k11, k12⟩ := hk
  obtain ⟨h1, h2, h3, h4, h5, h6, h7⟩ := h
  have k11 : rh s0 (rm_pf S 0 0) A.1 := k11
  have k6 : (rm_pf S 0 0).1 49 = cw s0 A.2.1 := k6
  have hz := k11.2.2
  have hz2 := hf.2.2.2
  have hz1 := hf.2.1
  rw [ca_wa hf 16 _ x (vv_wv h2)] at hQ
  refine ⟨17, ?_⟩
  rw [k6]
  refine re_7 k11 16 A.2.1 x (vv_wv h2) x_16 (fun ha => ⟨fun h9 => absurd rfl h9, fun _ => ?_⟩) (fun y v ha => ⟨fun _ => ⟨17, ?_⟩, fun h9 => absurd h9 (by decide)⟩)
  · rw [ha] at hQ
    rw [so_m4.2] at hQ; exact hQ
  · rw [ha] at hQ
    have hvy := afo_vv h7 16 A.2.1 x y h2 ha
    have hQ : Q (hp_me f (nI t) (cw 0 y)) (rm_pf S 0 0) := hQ
    have es := so_y hf (vv_wv hvy)
    rw [k6]
    refine rf_7 k11 16 A.2.1 x (vv_wv h2) x_16 ha (fun v9 => ?_)
    refine rq_int (vv_wv hvy) (by omega) (fun h9 => ⟨fun h8 => absurd h8 (by decide), fun _ => ?_⟩) (fun h9 => ⟨fun _ => ?_, fun h8 => absurd rfl h8⟩)
    · rw [if_pos ((aod_iff (s0 := 0) (vv_wv hvy) (by omega)).mp h9)] at es
      have em : hp_me f (nI t) (cw 0 y) = cw 0 y >>> ((1 : Int32) &&& 31) := by unfold hp_me; rw [es, if_pos rfl]
      rw [em] at hQ
      obtain ⟨w9, rfl, _⟩ := h9
      exact hQ
    · rw [if_neg (fun h8 => h9 ((aod_iff (s0 := 0) (vv_wv hvy) (by omega)).mpr h8))] at es
      refine rq_built k11 (vv_wv hvy) (fun h8 => ⟨fun h7 => absurd h7 (by decide), fun _ => ?_⟩) (fun h8 => ⟨fun _ => ?_, fun h7 => absurd rfl h7⟩)
      · rw [if_pos h8] at es
        have em : hp_me f (nI t) (cw 0 y) = co A.1 y := by unfold hp_me; rw [es, if_neg (by decide), if_pos rfl]; exact ch_co hf (vv_wv hvy)
        rw [em] at hQ
        exact rq_tag k11 (vv_wv hvy) h8 hQ
      · rw [if_neg (fun h7 => h7 h8)] at es
        obtain ⟨p, a, b, w, rfl, hb, hb8, hb2⟩ := vv_fn h7 hvy h9 h8
        have : hp_fnb f (nI t) (cw 0 (.inr p)) = true := (ch_fn hf (vv_wv hvy)).mpr (by
          have ek : knd A.1 (.inr p) = b.1 := by simp only [knd, hb]
          unfold fnw; rw [ek]; exact hb8)
        rw [if_pos this] at es
        have hwo := hc_wo (k := 0) hf hb (by rw [hb2]; show 0 < 2; omega)
        rw [hb2] at hwo
        have hwo : hp_wo f (nI t) (cw 0 (.inr p)) 1 = nI (2 * a + 1) := hwo
        have em : hp_me f (nI t) (cw 0 (.inr p)) = nI (2 * a + 1) >>> ((1 : Int32) &&& 31) := by unfold hp_me; rw [es, if_neg (by decide), if_neg (by decide), if_pos rfl, hwo]
        rw [em] at hQ
        exact rh_f (k := 0) (x := .inl (nI (2 * a + 1))) k11 hb (by rw [hb2]; rfl) hQ
end PA
