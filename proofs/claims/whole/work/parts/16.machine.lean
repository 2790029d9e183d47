/-! Code.part and the small methods of ClosureHeap$Machine -/
def mc_part (pf : Nat → Int32) (ln : Nat) (x y : Int32) : Int32 := if ¬ x < 0 ∧ ¬ nI ln ≤ x ∧ ¬ y < 0 ∧ y < 3 then pf (3 * x + y).toNatClampNeg else -1
theorem mc_in {x y : Int32} {ln : Nat} (h1 : ¬ x < 0) (h2 : ¬ nI ln ≤ x) (h3 : ¬ y < 0) (h4 : y < 3) (hln : ln ≤ 120) : vp_in (3 * x + y) 360 := by
  obtain ⟨i, hi, rfl⟩ := nI_of h1
  obtain ⟨j, hj, rfl⟩ := nI_of h3
  have g2 : i < ln := by
    rcases Nat.lt_or_ge i ln with h | h
    · exact h
    · exact absurd (nI_le h hi) h2
  have g4 : j < 3 := (nI_ltI (b := 3) hj (by decide)).mp h4
  rw [show (3 : Int32) = nI 3 from rfl, pk_mul, nI_add]
  exact vp_in_nI (by omega) (by omega)
theorem mc_partN {pf : Nat → Int32} {ln i j : Nat} (hi : i < ln) (hj : j < 3) (hln : ln ≤ 120) : mc_part pf ln (nI i) (nI j) = pf (3 * i + j) := by
  unfold mc_part
  rw [if_pos ⟨nI_pos (by omega), nI_ge hi (by omega), nI_pos (by omega), nI_lt hj (by decide)⟩]
  rw [show (3 : Int32) = nI 3 from rfl, pk_mul, nI_add, nI_clamp (by omega)]
def mc_top (sf : Nat → Int32) (ht : Nat) : Int32 := if ht = 0 then -4 else sf (ht - 1)
def mc_cond (ln : Nat) (hl rs : Int32) : Int32 := if ln = 0 then 0 else if ¬ hl = 0 then 2 else if rs = 0 then 1 else 3
def mc_fo (f : Nat → Int32) (t : Nat) : Nat → Int32 → Int32
  | 0, w => w
  | r + 1, w => mc_fo f t r (hp_wo f (nI t) w 2)
def mc_pc (pf : Nat → Int32) (ln : Nat) (at9 tag : Int32) : Nat → Nat → Int32
  | 0, _ => -1
  | r + 1, i => if tag = -1 then -1 else if mc_part pf ln (at9 + nI i) 1 = tag then mc_part pf ln (at9 + nI i) 2 else mc_pc pf ln at9 tag r (i + 1)
theorem mc_max0 (h : Nat) (hh : h < 2 ^ 31) : (if (0 : Int32) < nI h then nI h else 0) = nI h := by
  rw [gc_max, nI_clamp hh]
set_option maxHeartbeats 4000000 in
set_option maxRecDepth 100000 in
theorem t_part {G : cj_G} {pg pa ln : Nat} {pf : Nat → Int32} {x y : Int32} (k_pg : G pg = some (.inr (0, [.ref pa, .int (nI ln)]))) (k_pa : G pa = some (.inl (0, 360, .inl pf))) (hln : ln ≤ 120) : cj_T mX0_part 0 0 0 [.ref pg, .int x, .int y] G (cj_rd G (mc_part pf ln x y)) (cj_no) := by
  refine cj_T_of (by decide) (Nat.le_of_ble_eq_true rfl) ?_
  refine cj_lvs (lv' := [(0, .ref pg), (1, .int x), (2, .int y)]) rfl ?_
  refine cj_iload_n dX0_part_0 rfl ?_
  refine cj_if_lt (tgt := 21) dX0_part_1 (by decide) (fun h1 => ?_) (fun h1 => ?_)
  · refine cj_iconst (v := (-1)) dX0_part_21 (by decide) ?_
    refine cj_iret rfl dX0_part_22 ?_
    refine ⟨congrArg (fun z => some (Value.int z)) ?_, rfl⟩
    first | (simp_all [ch_b0, mc_part]; done) | (simp_all [ch_b0, mc_part]; intros; exfalso; simp only [Int32.lt_iff_toInt_lt, Int32.le_iff_toInt_le] at *; omega)
  · refine cj_iload_n dX0_part_4 rfl ?_
    refine cj_aload_n dX0_part_5 rfl ?_
    refine cj_get flX0_15 dX0_part_6 k_pg rfl ?_
    refine cj_icmp_ge (tgt := 21) dX0_part_9 (by decide) (fun h2 => ?_) (fun h2 => ?_)
    · refine cj_iconst (v := (-1)) dX0_part_21 (by decide) ?_
      refine cj_iret rfl dX0_part_22 ?_
      refine ⟨congrArg (fun z => some (Value.int z)) ?_, rfl⟩
      first | (simp_all [ch_b0, mc_part]; done) | (simp_all [ch_b0, mc_part]; intros; exfalso; simp only [Int32.lt_iff_toInt_lt, Int32.le_iff_toInt_le] at *; omega)
    · refine cj_iload_n dX0_part_12 rfl ?_
      refine cj_if_lt (tgt := 21) dX0_part_13 (by decide) (fun h3 => ?_) (fun h3 => ?_)
      · refine cj_iconst (v := (-1)) dX0_part_21 (by decide) ?_
        refine cj_iret rfl dX0_part_22 ?_
        refine ⟨congrArg (fun z => some (Value.int z)) ?_, rfl⟩
        first | (simp_all [ch_b0, mc_part]; done) | (simp_all [ch_b0, mc_part]; intros; exfalso; simp only [Int32.lt_iff_toInt_lt, Int32.le_iff_toInt_le] at *; omega)
      · refine cj_iload_n dX0_part_16 rfl ?_
        refine cj_iconst (v := 3) dX0_part_17 (by decide) ?_
        refine cj_icmp_lt (tgt := 23) dX0_part_18 (by decide) (fun h4 => ?_) (fun h4 => ?_)
        · refine cj_aload_n dX0_part_23 rfl ?_
          refine cj_get flX0_11 dX0_part_24 k_pg rfl ?_
          refine cj_iconst (v := 3) dX0_part_27 (by decide) ?_
          refine cj_iload_n dX0_part_28 rfl ?_
          refine cj_imul dX0_part_29 ?_
          refine cj_iload_n dX0_part_30 rfl ?_
          refine cj_iadd dX0_part_31 ?_
          have i5 : vp_in ((3 * x) + y) 360 := by
            exact mc_in (by assumption) (by assumption) (by assumption) (by assumption) hln
          refine cj_iald dX0_part_32 k_pa i5 ?_
          refine cj_iret rfl dX0_part_33 ?_
          refine ⟨congrArg (fun z => some (Value.int z)) ?_, rfl⟩
          first | (simp_all [ch_b0, mc_part]; done) | (simp_all [ch_b0, mc_part]; intros; exfalso; simp only [Int32.lt_iff_toInt_lt, Int32.le_iff_toInt_le] at *; omega)
        · refine cj_iconst (v := (-1)) dX0_part_21 (by decide) ?_
          refine cj_iret rfl dX0_part_22 ?_
          refine ⟨congrArg (fun z => some (Value.int z)) ?_, rfl⟩
          first | (simp_all [ch_b0, mc_part]; done) | (simp_all [ch_b0, mc_part]; intros; exfalso; simp only [Int32.lt_iff_toInt_lt, Int32.le_iff_toInt_le] at *; omega)
set_option maxHeartbeats 4000000 in
set_option maxRecDepth 100000 in
theorem t_condition {G : cj_G} {m pg pa o sk ht ln : Nat} {acc env at9 hl rs : Int32} (k_m : G m = some (.inr (2, [.ref pg, .ref o, .ref sk, .int (nI ht), .int acc, .int env, .int at9, .int hl, .int rs]))) (k_pg : G pg = some (.inr (0, [.ref pa, .int (nI ln)]))) (hln : ln ≤ 120) : cj_T mX2_condition 0 0 0 [.ref m] G (cj_rd G (mc_cond ln hl rs)) (cj_no) := by
  refine cj_T_of (by decide) (Nat.le_of_ble_eq_true rfl) ?_
  refine cj_lvs (lv' := [(0, .ref m)]) rfl ?_
  refine cj_aload_n dX2_condition_0 rfl ?_
  refine cj_get flX2_35 dX2_condition_1 k_m rfl ?_
  refine cj_get flX2_48 dX2_condition_4 k_pg rfl ?_
  refine cj_if_ne (tgt := 12) dX2_condition_7 (by decide) (fun h1 => ?_) (fun h1 => ?_)
  · refine cj_aload_n dX2_condition_12 rfl ?_
    refine cj_get flX2_28 dX2_condition_13 k_m rfl ?_
    refine cj_if_eq (tgt := 21) dX2_condition_16 (by decide) (fun h2 => ?_) (fun h2 => ?_)
    · refine cj_aload_n dX2_condition_21 rfl ?_
      refine cj_get flX2_32 dX2_condition_22 k_m rfl ?_
      refine cj_if_ne (tgt := 32) dX2_condition_25 (by decide) (fun h3 => ?_) (fun h3 => ?_)
      · refine cj_iconst (v := 3) dX2_condition_32 (by decide) ?_
        refine cj_iret rfl dX2_condition_33 ?_
        have e9 : nI ln = 0 ↔ ln = 0 := nI_eq (b := 0) (by omega) (by decide)
        refine ⟨congrArg (fun z => some (Value.int z)) ?_, rfl⟩
        first | (simp_all [ch_b0, mc_cond]; done) | (simp_all [ch_b0, mc_cond]; intros; exfalso; simp only [Int32.lt_iff_toInt_lt, Int32.le_iff_toInt_le] at *; omega)
      · refine cj_iconst (v := 1) dX2_condition_28 (by decide) ?_
        refine cj_goto (tgt := 33) dX2_condition_29 (by decide) ?_
        refine cj_iret rfl dX2_condition_33 ?_
        have e9 : nI ln = 0 ↔ ln = 0 := nI_eq (b := 0) (by omega) (by decide)
        refine ⟨congrArg (fun z => some (Value.int z)) ?_, rfl⟩
        first | (simp_all [ch_b0, mc_cond]; done) | (simp_all [ch_b0, mc_cond]; intros; exfalso; simp only [Int32.lt_iff_toInt_lt, Int32.le_iff_toInt_le] at *; omega)
    · refine cj_iconst (v := 2) dX2_condition_19 (by decide) ?_
      refine cj_iret rfl dX2_condition_20 ?_
      have e9 : nI ln = 0 ↔ ln = 0 := nI_eq (b := 0) (by omega) (by decide)
      refine ⟨congrArg (fun z => some (Value.int z)) ?_, rfl⟩
      first | (simp_all [ch_b0, mc_cond]; done) | (simp_all [ch_b0, mc_cond]; intros; exfalso; simp only [Int32.lt_iff_toInt_lt, Int32.le_iff_toInt_le] at *; omega)
  · refine cj_iconst (v := 0) dX2_condition_10 (by decide) ?_
    refine cj_iret rfl dX2_condition_11 ?_
    have e9 : nI ln = 0 ↔ ln = 0 := nI_eq (b := 0) (by omega) (by decide)
    refine ⟨congrArg (fun z => some (Value.int z)) ?_, rfl⟩
    first | (simp_all [ch_b0, mc_cond]; done) | (simp_all [ch_b0, mc_cond]; intros; exfalso; simp only [Int32.lt_iff_toInt_lt, Int32.le_iff_toInt_le] at *; omega)
set_option maxHeartbeats 4000000 in
set_option maxRecDepth 100000 in
theorem t_top {G : cj_G} {m pg o sk ht : Nat} {sf : Nat → Int32} {acc env at9 hl rs : Int32} (k_m : G m = some (.inr (2, [.ref pg, .ref o, .ref sk, .int (nI ht), .int acc, .int env, .int at9, .int hl, .int rs]))) (k_sk : G sk = some (.inl (0, 40, .inl sf))) (hht : ht ≤ 40) : cj_T mX2_top 0 0 0 [.ref m] G (cj_rd G (mc_top sf ht)) cj_no := by
  refine cj_T_of (by decide) (Nat.le_of_ble_eq_true rfl) ?_
  refine cj_lvs (lv' := [(0, .ref m)]) rfl ?_
  cases ht with
  | zero =>
    refine cj_aload_n dX2_top_0 rfl ?_
    refine cj_get flX2_15 dX2_top_1 k_m rfl ?_
    refine cj_if_le (tgt := 33) dX2_top_4 (by decide) (fun h1 => ?_) (fun h1 => absurd h1 (by decide))
    refine cj_bipush (v := (-4)) dX2_top_33 (by decide) ?_
    refine cj_iret rfl dX2_top_35 ?_
    exact ⟨rfl, rfl⟩
  | succ h =>
    refine cj_aload_n dX2_top_0 rfl ?_
    refine cj_get flX2_15 dX2_top_1 k_m rfl ?_
    refine cj_if_le (tgt := 33) dX2_top_4 (by decide) (fun h1 => absurd h1 (nI_nle (by omega) (by omega))) (fun h1 => ?_)
    refine cj_aload_n dX2_top_7 rfl ?_
    refine cj_get flX2_15 dX2_top_8 k_m rfl ?_
    refine cj_aload_n dX2_top_11 rfl ?_
    refine cj_get flX2_9 dX2_top_12 k_m rfl ?_
    refine cj_alen (v := nI 40) dX2_top_15 k_sk rfl rfl ?_
    refine cj_icmp_gt (tgt := 33) dX2_top_16 (by decide) (fun h2 => absurd h2 (nI_nlt (by omega) (by omega))) (fun h2 => ?_)
    refine cj_aload_n dX2_top_19 rfl ?_
    refine cj_get flX2_9 dX2_top_20 k_m rfl ?_
    refine cj_aload_n dX2_top_23 rfl ?_
    refine cj_get flX2_15 dX2_top_24 k_m rfl ?_
    refine cj_iconst (v := 1) dX2_top_27 (by decide) ?_
    refine cj_isub dX2_top_28 ?_
    refine cj_st (st' := [.int (nI h), .ref sk]) (by rw [nI_pred]) ?_
    have i3 : vp_in (nI h) 40 := by
      exact vp_in_nI (by omega) (by decide)
    refine cj_iald dX2_top_29 k_sk i3 ?_
    refine cj_st (st' := [.int (sf h)]) (by rw [nI_clamp (by omega)]) ?_
    refine cj_goto (tgt := 35) dX2_top_30 (by decide) ?_
    refine cj_iret rfl dX2_top_35 ?_
    exact ⟨rfl, rfl⟩
set_option maxHeartbeats 4000000 in
set_option maxRecDepth 100000 in
theorem t_pop {G : cj_G} {m pg o sk ht : Nat} {sf : Nat → Int32} {acc env at9 hl rs : Int32} (k_m : G m = some (.inr (2, [.ref pg, .ref o, .ref sk, .int (nI ht), .int acc, .int env, .int at9, .int hl, .int rs]))) (k_sk : G sk = some (.inl (0, 40, .inl sf))) (hht : ht ≤ 40) : cj_T mX2_pop 1 0 0 [.ref m] G (fun v G' => v = some (.int (mc_top sf ht)) ∧ G' m = some (.inr (2, [.ref pg, .ref o, .ref sk, .int (nI (ht - 1)), .int acc, .int env, .int at9, .int hl, .int rs])) ∧ cj_fr [m] G G') cj_no := by
  refine cj_T_of (by decide) (Nat.le_of_ble_eq_true rfl) ?_
  refine cj_lvs (lv' := [(0, .ref m)]) rfl ?_
  cases ht with
  | zero =>
    refine cj_aload_n dX2_pop_0 rfl ?_
    refine cj_callV (As := []) (rest := []) dX2_pop_1 lkX2_82 mwX2_top (t_top k_m k_sk (by omega)) (by omega) rfl rfl (Nat.le_of_ble_eq_true rfl) k_m rfl (fun v9 G2 q1 => ?_) (fun _ _ h => absurd h id)
    obtain ⟨rfl, e9⟩ := q1
    subst G2
    refine cj_st (st' := [.int (mc_top sf 0)]) rfl ?_
    refine cj_istore_n (lv' := [(1, .int (mc_top sf 0)), (0, .ref m)]) dX2_pop_4 (by decide) rfl ?_
    refine cj_aload_n dX2_pop_5 rfl ?_
    refine cj_iconst (v := 0) dX2_pop_6 (by decide) ?_
    refine cj_aload_n dX2_pop_7 rfl ?_
    refine cj_get flX2_15 dX2_pop_8 k_m rfl ?_
    refine cj_iconst (v := 1) dX2_pop_11 (by decide) ?_
    refine cj_isub dX2_pop_12 ?_
    refine cj_max dX2_pop_13 lkX2_167 (by omega) (Nat.le_of_ble_eq_true rfl) ?_
    refine cj_st (st' := [.int (nI (0 - 1)), .ref m]) (by rw [show (if (0 : Int32) < nI 0 - 1 then nI 0 - 1 else 0) = nI (0 - 1) from by decide]) ?_
    refine cj_put flX2_15 dX2_pop_16 k_m rfl rfl (Nat.le_of_ble_eq_true rfl) ?_
    refine cj_nm (fun G3 e4 => ?_)
    have k5 : G3 m = some (.inr (2, [.ref pg, .ref o, .ref sk, .int (nI (0 - 1)), .int acc, .int env, .int at9, .int hl, .int rs])) := by rw [e4]; exact cj_up_s
    have k6 : G3 sk = some (.inl (0, 40, .inl sf)) := by rw [e4, cj_up_n (cj_ne k_sk k_m (by intro h; cases h))]; exact k_sk
    have r7 : cj_fr [m] G G3 := by rw [e4]; exact cj_fr.up (cj_fr.rf (S := [m]) (G := G)) (by simp)
    refine cj_iload_n dX2_pop_19 rfl ?_
    refine cj_iret rfl dX2_pop_20 ?_
    exact ⟨rfl, k5, r7⟩
  | succ h =>
    refine cj_aload_n dX2_pop_0 rfl ?_
    refine cj_callV (As := []) (rest := []) dX2_pop_1 lkX2_82 mwX2_top (t_top k_m k_sk (by omega)) (by omega) rfl rfl (Nat.le_of_ble_eq_true rfl) k_m rfl (fun v9 G2 q1 => ?_) (fun _ _ h => absurd h id)
    obtain ⟨rfl, e9⟩ := q1
    subst G2
    refine cj_st (st' := [.int (mc_top sf (h + 1))]) rfl ?_
    refine cj_istore_n (lv' := [(1, .int (mc_top sf (h + 1))), (0, .ref m)]) dX2_pop_4 (by decide) rfl ?_
    refine cj_aload_n dX2_pop_5 rfl ?_
    refine cj_iconst (v := 0) dX2_pop_6 (by decide) ?_
    refine cj_aload_n dX2_pop_7 rfl ?_
    refine cj_get flX2_15 dX2_pop_8 k_m rfl ?_
    refine cj_iconst (v := 1) dX2_pop_11 (by decide) ?_
    refine cj_isub dX2_pop_12 ?_
    refine cj_max dX2_pop_13 lkX2_167 (by omega) (Nat.le_of_ble_eq_true rfl) ?_
    refine cj_st (st' := [.int (nI (h + 1 - 1)), .ref m]) (by rw [nI_pred, mc_max0 h (by omega), Nat.add_sub_cancel]) ?_
    refine cj_put flX2_15 dX2_pop_16 k_m rfl rfl (Nat.le_of_ble_eq_true rfl) ?_
    refine cj_nm (fun G3 e4 => ?_)
    have k5 : G3 m = some (.inr (2, [.ref pg, .ref o, .ref sk, .int (nI (h + 1 - 1)), .int acc, .int env, .int at9, .int hl, .int rs])) := by rw [e4]; exact cj_up_s
    have k6 : G3 sk = some (.inl (0, 40, .inl sf)) := by rw [e4, cj_up_n (cj_ne k_sk k_m (by intro h; cases h))]; exact k_sk
    have r7 : cj_fr [m] G G3 := by rw [e4]; exact cj_fr.up (cj_fr.rf (S := [m]) (G := G)) (by simp)
    refine cj_iload_n dX2_pop_19 rfl ?_
    refine cj_iret rfl dX2_pop_20 ?_
    exact ⟨rfl, k5, r7⟩
set_option maxHeartbeats 4000000 in
set_option maxRecDepth 100000 in
theorem t_push {G : cj_G} {m pg o sk ht : Nat} {sf : Nat → Int32} {w acc env at9 hl rs : Int32} (k_m : G m = some (.inr (2, [.ref pg, .ref o, .ref sk, .int (nI ht), .int acc, .int env, .int at9, .int hl, .int rs]))) (k_sk : G sk = some (.inl (0, 40, .inl sf))) (hht : ht < 40) : cj_T mX2_push 0 0 0 [.ref m, .int w] G (fun v G' => v = none ∧ G' m = some (.inr (2, [.ref pg, .ref o, .ref sk, .int (nI (ht + 1)), .int acc, .int env, .int at9, .int hl, .int rs])) ∧ G' sk = some (.inl (0, 40, .inl (upd sf ht w))) ∧ cj_fr [m, sk] G G') (cj_no) := by
  refine cj_T_of (by decide) (Nat.le_of_ble_eq_true rfl) ?_
  refine cj_lvs (lv' := [(0, .ref m), (1, .int w)]) rfl ?_
  refine cj_aload_n dX2_push_0 rfl ?_
  refine cj_get flX2_15 dX2_push_1 k_m rfl ?_
  refine cj_if_lt (tgt := 39) dX2_push_4 (by decide) (fun h1 => absurd h1 (nI_pos (by omega))) (fun h1 => ?_)
  refine cj_aload_n dX2_push_7 rfl ?_
  refine cj_get flX2_15 dX2_push_8 k_m rfl ?_
  refine cj_aload_n dX2_push_11 rfl ?_
  refine cj_get flX2_9 dX2_push_12 k_m rfl ?_
  refine cj_alen (v := nI 40) dX2_push_15 k_sk rfl rfl ?_
  refine cj_icmp_ge (tgt := 39) dX2_push_16 (by decide) (fun h2 => absurd h2 (nI_ge (by omega) (by omega))) (fun h2 => ?_)
  refine cj_aload_n dX2_push_19 rfl ?_
  refine cj_get flX2_9 dX2_push_20 k_m rfl ?_
  refine cj_aload_n dX2_push_23 rfl ?_
  refine cj_get flX2_15 dX2_push_24 k_m rfl ?_
  refine cj_iload_n dX2_push_27 rfl ?_
  have i3 : vp_in (nI ht) 40 := by
    exact vp_in_nI (by omega) (by decide)
  refine cj_iast dX2_push_28 k_sk i3 ?_
  refine cj_eqG (G' := cj_up G sk (.inl (0, 40, .inl (upd sf ht w)))) (by rw [nI_clamp (by omega)]) ?_
  refine cj_nm (fun G4 e5 => ?_)
  have k6 : G4 m = some (.inr (2, [.ref pg, .ref o, .ref sk, .int (nI ht), .int acc, .int env, .int at9, .int hl, .int rs])) := by rw [e5, cj_up_n (cj_ne k_m k_sk (by intro h; cases h))]; exact k_m
  have k7 : G4 sk = some (.inl (0, 40, .inl (upd sf ht w))) := by rw [e5]; exact cj_up_s
  have r8 : cj_fr [m, sk] G G4 := by rw [e5]; exact cj_fr.up (cj_fr.rf (S := [m, sk]) (G := G)) (by simp)
  refine cj_aload_n dX2_push_29 rfl ?_
  refine cj_dup dX2_push_30 rfl ?_
  refine cj_get flX2_15 dX2_push_31 k6 rfl ?_
  refine cj_iconst (v := 1) dX2_push_34 (by decide) ?_
  refine cj_iadd dX2_push_35 ?_
  refine cj_st (st' := [.int (nI (ht + 1)), .ref m]) (by rw [nI_1]) ?_
  refine cj_put flX2_15 dX2_push_36 k6 rfl rfl (Nat.le_of_ble_eq_true rfl) ?_
  refine cj_nm (fun G9 e10 => ?_)
  have k11 : G9 m = some (.inr (2, [.ref pg, .ref o, .ref sk, .int (nI (ht + 1)), .int acc, .int env, .int at9, .int hl, .int rs])) := by rw [e10]; exact cj_up_s
  have k12 : G9 sk = some (.inl (0, 40, .inl (upd sf ht w))) := by rw [e10, cj_up_n (cj_ne k7 k6 (by intro h; cases h))]; exact k7
  have r13 : cj_fr [m, sk] G G9 := by rw [e10]; exact cj_fr.up r8 (by simp)
  refine cj_vret rfl dX2_push_39 ?_
  exact ⟨rfl, k11, k12, r13⟩
set_option maxHeartbeats 4000000 in
set_option maxRecDepth 100000 in
theorem t_growth {G : cj_G} {x : Int32} : cj_T mX2_growth 0 0 0 [.int x] G (cj_rd G (ch_b (x = 3 ∨ x = 13))) (cj_no) := by
  refine cj_T_of (by decide) (Nat.le_of_ble_eq_true rfl) ?_
  refine cj_lvs (lv' := [(0, .int x)]) rfl ?_
  refine cj_iload_n dX2_growth_0 rfl ?_
  refine cj_iconst (v := 3) dX2_growth_1 (by decide) ?_
  refine cj_icmp_eq (tgt := 11) dX2_growth_2 (by decide) (fun h1 => ?_) (fun h1 => ?_)
  · refine cj_iconst (v := 1) dX2_growth_11 (by decide) ?_
    refine cj_goto (tgt := 16) dX2_growth_12 (by decide) ?_
    refine cj_iret rfl dX2_growth_16 ?_
    refine ⟨congrArg (fun z => some (Value.int z)) ?_, rfl⟩
    first | (simp_all [ch_b0, ch_b]; done) | (simp_all [ch_b0, ch_b]; intros; exfalso; simp only [Int32.lt_iff_toInt_lt, Int32.le_iff_toInt_le] at *; omega)
  · refine cj_iload_n dX2_growth_5 rfl ?_
    refine cj_bipush (v := 13) dX2_growth_6 (by decide) ?_
    refine cj_icmp_ne (tgt := 15) dX2_growth_8 (by decide) (fun h2 => ?_) (fun h2 => ?_)
    · refine cj_iconst (v := 0) dX2_growth_15 (by decide) ?_
      refine cj_iret rfl dX2_growth_16 ?_
      refine ⟨congrArg (fun z => some (Value.int z)) ?_, rfl⟩
      first | (simp_all [ch_b0, ch_b]; done) | (simp_all [ch_b0, ch_b]; intros; exfalso; simp only [Int32.lt_iff_toInt_lt, Int32.le_iff_toInt_le] at *; omega)
    · refine cj_iconst (v := 1) dX2_growth_11 (by decide) ?_
      refine cj_goto (tgt := 16) dX2_growth_12 (by decide) ?_
      refine cj_iret rfl dX2_growth_16 ?_
      refine ⟨congrArg (fun z => some (Value.int z)) ?_, rfl⟩
      first | (simp_all [ch_b0, ch_b]; done) | (simp_all [ch_b0, ch_b]; intros; exfalso; simp only [Int32.lt_iff_toInt_lt, Int32.le_iff_toInt_le] at *; omega)
def mc_pair (f : Nat → Int32) (t : Nat) (w x y : Int32) : Nat → Int32 := upd (upd (upd f t (16 * 2 + w)) (t + 1) x) (t + 2) y
set_option maxHeartbeats 4000000 in
set_option maxRecDepth 100000 in
theorem t_bind {G : cj_G} {m pg o sk ht a b c N t : Nat} {f : Nat → Int32} {w acc env at9 hl rs cp9 tn9 : Int32} (k_m : G m = some (.inr (2, [.ref pg, .ref o, .ref sk, .int (nI ht), .int acc, .int env, .int at9, .int hl, .int rs]))) (k_o : G o = some (.inr (1, [.ref a, .ref b, .ref c, .int (nI t), .int cp9, .int tn9]))) (k_a : G a = some (.inl (0, N, .inl f))) (hN : N ≤ 200) (ht3 : t + 3 ≤ N) : cj_T mX2_bind 3 0 0 [.ref m, .int w] G (fun v G' => v = none ∧ G' m = some (.inr (2, [.ref pg, .ref o, .ref sk, .int (nI ht), .int acc, .int (4 * nI t), .int at9, .int hl, .int rs])) ∧ G' o = some (.inr (1, [.ref a, .ref b, .ref c, .int (nI (t + 3)), .int cp9, .int tn9])) ∧ G' a = some (.inl (0, N, .inl (mc_pair f t 10 w env))) ∧ cj_fr [m, o, a] G G') (cj_no) := by
  refine cj_T_of (by decide) (Nat.le_of_ble_eq_true rfl) ?_
  refine cj_lvs (lv' := [(0, .ref m), (1, .int w)]) rfl ?_
  refine cj_aload_n dX2_bind_0 rfl ?_
  refine cj_aload_n dX2_bind_1 rfl ?_
  refine cj_get flX2_39 dX2_bind_2 k_m rfl ?_
  refine cj_bipush (v := 10) dX2_bind_5 (by decide) ?_
  refine cj_iload_n dX2_bind_7 rfl ?_
  refine cj_aload_n dX2_bind_8 rfl ?_
  refine cj_get flX2_22 dX2_bind_9 k_m rfl ?_
  refine cj_callV (As := [.int 10, .int w, .int env]) (rest := [.ref m]) dX2_bind_12 lkX2_135 mwX1_putPair (t_putPair k_o k_a hN (by omega)) (by omega) rfl rfl (Nat.le_of_ble_eq_true rfl) k_o rfl (fun v9 G2 q1 => ?_) (fun _ _ h => absurd h id)
  obtain ⟨rfl, k3, k4, r5⟩ := q1
  have k6 : G2 m = some (.inr (2, [.ref pg, .ref o, .ref sk, .int (nI ht), .int acc, .int env, .int at9, .int hl, .int rs])) := r5 _ _ (cj_ni2 (cj_ne k_m k_o (by intro h; cases h)) (cj_ne k_m k_a (by intro h; cases h))) k_m
  have r7 : cj_fr [m, o, a] G G2 := cj_fr.trans (cj_fr.rf (S := [m, o, a]) (G := G)) (cj_fr.mono r5 (by simp))
  refine cj_st (st' := [.int (4 * nI t), .ref m]) rfl ?_
  refine cj_put flX2_22 dX2_bind_15 k6 rfl rfl (Nat.le_of_ble_eq_true rfl) ?_
  refine cj_nm (fun G8 e9 => ?_)
  have k10 : G8 m = some (.inr (2, [.ref pg, .ref o, .ref sk, .int (nI ht), .int acc, .int (4 * nI t), .int at9, .int hl, .int rs])) := by rw [e9]; exact cj_up_s
  have k11 : G8 o = some (.inr (1, [.ref a, .ref b, .ref c, .int (nI (t + 3)), .int cp9, .int tn9])) := by rw [e9, cj_up_n (cj_ne k3 k6 (by intro h; cases h))]; exact k3
  have k12 : G8 a = some (.inl (0, N, .inl (mc_pair f t 10 w env))) := by rw [e9, cj_up_n (cj_ne k4 k6 (by intro h; cases h))]; exact k4
  have r13 : cj_fr [m, o, a] G G8 := by rw [e9]; exact cj_fr.up r7 (by simp)
  refine cj_vret rfl dX2_bind_18 ?_
  exact ⟨rfl, k10, k11, k12, r13⟩
