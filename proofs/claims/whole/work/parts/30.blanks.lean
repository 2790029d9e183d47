/-! Reader.leaveOutBlanks, Reader.beginsHead; the constructor of ClosureHeap -/
/-- the text without its blanks: what has been written so far (g, m characters), from place i on r characters of w -/
def rd_lb (w : Nat → Nat) : Nat → Nat → (Nat → Nat) → Nat → (Nat → Nat) × Nat
  | 0, _, g, m => (g, m)
  | r + 1, i, g, m => if w i = 32 then rd_lb w r (i + 1) g m else rd_lb w r (i + 1) (rd_up g m (w i)) (m + 1)
set_option maxHeartbeats 4000000 in
set_option maxRecDepth 100000 in
theorem l_blank {d k0 n0 k n : Nat} {Qr : Option Value → cj_G → Prop} {Qx : String → cj_G → Prop} {rd rt nb wt ct : Nat} {w : Nat → Nat} {ra rb ri : Int32} (n_rt_wt : rt ≠ wt) (hct : ct ≤ 90) (hw : ∀ j, w j < 65536) : ∀ (r i : Nat) (g : Nat → Nat) (m : Nat) (G : cj_G), i + r = ct → m ≤ i → G rd = some (.inr (3, [.ref rt, .int (nI m), .int ra, .ref nb, .int rb, .int ri])) → G rt = some (.inl (1, 90, .inl (fun j => nI (g j)))) → G wt = some (.inl (1, 90, .inl (fun j => nI (w j)))) → (∀ G' : cj_G, G' rd = some (.inr (3, [.ref rt, .int (nI (rd_lb w r i g m).2), .int ra, .ref nb, .int rb, .int ri])) → G' rt = some (.inl (1, 90, .inl (fun j => nI ((rd_lb w r i g m).1 j)))) → cj_fr [rd, rt] G G' → cj_J mX3_leaveOutBlanks d k0 n0 Qr Qx k n 66 [] [] G') → cj_J mX3_leaveOutBlanks d k0 n0 Qr Qx k n 7 [(3, .int (nI i)), (0, .ref rd), (1, .ref wt), (2, .int (nI ct))] [] G := by
  intro r
  induction r with
  | zero =>
    intro i g m G hi hm k_rd k_rt k_wt kk
    refine cj_iload_n dX3_leaveOutBlanks_7 rfl ?_
    refine cj_iload_n dX3_leaveOutBlanks_8 rfl ?_
    refine cj_icmp_ge (tgt := 66) dX3_leaveOutBlanks_9 (by decide) (fun h1 => ?_) (fun h1 => absurd h1 (Classical.not_not.mpr (nI_le (by omega) (by omega))))
    exact cj_sub (lv' := []) (by simp) (kk _ k_rd k_rt (cj_fr.rf (S := [rd, rt]) (G := G)))
  | succ r ih =>
    intro i g m G hi hm k_rd k_rt k_wt kk
    by_cases hb : w i = 32
    · refine cj_iload_n dX3_leaveOutBlanks_7 rfl ?_
      refine cj_iload_n dX3_leaveOutBlanks_8 rfl ?_
      refine cj_icmp_ge (tgt := 66) dX3_leaveOutBlanks_9 (by decide) (fun h1 => absurd h1 (nI_ge (by omega) (by omega))) (fun h1 => ?_)
      refine cj_iload_n dX3_leaveOutBlanks_12 rfl ?_
      refine cj_pc (pc' := 13) rfl ?_
      refine cj_aload_n dX3_leaveOutBlanks_13 rfl ?_
      refine cj_alen (v := nI 90) dX3_leaveOutBlanks_14 k_wt rfl rfl ?_
      refine cj_icmp_ge (tgt := 66) dX3_leaveOutBlanks_15 (by decide) (fun h2 => absurd h2 (nI_ge (b := 90) (by omega) (by omega))) (fun h2 => ?_)
      refine cj_aload_n dX3_leaveOutBlanks_18 rfl ?_
      refine cj_pc (pc' := 19) rfl ?_
      refine cj_iload_n dX3_leaveOutBlanks_19 rfl ?_
      have i3 : vp_in (nI i) 90 := vp_in_nI (by omega) (by decide)
      refine cj_cald dX3_leaveOutBlanks_20 k_wt i3 ?_
      refine cj_st (st' := [.int (nI (w i))]) (by rw [nI_clamp (by omega)]) ?_
      refine cj_bipush (v := 32) dX3_leaveOutBlanks_21 (by decide) ?_
      refine cj_icmp_eq (tgt := 60) dX3_leaveOutBlanks_23 (by decide) (fun h4 => ?_) (fun h4 => absurd h4 (Classical.not_not.mpr (by rw [hb]; rfl)))
      refine cj_pc (pc' := 60) rfl ?_
      refine cj_iinc (v := nI (i + 1)) (lv' := [(3, .int (nI (i + 1))), (0, .ref rd), (1, .ref wt), (2, .int (nI ct))]) dX3_leaveOutBlanks_60 rfl (nI_1 _) (by decide) rfl ?_
      refine cj_goto (tgt := 7) dX3_leaveOutBlanks_63 (by decide) ?_
      refine cj_sub (lv' := [(3, .int (nI (i + 1))), (0, .ref rd), (1, .ref wt), (2, .int (nI ct))]) (by simp) ?_
      have e9 : rd_lb w (r + 1) i g m = rd_lb w r (i + 1) g m := if_pos hb
      refine ih (i + 1) g m _ (by omega) (by omega) k_rd k_rt k_wt (fun G9 j1 j2 j3 => kk G9 (by rw [e9]; exact j1) (by rw [e9]; exact j2) (cj_fr.trans (cj_fr.rf (S := [rd, rt]) (G := G)) j3))
    · refine cj_iload_n dX3_leaveOutBlanks_7 rfl ?_
      refine cj_iload_n dX3_leaveOutBlanks_8 rfl ?_
      refine cj_icmp_ge (tgt := 66) dX3_leaveOutBlanks_9 (by decide) (fun h1 => absurd h1 (nI_ge (by omega) (by omega))) (fun h1 => ?_)
      refine cj_iload_n dX3_leaveOutBlanks_12 rfl ?_
      refine cj_pc (pc' := 13) rfl ?_
      refine cj_aload_n dX3_leaveOutBlanks_13 rfl ?_
      refine cj_alen (v := nI 90) dX3_leaveOutBlanks_14 k_wt rfl rfl ?_
      refine cj_icmp_ge (tgt := 66) dX3_leaveOutBlanks_15 (by decide) (fun h2 => absurd h2 (nI_ge (b := 90) (by omega) (by omega))) (fun h2 => ?_)
      refine cj_aload_n dX3_leaveOutBlanks_18 rfl ?_
      refine cj_pc (pc' := 19) rfl ?_
      refine cj_iload_n dX3_leaveOutBlanks_19 rfl ?_
      have i3 : vp_in (nI i) 90 := vp_in_nI (by omega) (by decide)
      refine cj_cald dX3_leaveOutBlanks_20 k_wt i3 ?_
      refine cj_st (st' := [.int (nI (w i))]) (by rw [nI_clamp (by omega)]) ?_
      refine cj_bipush (v := 32) dX3_leaveOutBlanks_21 (by decide) ?_
      refine cj_icmp_eq (tgt := 60) dX3_leaveOutBlanks_23 (by decide) (fun h4 => absurd h4 (fun h9 => hb ((nI_eq (b := 32) (Nat.lt_trans (hw i) (by decide)) (by decide)).mp h9))) (fun h4 => ?_)
      refine cj_pc (pc' := 26) rfl ?_
      refine cj_aload_n dX3_leaveOutBlanks_26 rfl ?_
      refine cj_get flX3_15 dX3_leaveOutBlanks_27 k_rd rfl ?_
      refine cj_aload_n dX3_leaveOutBlanks_30 rfl ?_
      refine cj_get flX3_9 dX3_leaveOutBlanks_31 k_rd rfl ?_
      refine cj_pc (pc' := 34) rfl ?_
      refine cj_alen (v := nI 90) dX3_leaveOutBlanks_34 k_rt rfl rfl ?_
      refine cj_icmp_ge (tgt := 60) dX3_leaveOutBlanks_35 (by decide) (fun h5 => absurd h5 (nI_ge (b := 90) (by omega) (by omega))) (fun h5 => ?_)
      refine cj_aload_n dX3_leaveOutBlanks_38 rfl ?_
      refine cj_get flX3_9 dX3_leaveOutBlanks_39 k_rd rfl ?_
      refine cj_pc (pc' := 42) rfl ?_
      refine cj_aload_n dX3_leaveOutBlanks_42 rfl ?_
      refine cj_get flX3_15 dX3_leaveOutBlanks_43 k_rd rfl ?_
      refine cj_aload_n dX3_leaveOutBlanks_46 rfl ?_
      refine cj_iload_n dX3_leaveOutBlanks_47 rfl ?_
      refine cj_pc (pc' := 48) rfl ?_
      have i6 : vp_in (nI i) 90 := vp_in_nI (by omega) (by decide)
      refine cj_cald dX3_leaveOutBlanks_48 k_wt i6 ?_
      refine cj_st (st' := [.int (nI (w i)), .int (nI m), .ref rt]) (by rw [nI_clamp (by omega)]) ?_
      have i7 : vp_in (nI m) 90 := vp_in_nI (by omega) (by decide)
      refine cj_cast dX3_leaveOutBlanks_49 k_rt i7 ?_
      refine cj_eqG (G' := cj_up G rt (.inl (1, 90, .inl (fun j => nI (rd_up g m (w i) j))))) (by rw [nI_clamp (by omega), rd_nar (hw i), rd_upd]) ?_
      refine cj_nm (fun G8 e9 => ?_)
      have k10 : G8 rd = some (.inr (3, [.ref rt, .int (nI m), .int ra, .ref nb, .int rb, .int ri])) := by rw [e9, cj_up_n (cj_noa k_rd k_rt)]; exact k_rd
      have k11 : G8 rt = some (.inl (1, 90, .inl (fun j => nI (rd_up g m (w i) j)))) := by rw [e9]; exact cj_up_s
      have k12 : G8 wt = some (.inl (1, 90, .inl (fun j => nI (w j)))) := by rw [e9, cj_up_n (Ne.symm n_rt_wt)]; exact k_wt
      have r13 : cj_fr [rd, rt] G G8 := by rw [e9]; exact cj_fr.up (cj_fr.rf (S := [rd, rt]) (G := G)) (by simp)
      refine cj_aload_n dX3_leaveOutBlanks_50 rfl ?_
      refine cj_dup dX3_leaveOutBlanks_51 rfl ?_
      refine cj_pc (pc' := 52) rfl ?_
      refine cj_get flX3_15 dX3_leaveOutBlanks_52 k10 rfl ?_
      refine cj_iconst (v := 1) dX3_leaveOutBlanks_55 (by decide) ?_
      refine cj_iadd dX3_leaveOutBlanks_56 ?_
      refine cj_st (st' := [.int (nI (m + 1)), .ref rd]) (by rw [nI_1]) ?_
      refine cj_put flX3_15 dX3_leaveOutBlanks_57 k10 rfl rfl (Nat.le_of_ble_eq_true rfl) ?_
      refine cj_nm (fun G14 e15 => ?_)
      have k16 : G14 rd = some (.inr (3, [.ref rt, .int (nI (m + 1)), .int ra, .ref nb, .int rb, .int ri])) := by rw [e15]; exact cj_up_s
      have k17 : G14 rt = some (.inl (1, 90, .inl (fun j => nI (rd_up g m (w i) j)))) := by rw [e15, cj_up_n (cj_nao k11 k10)]; exact k11
      have k18 : G14 wt = some (.inl (1, 90, .inl (fun j => nI (w j)))) := by rw [e15, cj_up_n (cj_nao k12 k10)]; exact k12
      have r19 : cj_fr [rd, rt] G G14 := by rw [e15]; exact cj_fr.up r13 (by simp)
      refine cj_pc (pc' := 60) rfl ?_
      refine cj_iinc (v := nI (i + 1)) (lv' := [(3, .int (nI (i + 1))), (0, .ref rd), (1, .ref wt), (2, .int (nI ct))]) dX3_leaveOutBlanks_60 rfl (nI_1 _) (by decide) rfl ?_
      refine cj_goto (tgt := 7) dX3_leaveOutBlanks_63 (by decide) ?_
      refine cj_sub (lv' := [(3, .int (nI (i + 1))), (0, .ref rd), (1, .ref wt), (2, .int (nI ct))]) (by simp) ?_
      have e9 : rd_lb w (r + 1) i g m = rd_lb w r (i + 1) (rd_up g m (w i)) (m + 1) := if_neg hb
      refine ih (i + 1) (rd_up g m (w i)) (m + 1) _ (by omega) (by omega) k16 k17 k18 (fun G9 j1 j2 j3 => kk G9 (by rw [e9]; exact j1) (by rw [e9]; exact j2) (cj_fr.trans r19 j3))
set_option maxHeartbeats 4000000 in
set_option maxRecDepth 100000 in
theorem t_leaveOutBlanks {G : cj_G} {rd rt nb wt ct : Nat} {w g : Nat → Nat} {rl ra rb ri : Int32} (k_rd : G rd = some (.inr (3, [.ref rt, .int rl, .int ra, .ref nb, .int rb, .int ri]))) (k_rt : G rt = some (.inl (1, 90, .inl (fun j => nI (g j))))) (k_wt : G wt = some (.inl (1, 90, .inl (fun j => nI (w j))))) (n_rt_wt : rt ≠ wt) (hct : ct ≤ 90) (hw : ∀ j, w j < 65536) : cj_T mX3_leaveOutBlanks 0 0 0 [.ref rd, .ref wt, .int (nI ct)] G (fun v G' => v = none ∧ G' rd = some (.inr (3, [.ref rt, .int (nI (rd_lb w ct 0 g 0).2), .int ra, .ref nb, .int rb, .int ri])) ∧ G' rt = some (.inl (1, 90, .inl (fun j => nI ((rd_lb w ct 0 g 0).1 j)))) ∧ cj_fr [rd, rt] G G') (cj_no) := by
  refine cj_T_of (by decide) (Nat.le_of_ble_eq_true rfl) ?_
  refine cj_lvs (lv' := [(0, .ref rd), (1, .ref wt), (2, .int (nI ct))]) rfl ?_
  refine cj_aload_n dX3_leaveOutBlanks_0 rfl ?_
  refine cj_iconst (v := 0) dX3_leaveOutBlanks_1 (by decide) ?_
  refine cj_put flX3_15 dX3_leaveOutBlanks_2 k_rd rfl rfl (Nat.le_of_ble_eq_true rfl) ?_
  refine cj_nm (fun G1 e2 => ?_)
  have k3 : G1 rd = some (.inr (3, [.ref rt, .int 0, .int ra, .ref nb, .int rb, .int ri])) := by rw [e2]; exact cj_up_s
  have k4 : G1 rt = some (.inl (1, 90, .inl (fun j => nI (g j)))) := by rw [e2, cj_up_n (cj_nao k_rt k_rd)]; exact k_rt
  have k5 : G1 wt = some (.inl (1, 90, .inl (fun j => nI (w j)))) := by rw [e2, cj_up_n (cj_nao k_wt k_rd)]; exact k_wt
  have r6 : cj_fr [rd, rt] G G1 := by rw [e2]; exact cj_fr.up (cj_fr.rf (S := [rd, rt]) (G := G)) (by simp)
  refine cj_iconst (v := 0) dX3_leaveOutBlanks_5 (by decide) ?_
  refine cj_pc (pc' := 6) rfl ?_
  refine cj_istore_n (lv' := [(3, .int 0), (0, .ref rd), (1, .ref wt), (2, .int (nI ct))]) dX3_leaveOutBlanks_6 (by decide) rfl ?_
  refine cj_sub (lv' := [(3, .int (nI 0)), (0, .ref rd), (1, .ref wt), (2, .int (nI ct))]) (by simp [nI_0]) ?_
  refine l_blank n_rt_wt hct hw ct 0 g 0 _ (by omega) (by omega) k3 k4 k5 (fun G9 j1 j2 j3 => ?_)
  exact cj_vret rfl dX3_leaveOutBlanks_66 ⟨rfl, j1, j2, cj_fr.trans r6 j3⟩
def rd_hd (tx : Nat → Nat) (L p : Nat) : Bool := decide (rd_ch tx L p = 92) || (decide (rd_ch tx L p = 64) || (decide (97 ≤ rd_ch tx L p ∧ rd_ch tx L p ≤ 122) && decide (rd_ch tx L (p + 1) = 61)))
set_option maxHeartbeats 4000000 in
set_option maxRecDepth 100000 in
theorem t_beginsHead {G : cj_G} {rd rt nb L p bd : Nat} {tx : Nat → Nat} {ill : Int32} (k_rd : G rd = some (.inr (3, [.ref rt, .int (nI L), .int (nI p), .ref nb, .int (nI bd), .int ill]))) (k_rt : G rt = some (.inl (1, 90, .inl (fun j => nI (tx j))))) (hL : L ≤ 90) (hp : p < 1000) (hx : ∀ j, tx j < 65536) : cj_T mX3_beginsHead 2 0 0 [.ref rd] G (cj_rd G (ch_b (rd_hd tx L p = true))) (cj_no) := by
  refine cj_T_of (by decide) (Nat.le_of_ble_eq_true rfl) ?_
  refine cj_lvs (lv' := [(0, .ref rd)]) rfl ?_
  refine cj_aload_n dX3_beginsHead_0 rfl ?_
  refine cj_callV (M' := mX3_peek) (d' := 1) (k' := 0) (n' := 0) (index := 64) (np := 0) (As := []) (rest := []) dX3_beginsHead_1 lkX3_64 mwX3_peek (t_peek k_rd k_rt hL hp hx) (by omega) rfl rfl (Nat.le_of_ble_eq_true rfl) k_rd rfl (fun v9 G2 q1 => ?_) (fun _ _ h => absurd h id)
  obtain ⟨rfl, e9⟩ := q1
  subst G2
  refine cj_st (st' := [.int (nI (rd_ch tx L p))]) rfl ?_
  refine cj_istore_n (lv' := [(1, .int (nI (rd_ch tx L p))), (0, .ref rd)]) dX3_beginsHead_4 (by decide) rfl ?_
  refine cj_iload_n dX3_beginsHead_5 rfl ?_
  refine cj_pc (pc' := 6) rfl ?_
  refine cj_bipush (v := 92) dX3_beginsHead_6 (by decide) ?_
  refine cj_icmp_eq (tgt := 39) dX3_beginsHead_8 (by decide) (fun h3 => ?_) (fun h3 => ?_)
  · refine cj_iconst (v := 1) dX3_beginsHead_39 (by decide) ?_
    refine cj_goto (tgt := 44) dX3_beginsHead_40 (by decide) ?_
    refine cj_pc (pc' := 44) rfl ?_
    refine cj_zret rfl rfl dX3_beginsHead_44 ?_
    have b9 : rd_ch tx L p < 2 ^ 31 := Nat.lt_trans (rd_ch_lt hx) (by decide)
    have b8 : rd_ch tx L (p + 1) < 2 ^ 31 := Nat.lt_trans (rd_ch_lt hx) (by decide)
    have e1 : nI (rd_ch tx L p) = 92 ↔ rd_ch tx L p = 92 := nI_eq (b := 92) b9 (by decide)
    have e2 : nI (rd_ch tx L p) = 64 ↔ rd_ch tx L p = 64 := nI_eq (b := 64) b9 (by decide)
    have e3 : nI (rd_ch tx L (p + 1)) = 61 ↔ rd_ch tx L (p + 1) = 61 := nI_eq (b := 61) b8 (by decide)
    simp only [e1, e2, e3, ch_b0, Classical.not_not] at h3
    refine ⟨congrArg (fun z => some (Value.int z)) ?_, rfl⟩
    simp [ch_b, rd_hd, h3]
  · refine cj_iload_n dX3_beginsHead_11 rfl ?_
    refine cj_bipush (v := 64) dX3_beginsHead_12 (by decide) ?_
    refine cj_icmp_eq (tgt := 39) dX3_beginsHead_14 (by decide) (fun h4 => ?_) (fun h4 => ?_)
    · refine cj_pc (pc' := 39) rfl ?_
      refine cj_iconst (v := 1) dX3_beginsHead_39 (by decide) ?_
      refine cj_goto (tgt := 44) dX3_beginsHead_40 (by decide) ?_
      refine cj_zret rfl rfl dX3_beginsHead_44 ?_
      have b9 : rd_ch tx L p < 2 ^ 31 := Nat.lt_trans (rd_ch_lt hx) (by decide)
      have b8 : rd_ch tx L (p + 1) < 2 ^ 31 := Nat.lt_trans (rd_ch_lt hx) (by decide)
      have e1 : nI (rd_ch tx L p) = 92 ↔ rd_ch tx L p = 92 := nI_eq (b := 92) b9 (by decide)
      have e2 : nI (rd_ch tx L p) = 64 ↔ rd_ch tx L p = 64 := nI_eq (b := 64) b9 (by decide)
      have e3 : nI (rd_ch tx L (p + 1)) = 61 ↔ rd_ch tx L (p + 1) = 61 := nI_eq (b := 61) b8 (by decide)
      simp only [e1, e2, e3, ch_b0, Classical.not_not] at h3
      simp only [e1, e2, e3, ch_b0, Classical.not_not] at h4
      refine ⟨congrArg (fun z => some (Value.int z)) ?_, rfl⟩
      simp [ch_b, rd_hd, h3, h4]
    · refine cj_iload_n dX3_beginsHead_17 rfl ?_
      refine cj_pc (pc' := 18) rfl ?_
      refine cj_callS (M' := mX3_isName) (d' := 0) (k' := 0) (n' := 0) (index := 78) (np := 1) (As := [.int (nI (rd_ch tx L p))]) (rest := []) dX3_beginsHead_18 lkX3_78 mwX3_isName (t_isName (by first | omega | exact rd_ch_lt hx | exact hcl)) (by omega) rfl rfl (Nat.le_of_ble_eq_true rfl) (fun v9 G6 q5 => ?_) (fun _ _ h => absurd h id)
      obtain ⟨rfl, e9⟩ := q5
      subst G6
      refine cj_st (st' := [.int (ch_b (97 ≤ (rd_ch tx L p) ∧ (rd_ch tx L p) ≤ 122))]) rfl ?_
      refine cj_if_eq (tgt := 43) dX3_beginsHead_21 (by decide) (fun h7 => ?_) (fun h7 => ?_)
      · refine cj_iconst (v := 0) dX3_beginsHead_43 (by decide) ?_
        refine cj_zret rfl rfl dX3_beginsHead_44 ?_
        have b9 : rd_ch tx L p < 2 ^ 31 := Nat.lt_trans (rd_ch_lt hx) (by decide)
        have b8 : rd_ch tx L (p + 1) < 2 ^ 31 := Nat.lt_trans (rd_ch_lt hx) (by decide)
        have e1 : nI (rd_ch tx L p) = 92 ↔ rd_ch tx L p = 92 := nI_eq (b := 92) b9 (by decide)
        have e2 : nI (rd_ch tx L p) = 64 ↔ rd_ch tx L p = 64 := nI_eq (b := 64) b9 (by decide)
        have e3 : nI (rd_ch tx L (p + 1)) = 61 ↔ rd_ch tx L (p + 1) = 61 := nI_eq (b := 61) b8 (by decide)
        simp only [e1, e2, e3, ch_b0, Classical.not_not] at h3
        simp only [e1, e2, e3, ch_b0, Classical.not_not] at h4
        simp only [e1, e2, e3, ch_b0, Classical.not_not] at h7
        refine ⟨congrArg (fun z => some (Value.int z)) ?_, rfl⟩
        simp [ch_b, rd_hd, h3, h4, h7]
      · refine cj_pc (pc' := 24) rfl ?_
        refine cj_aload_n dX3_beginsHead_24 rfl ?_
        refine cj_aload_n dX3_beginsHead_25 rfl ?_
        refine cj_get flX3_19 dX3_beginsHead_26 k_rd rfl ?_
        refine cj_iconst (v := 1) dX3_beginsHead_29 (by decide) ?_
        refine cj_pc (pc' := 30) rfl ?_
        refine cj_iadd dX3_beginsHead_30 ?_
        refine cj_st (st' := [.int (nI (p + 1)), .ref rd]) (by rw [nI_1]) ?_
        refine cj_callV (M' := mX3_characterAt) (d' := 0) (k' := 0) (n' := 0) (index := 82) (np := 1) (As := [.int (nI (p + 1))]) (rest := []) dX3_beginsHead_31 lkX3_82 mwX3_characterAt (t_characterAt k_rd k_rt hL hp hx (by omega)) (by omega) rfl rfl (Nat.le_of_ble_eq_true rfl) k_rd rfl (fun v9 G9 q8 => ?_) (fun _ _ h => absurd h id)
        obtain ⟨rfl, e9⟩ := q8
        subst G9
        refine cj_st (st' := [.int (nI (rd_ch tx L (p + 1)))]) rfl ?_
        refine cj_bipush (v := 61) dX3_beginsHead_34 (by decide) ?_
        refine cj_icmp_ne (tgt := 43) dX3_beginsHead_36 (by decide) (fun h10 => ?_) (fun h10 => ?_)
        · refine cj_pc (pc' := 43) rfl ?_
          refine cj_iconst (v := 0) dX3_beginsHead_43 (by decide) ?_
          refine cj_zret rfl rfl dX3_beginsHead_44 ?_
          have b9 : rd_ch tx L p < 2 ^ 31 := Nat.lt_trans (rd_ch_lt hx) (by decide)
          have b8 : rd_ch tx L (p + 1) < 2 ^ 31 := Nat.lt_trans (rd_ch_lt hx) (by decide)
          have e1 : nI (rd_ch tx L p) = 92 ↔ rd_ch tx L p = 92 := nI_eq (b := 92) b9 (by decide)
          have e2 : nI (rd_ch tx L p) = 64 ↔ rd_ch tx L p = 64 := nI_eq (b := 64) b9 (by decide)
          have e3 : nI (rd_ch tx L (p + 1)) = 61 ↔ rd_ch tx L (p + 1) = 61 := nI_eq (b := 61) b8 (by decide)
          simp only [e1, e2, e3, ch_b0, Classical.not_not] at h3
          simp only [e1, e2, e3, ch_b0, Classical.not_not] at h4
          simp only [e1, e2, e3, ch_b0, Classical.not_not] at h7
          simp only [e1, e2, e3, ch_b0, Classical.not_not] at h10
          refine ⟨congrArg (fun z => some (Value.int z)) ?_, rfl⟩
          simp [ch_b, rd_hd, h3, h4, h7, h10]
        · refine cj_iconst (v := 1) dX3_beginsHead_39 (by decide) ?_
          refine cj_goto (tgt := 44) dX3_beginsHead_40 (by decide) ?_
          refine cj_pc (pc' := 44) rfl ?_
          refine cj_zret rfl rfl dX3_beginsHead_44 ?_
          have b9 : rd_ch tx L p < 2 ^ 31 := Nat.lt_trans (rd_ch_lt hx) (by decide)
          have b8 : rd_ch tx L (p + 1) < 2 ^ 31 := Nat.lt_trans (rd_ch_lt hx) (by decide)
          have e1 : nI (rd_ch tx L p) = 92 ↔ rd_ch tx L p = 92 := nI_eq (b := 92) b9 (by decide)
          have e2 : nI (rd_ch tx L p) = 64 ↔ rd_ch tx L p = 64 := nI_eq (b := 64) b9 (by decide)
          have e3 : nI (rd_ch tx L (p + 1)) = 61 ↔ rd_ch tx L (p + 1) = 61 := nI_eq (b := 61) b8 (by decide)
          simp only [e1, e2, e3, ch_b0, Classical.not_not] at h3
          simp only [e1, e2, e3, ch_b0, Classical.not_not] at h4
          simp only [e1, e2, e3, ch_b0, Classical.not_not] at h7
          simp only [e1, e2, e3, ch_b0, Classical.not_not] at h10
          refine ⟨congrArg (fun z => some (Value.int z)) ?_, rfl⟩
          simp [ch_b, rd_hd, h3, h4, h7, h10]
