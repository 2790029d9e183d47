/-! the copy of a word: what it answers and what becomes of the other half (g), of the places moved to (mv) and of the number of words copied -/
abbrev gc_S : Type := (Nat → Int32) × (Nat → Int32) × Nat
def gc_pn (w : Int32) : Nat := (w >>> (2 &&& 31)).toNatClampNeg
def gc_q (f : Nat → Int32) (w : Int32) : Int32 := (1 : Int32) + f (gc_pn w) >>> ((4 : Int32) &&& 31)
def gc_ok (N : Nat) (f : Nat → Int32) (t cp : Nat) (w : Int32) : Bool := decide (¬ gc_q f w < 1) && (decide (¬ nI t < w >>> (2 &&& 31) + gc_q f w) && decide (nI cp + gc_q f w ≤ nI N))
def gc_cp (N : Nat) (f : Nat → Int32) (t : Nat) (s : gc_S) (w : Int32) : Int32 × gc_S :=
  if hp_isp (nI t) w = true then
    if s.2.1 (gc_pn w) = -1 then
      if gc_ok N f t s.2.2 w = true then (4 * nI s.2.2, (va_cpy f s.1 (gc_pn w) s.2.2 (gc_q f w).toNatClampNeg, upd s.2.1 (gc_pn w) (nI s.2.2), s.2.2 + (gc_q f w).toNatClampNeg))
      else (w, s)
    else (4 * s.2.1 (gc_pn w), s)
  else (w, s)
theorem gc_room {N : Nat} {f : Nat → Int32} {t cp : Nat} {w : Int32} (hi : hp_isp (nI t) w = true) (h : gc_ok N f t cp w = true) (ht : t ≤ N) (hc : cp ≤ N) (hN : N ≤ 200) : ¬ w >>> (2 &&& 31) < 0 ∧ ¬ gc_q f w < 0 ∧ (w >>> (2 &&& 31)).toNatClampNeg + (gc_q f w).toNatClampNeg ≤ t ∧ cp + (gc_q f w).toNatClampNeg ≤ N ∧ nI cp + gc_q f w = nI (cp + (gc_q f w).toNatClampNeg) ∧ 1 ≤ (gc_q f w).toNatClampNeg := by
  have h9 : (nI t).toInt = t := nI_toInt (by omega)
  have g1 := vp_in_iff.mp (hp_in (N := N) hi (by omega))
  simp only [gc_ok, Bool.and_eq_true, decide_eq_true_eq] at h
  obtain ⟨h1, h2, h3⟩ := h
  have q1 : (1 : Int) ≤ (gc_q f w).toInt := by
    have := Int32.not_lt.mp h1
    simpa using Int32.le_iff_toInt_le.mp this
  have q2 : (gc_q f w).toInt < 134217729 := by
    have h6 := ix_small (f (gc_pn w))
    unfold gc_q
    rw [Int32.toInt_add]
    have h7 : (f (gc_pn w) >>> ((4 : Int32) &&& 31)).toInt = (f (gc_pn w)).toInt >>> 4 := pk_shr _ _ 4 (by decide)
    have h8 : -134217728 ≤ (f (gc_pn w) >>> ((4 : Int32) &&& 31)).toInt := by
      rw [h7, Int.shiftRight_eq_div_pow]
      have := Int32.le_toInt (f (gc_pn w))
      omega
    have h10 : (1 : Int32).toInt = 1 := rfl
    rw [h10, Int.bmod_eq_of_le (by omega) (by omega)]
    omega
  have e1 : (w >>> (2 &&& 31) + gc_q f w).toInt = (w >>> ((2 : Int32) &&& 31)).toInt + (gc_q f w).toInt := by
    rw [Int32.toInt_add]; apply Int.bmod_eq_of_le <;> omega
  have e2 : (nI cp + gc_q f w).toInt = cp + (gc_q f w).toInt := by
    rw [Int32.toInt_add, nI_toInt (by omega)]; apply Int.bmod_eq_of_le <;> omega
  have h2' := Int32.not_lt.mp h2
  rw [Int32.le_iff_toInt_le, e1, h9] at h2'
  rw [Int32.le_iff_toInt_le, e2, nI_toInt (by omega)] at h3
  have c1 : ((gc_q f w).toNatClampNeg : Int) = (gc_q f w).toInt := by
    show (((gc_q f w).toInt.toNat : Nat) : Int) = _
    omega
  have c2 : ((w >>> ((2 : Int32) &&& 31)).toNatClampNeg : Int) = (w >>> ((2 : Int32) &&& 31)).toInt := by
    show (((w >>> ((2 : Int32) &&& 31)).toInt.toNat : Nat) : Int) = _
    omega
  refine ⟨?_, ?_, by omega, by omega, ?_, by omega⟩
  · rw [Int32.lt_iff_toInt_lt]; have : (0 : Int32).toInt = 0 := rfl; omega
  · rw [Int32.lt_iff_toInt_lt]; have : (0 : Int32).toInt = 0 := rfl; omega
  · apply Int32.toInt_inj.mp
    rw [e2, nI_toInt (by omega)]
    omega
/-- the heap object's state behind a copy -/
def gc_po (G : cj_G) (o a b c N t : Nat) (s : gc_S) (tn : Int32) (G' : cj_G) : Prop := G' o = some (.inr (1, [.ref a, .ref b, .ref c, .int (nI t), .int (nI s.2.2), .int tn])) ∧ G' b = some (.inl (0, N, .inl s.1)) ∧ G' c = some (.inl (0, N, .inl s.2.1)) ∧ cj_fr [o, b, c] G G' 
set_option maxHeartbeats 4000000 in
set_option maxRecDepth 100000 in
theorem t_copy {G : cj_G} {o a b c N t cp : Nat} {f g mv : Nat → Int32} {w tn9 : Int32} (k_o : G o = some (.inr (1, [.ref a, .ref b, .ref c, .int (nI t), .int (nI cp), .int tn9]))) (k_a : G a = some (.inl (0, N, .inl f))) (k_b : G b = some (.inl (0, N, .inl g))) (k_c : G c = some (.inl (0, N, .inl mv))) (n_a_b : a ≠ b) (n_a_c : a ≠ c) (n_b_c : b ≠ c) (hN : N ≤ 200) (ht : t ≤ N) (hcp : cp ≤ N) : cj_T mX1_copy 1 0 0 [.ref o, .int w] G (fun v G' => v = some (.int (gc_cp N f t (g, mv, cp) w).1) ∧ gc_po G o a b c N t (gc_cp N f t (g, mv, cp) w).2 tn9 G') cj_no := by
  have hpl : (w >>> (2 &&& 31)).toNatClampNeg = gc_pn w := rfl
  refine cj_T_of (by decide) (Nat.le_of_ble_eq_true rfl) ?_
  refine cj_lvs (lv' := [(0, .ref o), (1, .int w)]) rfl ?_
  by_cases hi : hp_isp (nI t) w = true
  · by_cases hm : mv (gc_pn w) = -1
    · by_cases hk : gc_ok N f t cp w = true
      · obtain ⟨r1, r2, r3, r4, r5, r6⟩ := gc_room hi hk ht hcp hN
        have hk2 := hk
        simp only [gc_ok, Bool.and_eq_true, decide_eq_true_eq] at hk2
        have eC : gc_cp N f t (g, mv, cp) w = (4 * nI cp, (va_cpy f g (gc_pn w) cp (gc_q f w).toNatClampNeg, upd mv (gc_pn w) (nI cp), cp + (gc_q f w).toNatClampNeg)) := by simp [gc_cp, hi, hm, hk]
        rw [eC]
        refine cj_aload_n dX1_copy_0 rfl ?_
        refine cj_iload_n dX1_copy_1 rfl ?_
        refine cj_callV (As := [.int w]) (rest := []) dX1_copy_2 lkX1_39 mwX1_isPointer (t_isPointer k_o) (by omega) rfl rfl (Nat.le_of_ble_eq_true rfl) k_o rfl (fun v9 G2 q1 => ?_) (fun _ _ h => absurd h id)
        obtain ⟨rfl, e9⟩ := q1
        subst G2
        refine cj_st (st' := [.int (ch_b (hp_isp (nI t) w = true))]) rfl ?_
        refine cj_if_ne (tgt := 10) dX1_copy_5 (by decide) (fun h3 => ?_) (fun h3 => absurd h3 (by simp [ch_b0, hi]))
        refine cj_iload_n dX1_copy_10 rfl ?_
        refine cj_iconst (v := 2) dX1_copy_11 (by decide) ?_
        refine cj_ishr dX1_copy_12 ?_
        refine cj_istore_n (lv' := [(2, .int (w >>> (2 &&& 31))), (0, .ref o), (1, .int w)]) dX1_copy_13 (by decide) rfl ?_
        refine cj_aload_n dX1_copy_14 rfl ?_
        refine cj_get flX1_28 dX1_copy_15 k_o rfl ?_
        refine cj_iload_n dX1_copy_18 rfl ?_
        have i4 : vp_in (w >>> (2 &&& 31)) N := by
          exact hp_in hi (by rw [nI_toInt (by omega)]; omega)
        refine cj_iald dX1_copy_19 k_c i4 ?_
        refine cj_st (st' := [.int (mv (gc_pn w))]) rfl ?_
        refine cj_iconst (v := (-1)) dX1_copy_20 (by decide) ?_
        refine cj_icmp_ne (tgt := 103) dX1_copy_21 (by decide) (fun h5 => absurd h5 (Classical.not_not.mpr hm)) (fun h5 => ?_)
        refine cj_iconst (v := 1) dX1_copy_24 (by decide) ?_
        refine cj_aload_n dX1_copy_25 rfl ?_
        refine cj_get flX1_21 dX1_copy_26 k_o rfl ?_
        refine cj_iload_n dX1_copy_29 rfl ?_
        have i6 : vp_in (w >>> (2 &&& 31)) N := by
          exact hp_in hi (by rw [nI_toInt (by omega)]; omega)
        refine cj_iald dX1_copy_30 k_a i6 ?_
        refine cj_iconst (v := 4) dX1_copy_31 (by decide) ?_
        refine cj_ishr dX1_copy_32 ?_
        refine cj_iadd dX1_copy_33 ?_
        refine cj_st (st' := [.int (gc_q f w)]) rfl ?_
        refine cj_istore_n (lv' := [(3, .int (gc_q f w)), (2, .int (w >>> (2 &&& 31))), (0, .ref o), (1, .int w)]) dX1_copy_34 (by decide) rfl ?_
        refine cj_iload_n dX1_copy_35 rfl ?_
        refine cj_iconst (v := 1) dX1_copy_36 (by decide) ?_
        refine cj_icmp_lt (tgt := 64) dX1_copy_37 (by decide) (fun h7 => absurd h7 (hk2.1)) (fun h7 => ?_)
        refine cj_iload_n dX1_copy_40 rfl ?_
        refine cj_iload_n dX1_copy_41 rfl ?_
        refine cj_iadd dX1_copy_42 ?_
        refine cj_aload_n dX1_copy_43 rfl ?_
        refine cj_get flX1_9 dX1_copy_44 k_o rfl ?_
        refine cj_icmp_gt (tgt := 64) dX1_copy_47 (by decide) (fun h8 => absurd h8 (hk2.2.1)) (fun h8 => ?_)
        refine cj_aload_n dX1_copy_50 rfl ?_
        refine cj_get flX1_15 dX1_copy_51 k_o rfl ?_
        refine cj_iload_n dX1_copy_54 rfl ?_
        refine cj_iadd dX1_copy_55 ?_
        refine cj_aload_n dX1_copy_56 rfl ?_
        refine cj_get flX1_25 dX1_copy_57 k_o rfl ?_
        refine cj_alen (v := nI N) dX1_copy_60 k_b rfl rfl ?_
        refine cj_icmp_le (tgt := 66) dX1_copy_61 (by decide) (fun h9 => ?_) (fun h9 => absurd h9 (Classical.not_not.mpr hk2.2.2))
        refine cj_aload_n dX1_copy_66 rfl ?_
        refine cj_get flX1_21 dX1_copy_67 k_o rfl ?_
        refine cj_iload_n dX1_copy_70 rfl ?_
        refine cj_aload_n dX1_copy_71 rfl ?_
        refine cj_get flX1_25 dX1_copy_72 k_o rfl ?_
        refine cj_aload_n dX1_copy_75 rfl ?_
        refine cj_get flX1_15 dX1_copy_76 k_o rfl ?_
        refine cj_iload_n dX1_copy_79 rfl ?_
        refine cj_copyi dX1_copy_80 lkX1_80 (by omega) (Nat.le_of_ble_eq_true rfl) k_a k_b r1 (nI_pos (by omega)) r2 (by omega) (by rw [nI_clamp (by omega)]; omega) ?_
        refine cj_eqG (G' := cj_up G b (.inl (0, N, .inl (va_cpy f g (gc_pn w) cp (gc_q f w).toNatClampNeg)))) (by rw [nI_clamp (by omega)]; rfl) ?_
        refine cj_nm (fun G10 e11 => ?_)
        have k12 : G10 o = some (.inr (1, [.ref a, .ref b, .ref c, .int (nI t), .int (nI cp), .int tn9])) := by rw [e11, cj_up_n (cj_ne k_o k_b (by intro h; cases h))]; exact k_o
        have k13 : G10 a = some (.inl (0, N, .inl f)) := by rw [e11, cj_up_n n_a_b]; exact k_a
        have k14 : G10 b = some (.inl (0, N, .inl (va_cpy f g (gc_pn w) cp (gc_q f w).toNatClampNeg))) := by rw [e11]; exact cj_up_s
        have k15 : G10 c = some (.inl (0, N, .inl mv)) := by rw [e11, cj_up_n (Ne.symm n_b_c)]; exact k_c
        have r16 : cj_fr [o, b, c] G G10 := by rw [e11]; exact cj_fr.up (cj_fr.rf (S := [o, b, c]) (G := G)) (by simp)
        refine cj_aload_n dX1_copy_83 rfl ?_
        refine cj_get flX1_28 dX1_copy_84 k12 rfl ?_
        refine cj_iload_n dX1_copy_87 rfl ?_
        refine cj_aload_n dX1_copy_88 rfl ?_
        refine cj_get flX1_15 dX1_copy_89 k12 rfl ?_
        have i17 : vp_in (w >>> (2 &&& 31)) N := by
          exact hp_in hi (by rw [nI_toInt (by omega)]; omega)
        refine cj_iast dX1_copy_92 k15 i17 ?_
        refine cj_eqG (G' := cj_up G10 c (.inl (0, N, .inl (upd mv (gc_pn w) (nI cp))))) rfl ?_
        refine cj_nm (fun G18 e19 => ?_)
        have k20 : G18 o = some (.inr (1, [.ref a, .ref b, .ref c, .int (nI t), .int (nI cp), .int tn9])) := by rw [e19, cj_up_n (cj_ne k12 k15 (by intro h; cases h))]; exact k12
        have k21 : G18 a = some (.inl (0, N, .inl f)) := by rw [e19, cj_up_n n_a_c]; exact k13
        have k22 : G18 b = some (.inl (0, N, .inl (va_cpy f g (gc_pn w) cp (gc_q f w).toNatClampNeg))) := by rw [e19, cj_up_n n_b_c]; exact k14
        have k23 : G18 c = some (.inl (0, N, .inl (upd mv (gc_pn w) (nI cp)))) := by rw [e19]; exact cj_up_s
        have r24 : cj_fr [o, b, c] G G18 := by rw [e19]; exact cj_fr.up r16 (by simp)
        refine cj_aload_n dX1_copy_93 rfl ?_
        refine cj_dup dX1_copy_94 rfl ?_
        refine cj_get flX1_15 dX1_copy_95 k20 rfl ?_
        refine cj_iload_n dX1_copy_98 rfl ?_
        refine cj_iadd dX1_copy_99 ?_
        refine cj_st (st' := [.int (nI (cp + (gc_q f w).toNatClampNeg)), .ref o]) (by rw [r5]) ?_
        refine cj_put flX1_15 dX1_copy_100 k20 rfl rfl (Nat.le_of_ble_eq_true rfl) ?_
        refine cj_nm (fun G25 e26 => ?_)
        have k27 : G25 o = some (.inr (1, [.ref a, .ref b, .ref c, .int (nI t), .int (nI (cp + (gc_q f w).toNatClampNeg)), .int tn9])) := by rw [e26]; exact cj_up_s
        have k28 : G25 a = some (.inl (0, N, .inl f)) := by rw [e26, cj_up_n (cj_ne k21 k20 (by intro h; cases h))]; exact k21
        have k29 : G25 b = some (.inl (0, N, .inl (va_cpy f g (gc_pn w) cp (gc_q f w).toNatClampNeg))) := by rw [e26, cj_up_n (cj_ne k22 k20 (by intro h; cases h))]; exact k22
        have k30 : G25 c = some (.inl (0, N, .inl (upd mv (gc_pn w) (nI cp)))) := by rw [e26, cj_up_n (cj_ne k23 k20 (by intro h; cases h))]; exact k23
        have r31 : cj_fr [o, b, c] G G25 := by rw [e26]; exact cj_fr.up r24 (by simp)
        refine cj_iconst (v := 4) dX1_copy_103 (by decide) ?_
        refine cj_aload_n dX1_copy_104 rfl ?_
        refine cj_get flX1_28 dX1_copy_105 k27 rfl ?_
        refine cj_iload_n dX1_copy_108 rfl ?_
        have i32 : vp_in (w >>> (2 &&& 31)) N := by
          exact hp_in hi (by rw [nI_toInt (by omega)]; omega)
        refine cj_iald dX1_copy_109 k30 i32 ?_
        refine cj_st (st' := [.int (nI cp), .int 4]) (by rw [hpl, pk_us]) ?_
        refine cj_imul dX1_copy_110 ?_
        refine cj_iret rfl dX1_copy_111 ?_
        exact ⟨rfl, k27, k29, k30, r31⟩
      · have eC : gc_cp N f t (g, mv, cp) w = (w, (g, mv, cp)) := by simp [gc_cp, hi, hm, hk]
        rw [eC]
        have hk2 : ¬ gc_q f w < 1 → ¬ nI t < w >>> (2 &&& 31) + gc_q f w → ¬ nI cp + gc_q f w ≤ nI N := fun h1 h2 h3 => hk (by simp only [gc_ok, Bool.and_eq_true, decide_eq_true_eq]; exact ⟨h1, h2, h3⟩)
        refine cj_aload_n dX1_copy_0 rfl ?_
        refine cj_iload_n dX1_copy_1 rfl ?_
        refine cj_callV (As := [.int w]) (rest := []) dX1_copy_2 lkX1_39 mwX1_isPointer (t_isPointer k_o) (by omega) rfl rfl (Nat.le_of_ble_eq_true rfl) k_o rfl (fun v9 G2 q1 => ?_) (fun _ _ h => absurd h id)
        obtain ⟨rfl, e9⟩ := q1
        subst G2
        refine cj_st (st' := [.int (ch_b (hp_isp (nI t) w = true))]) rfl ?_
        refine cj_if_ne (tgt := 10) dX1_copy_5 (by decide) (fun h3 => ?_) (fun h3 => absurd h3 (by simp [ch_b0, hi]))
        refine cj_iload_n dX1_copy_10 rfl ?_
        refine cj_iconst (v := 2) dX1_copy_11 (by decide) ?_
        refine cj_ishr dX1_copy_12 ?_
        refine cj_istore_n (lv' := [(2, .int (w >>> (2 &&& 31))), (0, .ref o), (1, .int w)]) dX1_copy_13 (by decide) rfl ?_
        refine cj_aload_n dX1_copy_14 rfl ?_
        refine cj_get flX1_28 dX1_copy_15 k_o rfl ?_
        refine cj_iload_n dX1_copy_18 rfl ?_
        have i4 : vp_in (w >>> (2 &&& 31)) N := by
          exact hp_in hi (by rw [nI_toInt (by omega)]; omega)
        refine cj_iald dX1_copy_19 k_c i4 ?_
        refine cj_st (st' := [.int (mv (gc_pn w))]) rfl ?_
        refine cj_iconst (v := (-1)) dX1_copy_20 (by decide) ?_
        refine cj_icmp_ne (tgt := 103) dX1_copy_21 (by decide) (fun h5 => absurd h5 (Classical.not_not.mpr hm)) (fun h5 => ?_)
        refine cj_iconst (v := 1) dX1_copy_24 (by decide) ?_
        refine cj_aload_n dX1_copy_25 rfl ?_
        refine cj_get flX1_21 dX1_copy_26 k_o rfl ?_
        refine cj_iload_n dX1_copy_29 rfl ?_
        have i6 : vp_in (w >>> (2 &&& 31)) N := by
          exact hp_in hi (by rw [nI_toInt (by omega)]; omega)
        refine cj_iald dX1_copy_30 k_a i6 ?_
        refine cj_iconst (v := 4) dX1_copy_31 (by decide) ?_
        refine cj_ishr dX1_copy_32 ?_
        refine cj_iadd dX1_copy_33 ?_
        refine cj_st (st' := [.int (gc_q f w)]) rfl ?_
        refine cj_istore_n (lv' := [(3, .int (gc_q f w)), (2, .int (w >>> (2 &&& 31))), (0, .ref o), (1, .int w)]) dX1_copy_34 (by decide) rfl ?_
        refine cj_iload_n dX1_copy_35 rfl ?_
        refine cj_iconst (v := 1) dX1_copy_36 (by decide) ?_
        refine cj_icmp_lt (tgt := 64) dX1_copy_37 (by decide) (fun h7 => ?_) (fun h7 => ?_)
        · refine cj_iload_n dX1_copy_64 rfl ?_
          refine cj_iret rfl dX1_copy_65 ?_
          exact ⟨rfl, k_o, k_b, k_c, (cj_fr.rf (S := [o, b, c]) (G := G))⟩
        · refine cj_iload_n dX1_copy_40 rfl ?_
          refine cj_iload_n dX1_copy_41 rfl ?_
          refine cj_iadd dX1_copy_42 ?_
          refine cj_aload_n dX1_copy_43 rfl ?_
          refine cj_get flX1_9 dX1_copy_44 k_o rfl ?_
          refine cj_icmp_gt (tgt := 64) dX1_copy_47 (by decide) (fun h8 => ?_) (fun h8 => ?_)
          · refine cj_iload_n dX1_copy_64 rfl ?_
            refine cj_iret rfl dX1_copy_65 ?_
            exact ⟨rfl, k_o, k_b, k_c, (cj_fr.rf (S := [o, b, c]) (G := G))⟩
          · refine cj_aload_n dX1_copy_50 rfl ?_
            refine cj_get flX1_15 dX1_copy_51 k_o rfl ?_
            refine cj_iload_n dX1_copy_54 rfl ?_
            refine cj_iadd dX1_copy_55 ?_
            refine cj_aload_n dX1_copy_56 rfl ?_
            refine cj_get flX1_25 dX1_copy_57 k_o rfl ?_
            refine cj_alen (v := nI N) dX1_copy_60 k_b rfl rfl ?_
            refine cj_icmp_le (tgt := 66) dX1_copy_61 (by decide) (fun h9 => absurd h9 (hk2 (by assumption) (by assumption))) (fun h9 => ?_)
            refine cj_iload_n dX1_copy_64 rfl ?_
            refine cj_iret rfl dX1_copy_65 ?_
            exact ⟨rfl, k_o, k_b, k_c, (cj_fr.rf (S := [o, b, c]) (G := G))⟩
    · have eC : gc_cp N f t (g, mv, cp) w = (4 * mv (gc_pn w), (g, mv, cp)) := by simp [gc_cp, hi, hm]
      rw [eC]
      refine cj_aload_n dX1_copy_0 rfl ?_
      refine cj_iload_n dX1_copy_1 rfl ?_
      refine cj_callV (As := [.int w]) (rest := []) dX1_copy_2 lkX1_39 mwX1_isPointer (t_isPointer k_o) (by omega) rfl rfl (Nat.le_of_ble_eq_true rfl) k_o rfl (fun v9 G2 q1 => ?_) (fun _ _ h => absurd h id)
      obtain ⟨rfl, e9⟩ := q1
      subst G2
      refine cj_st (st' := [.int (ch_b (hp_isp (nI t) w = true))]) rfl ?_
      refine cj_if_ne (tgt := 10) dX1_copy_5 (by decide) (fun h3 => ?_) (fun h3 => absurd h3 (by simp [ch_b0, hi]))
      refine cj_iload_n dX1_copy_10 rfl ?_
      refine cj_iconst (v := 2) dX1_copy_11 (by decide) ?_
      refine cj_ishr dX1_copy_12 ?_
      refine cj_istore_n (lv' := [(2, .int (w >>> (2 &&& 31))), (0, .ref o), (1, .int w)]) dX1_copy_13 (by decide) rfl ?_
      refine cj_aload_n dX1_copy_14 rfl ?_
      refine cj_get flX1_28 dX1_copy_15 k_o rfl ?_
      refine cj_iload_n dX1_copy_18 rfl ?_
      have i4 : vp_in (w >>> (2 &&& 31)) N := by
        exact hp_in hi (by rw [nI_toInt (by omega)]; omega)
      refine cj_iald dX1_copy_19 k_c i4 ?_
      refine cj_st (st' := [.int (mv (gc_pn w))]) rfl ?_
      refine cj_iconst (v := (-1)) dX1_copy_20 (by decide) ?_
      refine cj_icmp_ne (tgt := 103) dX1_copy_21 (by decide) (fun h5 => ?_) (fun h5 => absurd h5 (fun h9 => absurd h9 hm))
      refine cj_iconst (v := 4) dX1_copy_103 (by decide) ?_
      refine cj_aload_n dX1_copy_104 rfl ?_
      refine cj_get flX1_28 dX1_copy_105 k_o rfl ?_
      refine cj_iload_n dX1_copy_108 rfl ?_
      have i6 : vp_in (w >>> (2 &&& 31)) N := by
        exact hp_in hi (by rw [nI_toInt (by omega)]; omega)
      refine cj_iald dX1_copy_109 k_c i6 ?_
      refine cj_st (st' := [.int (mv (gc_pn w)), .int 4]) rfl ?_
      refine cj_imul dX1_copy_110 ?_
      refine cj_iret rfl dX1_copy_111 ?_
      exact ⟨rfl, k_o, k_b, k_c, (cj_fr.rf (S := [o, b, c]) (G := G))⟩
  · have eC : gc_cp N f t (g, mv, cp) w = (w, (g, mv, cp)) := by simp [gc_cp, hi]
    rw [eC]
    refine cj_aload_n dX1_copy_0 rfl ?_
    refine cj_iload_n dX1_copy_1 rfl ?_
    refine cj_callV (As := [.int w]) (rest := []) dX1_copy_2 lkX1_39 mwX1_isPointer (t_isPointer k_o) (by omega) rfl rfl (Nat.le_of_ble_eq_true rfl) k_o rfl (fun v9 G2 q1 => ?_) (fun _ _ h => absurd h id)
    obtain ⟨rfl, e9⟩ := q1
    subst G2
    refine cj_st (st' := [.int (ch_b (hp_isp (nI t) w = true))]) rfl ?_
    refine cj_if_ne (tgt := 10) dX1_copy_5 (by decide) (fun h3 => absurd h3 (by simp [ch_b0, hi])) (fun h3 => ?_)
    refine cj_iload_n dX1_copy_8 rfl ?_
    refine cj_iret rfl dX1_copy_9 ?_
    exact ⟨rfl, k_o, k_b, k_c, (cj_fr.rf (S := [o, b, c]) (G := G))⟩
