/-! the copy of the rest: the words of a block (gc_in), the blocks behind each other (gc_out) -/
def gc_in (N : Nat) (f : Nat → Int32) (t bh : Nat) : Nat → Nat → gc_S → gc_S
  | 0, _, s => s
  | r + 1, i, s => if i < bh then gc_in N f t bh r (i + 1) (upd (gc_cp N f t s (s.1 i)).2.1 i (gc_cp N f t s (s.1 i)).1, (gc_cp N f t s (s.1 i)).2.2.1, (gc_cp N f t s (s.1 i)).2.2.2) else s
def gc_bh (g : Nat → Int32) (h : Nat) : Nat := h + 1 + (g h >>> ((4 : Int32) &&& 31)).toNatClampNeg
def gc_out (N : Nat) (f : Nat → Int32) (t : Nat) : Nat → Nat → gc_S → gc_S
  | 0, _, s => s
  | r + 1, h, s => if h < s.2.2 ∧ h < N then gc_out N f t r (gc_bh s.1 h) (gc_in N f t (gc_bh s.1 h) (N - (h + 1)) (h + 1) s) else s
theorem gc_cp_le {N : Nat} {f : Nat → Int32} {t : Nat} {s : gc_S} {w : Int32} (ht : t ≤ N) (hN : N ≤ 200) (hs : s.2.2 ≤ N) : (gc_cp N f t s w).2.2.2 ≤ N := by
  unfold gc_cp
  by_cases hi : hp_isp (nI t) w = true
  · by_cases hm : s.2.1 (gc_pn w) = -1
    · by_cases hk : gc_ok N f t s.2.2 w = true
      · simp only [hi, hm, hk, if_true]
        exact (gc_room hi hk ht hs hN).2.2.2.1
      · simp [hi, hm, hk]; exact hs
    · simp [hi, hm]; exact hs
  · simp [hi]; exact hs
theorem gc_in_le {N : Nat} {f : Nat → Int32} {t bh : Nat} (ht : t ≤ N) (hN : N ≤ 200) : ∀ (r i : Nat) (s : gc_S), s.2.2 ≤ N → (gc_in N f t bh r i s).2.2 ≤ N := by
  intro r
  induction r with
  | zero => intro i s h; exact h
  | succ r ih =>
    intro i s h
    unfold gc_in
    by_cases hb : i < bh
    · rw [if_pos hb]; exact ih _ _ (gc_cp_le ht hN h)
    · rw [if_neg hb]; exact h
theorem gc_max (q : Int32) : (if (0 : Int32) < q then q else 0) = nI q.toNatClampNeg := by
  by_cases h : (0 : Int32) < q
  · rw [if_pos h]
    have h0 : ¬ q < 0 := Int32.not_lt.mpr (Int32.le_of_lt h)
    obtain ⟨j, hj, rfl⟩ := nI_of h0
    rw [nI_clamp hj]
  · rw [if_neg h]
    have h1 := Int32.not_lt.mp h
    rw [Int32.le_iff_toInt_le] at h1
    have h2 : (0 : Int32).toInt = 0 := rfl
    have h3 : q.toNatClampNeg = 0 := by show q.toInt.toNat = 0; omega
    rw [h3]; rfl
theorem gc_bh_lt (g : Nat → Int32) {h N : Nat} (hh : h < N) (hN : N ≤ 200) : gc_bh g h < 2 ^ 31 := by
  have h1 := ix_small (g h)
  unfold gc_bh
  have h2 : (g h >>> ((4 : Int32) &&& 31)).toNatClampNeg = (g h >>> ((4 : Int32) &&& 31)).toInt.toNat := rfl
  omega
set_option maxHeartbeats 4000000 in
set_option maxRecDepth 100000 in
theorem l_in {d k0 n0 k n : Nat} {Qr : Option Value → cj_G → Prop} {Qx : String → cj_G → Prop} (hd : 2 ≤ d) {o a b c N t : Nat} {f : Nat → Int32} {tn9 : Int32} {G0 : cj_G} (h_a : G0 a = some (.inl (0, N, .inl f))) (n_a_o : a ≠ o) (n_a_b : a ≠ b) (n_a_c : a ≠ c) (n_b_c : b ≠ c) (hN : N ≤ 200) (ht : t ≤ N) {bh : Nat} (hbh : bh < 2 ^ 31) : ∀ (r i : Nat) (g mv : Nat → Int32) (cp : Nat) (G : cj_G), i + r = N → cp ≤ N → gc_po G0 o a b c N t (g, mv, cp) tn9 G → (∀ G' : cj_G, gc_po G0 o a b c N t (gc_in N f t bh r i (g, mv, cp)) tn9 G' → cj_J mX1_copyTheRest d k0 n0 Qr Qx k n 76 [(2, .int (nI bh)), (0, .ref o)] [] G') → cj_J mX1_copyTheRest d k0 n0 Qr Qx k n 40 [(3, .int (nI i)), (2, .int (nI bh)), (0, .ref o)] [] G := by
  intro r
  induction r with
  | zero =>
    intro i g mv cp G hi hcp hpo kk
    obtain ⟨k_o, k_b, k_c, r0⟩ := hpo
    have k_o : G o = some (.inr (1, [.ref a, .ref b, .ref c, .int (nI t), .int (nI cp), .int tn9])) := k_o
    have k_b : G b = some (.inl (0, N, .inl g)) := k_b
    have k_c : G c = some (.inl (0, N, .inl mv)) := k_c
    have k_a : G a = some (.inl (0, N, .inl f)) := r0 _ _ (cj_ni3 n_a_o n_a_b n_a_c) h_a
    refine cj_iload_n dX1_copyTheRest_40 rfl ?_
    refine cj_iload_n dX1_copyTheRest_41 rfl ?_
    refine cj_icmp_ge (tgt := 76) dX1_copyTheRest_42 (by decide) (fun h1 => ?_) (fun h1 => ?_)
    · refine cj_sub (lv' := [(2, .int (nI bh)), (0, .ref o)]) (by simp) (kk _ ?_)
      have e9 : gc_in N f t bh 0 i (g, mv, cp) = (g, mv, cp) := by
        rfl
      rw [e9]
      exact ⟨k_o, k_b, k_c, r0⟩
    · refine cj_iload_n dX1_copyTheRest_45 rfl ?_
      refine cj_aload_n dX1_copyTheRest_46 rfl ?_
      refine cj_get flX1_25 dX1_copyTheRest_47 k_o rfl ?_
      refine cj_alen (v := nI N) dX1_copyTheRest_50 k_b rfl rfl ?_
      refine cj_icmp_ge (tgt := 76) dX1_copyTheRest_51 (by decide) (fun h2 => ?_) (fun h2 => absurd h2 (Classical.not_not.mpr (nI_le (by omega) (by omega))))
      refine cj_sub (lv' := [(2, .int (nI bh)), (0, .ref o)]) (by simp) (kk _ ?_)
      have e9 : gc_in N f t bh 0 i (g, mv, cp) = (g, mv, cp) := by
        rfl
      rw [e9]
      exact ⟨k_o, k_b, k_c, r0⟩
  | succ r ih =>
    intro i g mv cp G hi hcp hpo kk
    obtain ⟨k_o, k_b, k_c, r0⟩ := hpo
    have k_o : G o = some (.inr (1, [.ref a, .ref b, .ref c, .int (nI t), .int (nI cp), .int tn9])) := k_o
    have k_b : G b = some (.inl (0, N, .inl g)) := k_b
    have k_c : G c = some (.inl (0, N, .inl mv)) := k_c
    have k_a : G a = some (.inl (0, N, .inl f)) := r0 _ _ (cj_ni3 n_a_o n_a_b n_a_c) h_a
    by_cases hb : i < bh
    · refine cj_iload_n dX1_copyTheRest_40 rfl ?_
      refine cj_iload_n dX1_copyTheRest_41 rfl ?_
      refine cj_icmp_ge (tgt := 76) dX1_copyTheRest_42 (by decide) (fun h1 => absurd h1 (nI_ge (by omega) (by omega))) (fun h1 => ?_)
      refine cj_iload_n dX1_copyTheRest_45 rfl ?_
      refine cj_aload_n dX1_copyTheRest_46 rfl ?_
      refine cj_get flX1_25 dX1_copyTheRest_47 k_o rfl ?_
      refine cj_alen (v := nI N) dX1_copyTheRest_50 k_b rfl rfl ?_
      refine cj_icmp_ge (tgt := 76) dX1_copyTheRest_51 (by decide) (fun h2 => absurd h2 (nI_ge (by omega) (by omega))) (fun h2 => ?_)
      refine cj_aload_n dX1_copyTheRest_54 rfl ?_
      refine cj_get flX1_25 dX1_copyTheRest_55 k_o rfl ?_
      refine cj_iload_n dX1_copyTheRest_58 rfl ?_
      refine cj_aload_n dX1_copyTheRest_59 rfl ?_
      refine cj_aload_n dX1_copyTheRest_60 rfl ?_
      refine cj_get flX1_25 dX1_copyTheRest_61 k_o rfl ?_
      refine cj_iload_n dX1_copyTheRest_64 rfl ?_
      have i3 : vp_in (nI i) N := by
        exact vp_in_nI (by omega) (by omega)
      refine cj_iald dX1_copyTheRest_65 k_b i3 ?_
      refine cj_st (st' := [.int (g i), .ref o, .int (nI i), .ref b]) (by rw [nI_clamp (by omega)]) ?_
      refine cj_callV (As := [.int (g i)]) (rest := [.int (nI i), .ref b]) dX1_copyTheRest_66 lkX1_91 mwX1_copy (t_copy k_o k_a k_b k_c n_a_b n_a_c n_b_c hN ht hcp) (by omega) rfl rfl (Nat.le_of_ble_eq_true rfl) k_o rfl (fun v9 G5 q4 => ?_) (fun _ _ h => absurd h id)
      obtain ⟨rfl, k6, k7, k8, r9⟩ := q4
      have k10 : G5 a = some (.inl (0, N, .inl f)) := r9 _ _ (cj_ni3 n_a_o n_a_b n_a_c) k_a
      have r11 : cj_fr [o, b, c] G0 G5 := cj_fr.trans r0 (cj_fr.mono r9 (by simp))
      refine cj_st (st' := [.int ((gc_cp N f t (g, mv, cp) (g i)).1), .int (nI i), .ref b]) rfl ?_
      have i12 : vp_in (nI i) N := by
        exact vp_in_nI (by omega) (by omega)
      refine cj_iast dX1_copyTheRest_69 k7 i12 ?_
      refine cj_eqG (G' := cj_up G5 b (.inl (0, N, .inl (upd ((gc_cp N f t (g, mv, cp) (g i)).2.1) i ((gc_cp N f t (g, mv, cp) (g i)).1))))) (by rw [nI_clamp (by omega)]) ?_
      refine cj_nm (fun G13 e14 => ?_)
      have k15 : G13 o = some (.inr (1, [.ref a, .ref b, .ref c, .int (nI t), .int (nI (gc_cp N f t (g, mv, cp) (g i)).2.2.2), .int tn9])) := by rw [e14, cj_up_n (cj_ne k6 k7 (by intro h; cases h))]; exact k6
      have k16 : G13 a = some (.inl (0, N, .inl f)) := by rw [e14, cj_up_n n_a_b]; exact k10
      have k17 : G13 b = some (.inl (0, N, .inl (upd ((gc_cp N f t (g, mv, cp) (g i)).2.1) i ((gc_cp N f t (g, mv, cp) (g i)).1)))) := by rw [e14]; exact cj_up_s
      have k18 : G13 c = some (.inl (0, N, .inl ((gc_cp N f t (g, mv, cp) (g i)).2.2.1))) := by rw [e14, cj_up_n (Ne.symm n_b_c)]; exact k8
      have r19 : cj_fr [o, b, c] G0 G13 := by rw [e14]; exact cj_fr.up r11 (by simp)
      refine cj_iinc (v := nI (i + 1)) (lv' := [(3, .int (nI (i + 1))), (2, .int (nI bh)), (0, .ref o)]) dX1_copyTheRest_70 rfl (nI_1 _) (by decide) rfl ?_
      refine cj_goto (tgt := 40) dX1_copyTheRest_73 (by decide) ?_
      refine cj_sub (lv' := [(3, .int (nI (i + 1))), (2, .int (nI bh)), (0, .ref o)]) (by simp) ?_
      refine ih (i + 1) (upd (gc_cp N f t (g, mv, cp) (g i)).2.1 i (gc_cp N f t (g, mv, cp) (g i)).1) (gc_cp N f t (g, mv, cp) (g i)).2.2.1 (gc_cp N f t (g, mv, cp) (g i)).2.2.2 _ (by omega) (gc_cp_le (s := (g, mv, cp)) ht hN hcp) ⟨k15, k17, k18, r19⟩ (fun G9 h9 => kk G9 ?_)
      unfold gc_in
      rw [if_pos hb]
      exact h9
    · refine cj_iload_n dX1_copyTheRest_40 rfl ?_
      refine cj_iload_n dX1_copyTheRest_41 rfl ?_
      refine cj_icmp_ge (tgt := 76) dX1_copyTheRest_42 (by decide) (fun h1 => ?_) (fun h1 => absurd h1 (Classical.not_not.mpr (nI_le (by omega) (by omega))))
      refine cj_sub (lv' := [(2, .int (nI bh)), (0, .ref o)]) (by simp) (kk _ ?_)
      have e9 : gc_in N f t bh (r + 1) i (g, mv, cp) = (g, mv, cp) := by
        unfold gc_in
        exact if_neg hb
      rw [e9]
      exact ⟨k_o, k_b, k_c, r0⟩
set_option maxHeartbeats 4000000 in
set_option maxRecDepth 100000 in
theorem l_out {d k0 n0 k n : Nat} {Qr : Option Value → cj_G → Prop} {Qx : String → cj_G → Prop} (hd : 2 ≤ d) {o a b c N t : Nat} {f : Nat → Int32} {tn9 : Int32} {G0 : cj_G} (h_a : G0 a = some (.inl (0, N, .inl f))) (n_a_o : a ≠ o) (n_a_b : a ≠ b) (n_a_c : a ≠ c) (n_b_c : b ≠ c) (hN : N ≤ 200) (ht : t ≤ N) : ∀ (r h : Nat) (g mv : Nat → Int32) (cp : Nat) (G : cj_G), N ≤ h + r → h < 2 ^ 31 → cp ≤ N → gc_po G0 o a b c N t (g, mv, cp) tn9 G → (∀ G' : cj_G, gc_po G0 o a b c N t (gc_out N f t r h (g, mv, cp)) tn9 G' → cj_J mX1_copyTheRest d k0 n0 Qr Qx k n 81 [] [] G') → cj_J mX1_copyTheRest d k0 n0 Qr Qx k n 2 [(1, .int (nI h)), (0, .ref o)] [] G := by
  intro r
  induction r with
  | zero =>
    intro h g mv cp G hr hh hcp hpo kk
    obtain ⟨k_o, k_b, k_c, r0⟩ := hpo
    have k_o : G o = some (.inr (1, [.ref a, .ref b, .ref c, .int (nI t), .int (nI cp), .int tn9])) := k_o
    have k_b : G b = some (.inl (0, N, .inl g)) := k_b
    have k_c : G c = some (.inl (0, N, .inl mv)) := k_c
    have k_a : G a = some (.inl (0, N, .inl f)) := r0 _ _ (cj_ni3 n_a_o n_a_b n_a_c) h_a
    refine cj_iload_n dX1_copyTheRest_2 rfl ?_
    refine cj_aload_n dX1_copyTheRest_3 rfl ?_
    refine cj_get flX1_15 dX1_copyTheRest_4 k_o rfl ?_
    refine cj_icmp_ge (tgt := 81) dX1_copyTheRest_7 (by decide) (fun h1 => ?_) (fun h1 => absurd h1 (Classical.not_not.mpr (nI_le (by omega) (by omega))))
    refine cj_sub (lv' := []) (by simp) (kk _ ?_)
    have e9 : gc_out N f t 0 h (g, mv, cp) = (g, mv, cp) := by
      rfl
    rw [e9]
    exact ⟨k_o, k_b, k_c, r0⟩
  | succ r ih =>
    intro h g mv cp G hr hh hcp hpo kk
    obtain ⟨k_o, k_b, k_c, r0⟩ := hpo
    have k_o : G o = some (.inr (1, [.ref a, .ref b, .ref c, .int (nI t), .int (nI cp), .int tn9])) := k_o
    have k_b : G b = some (.inl (0, N, .inl g)) := k_b
    have k_c : G c = some (.inl (0, N, .inl mv)) := k_c
    have k_a : G a = some (.inl (0, N, .inl f)) := r0 _ _ (cj_ni3 n_a_o n_a_b n_a_c) h_a
    by_cases hb : h < cp
    · by_cases hb2 : h < N
      · refine cj_iload_n dX1_copyTheRest_2 rfl ?_
        refine cj_aload_n dX1_copyTheRest_3 rfl ?_
        refine cj_get flX1_15 dX1_copyTheRest_4 k_o rfl ?_
        refine cj_icmp_ge (tgt := 81) dX1_copyTheRest_7 (by decide) (fun h1 => absurd h1 (nI_ge (by omega) (by omega))) (fun h1 => ?_)
        refine cj_iload_n dX1_copyTheRest_10 rfl ?_
        refine cj_aload_n dX1_copyTheRest_11 rfl ?_
        refine cj_get flX1_25 dX1_copyTheRest_12 k_o rfl ?_
        refine cj_alen (v := nI N) dX1_copyTheRest_15 k_b rfl rfl ?_
        refine cj_icmp_ge (tgt := 81) dX1_copyTheRest_16 (by decide) (fun h2 => absurd h2 (nI_ge (by omega) (by omega))) (fun h2 => ?_)
        refine cj_iload_n dX1_copyTheRest_19 rfl ?_
        refine cj_iconst (v := 1) dX1_copyTheRest_20 (by decide) ?_
        refine cj_iadd dX1_copyTheRest_21 ?_
        refine cj_st (st' := [.int (nI (h + 1))]) (by rw [nI_1]) ?_
        refine cj_iconst (v := 0) dX1_copyTheRest_22 (by decide) ?_
        refine cj_aload_n dX1_copyTheRest_23 rfl ?_
        refine cj_get flX1_25 dX1_copyTheRest_24 k_o rfl ?_
        refine cj_iload_n dX1_copyTheRest_27 rfl ?_
        have i3 : vp_in (nI h) N := by
          exact vp_in_nI (by omega) (by omega)
        refine cj_iald dX1_copyTheRest_28 k_b i3 ?_
        refine cj_st (st' := [.int (g h), .int 0, .int (nI (h + 1))]) (by rw [nI_clamp (by omega)]) ?_
        refine cj_iconst (v := 4) dX1_copyTheRest_29 (by decide) ?_
        refine cj_ishr dX1_copyTheRest_30 ?_
        refine cj_max dX1_copyTheRest_31 lkX1_86 (by omega) (Nat.le_of_ble_eq_true rfl) ?_
        refine cj_st (st' := [.int (nI (g h >>> ((4 : Int32) &&& 31)).toNatClampNeg), .int (nI (h + 1))]) (by rw [gc_max]) ?_
        refine cj_iadd dX1_copyTheRest_34 ?_
        refine cj_st (st' := [.int (nI (gc_bh g h))]) (by rw [nI_add]; rfl) ?_
        refine cj_istore_n (lv' := [(2, .int (nI (gc_bh g h))), (1, .int (nI h)), (0, .ref o)]) dX1_copyTheRest_35 (by decide) rfl ?_
        refine cj_iload_n dX1_copyTheRest_36 rfl ?_
        refine cj_iconst (v := 1) dX1_copyTheRest_37 (by decide) ?_
        refine cj_iadd dX1_copyTheRest_38 ?_
        refine cj_st (st' := [.int (nI (h + 1))]) (by rw [nI_1]) ?_
        refine cj_istore_n (lv' := [(3, .int (nI (h + 1))), (2, .int (nI (gc_bh g h))), (1, .int (nI h)), (0, .ref o)]) dX1_copyTheRest_39 (by decide) rfl ?_
        refine cj_sub (lv' := [(3, .int (nI (h + 1))), (2, .int (nI (gc_bh g h))), (0, .ref o)]) (by simp) ?_
        refine l_in hd h_a n_a_o n_a_b n_a_c n_b_c hN ht (gc_bh_lt g hb2 hN) (N - (h + 1)) (h + 1) g mv cp _ (by omega) hcp ⟨k_o, k_b, k_c, r0⟩ (fun G8 h8 => ?_)
        refine cj_iload_n dX1_copyTheRest_76 rfl ?_
        refine cj_istore_n (lv' := [(1, .int (nI (gc_bh g h))), (2, .int (nI (gc_bh g h))), (0, .ref o)]) dX1_copyTheRest_77 (by decide) rfl ?_
        refine cj_goto (tgt := 2) dX1_copyTheRest_78 (by decide) ?_
        refine cj_sub (lv' := [(1, .int (nI (gc_bh g h))), (0, .ref o)]) (by simp) ?_
        refine ih (gc_bh g h) (gc_in N f t (gc_bh g h) (N - (h + 1)) (h + 1) (g, mv, cp)).1 (gc_in N f t (gc_bh g h) (N - (h + 1)) (h + 1) (g, mv, cp)).2.1 (gc_in N f t (gc_bh g h) (N - (h + 1)) (h + 1) (g, mv, cp)).2.2 G8 (by unfold gc_bh; omega) (gc_bh_lt g hb2 hN) (gc_in_le ht hN _ _ _ hcp) h8 (fun G9 h9 => kk G9 ?_)
        have e9 : gc_out N f t (r + 1) h (g, mv, cp) = gc_out N f t r (gc_bh g h) (gc_in N f t (gc_bh g h) (N - (h + 1)) (h + 1) (g, mv, cp)) := by
          conv => lhs; unfold gc_out
          exact if_pos ⟨hb, hb2⟩
        rw [e9]
        exact h9
      · refine cj_iload_n dX1_copyTheRest_2 rfl ?_
        refine cj_aload_n dX1_copyTheRest_3 rfl ?_
        refine cj_get flX1_15 dX1_copyTheRest_4 k_o rfl ?_
        refine cj_icmp_ge (tgt := 81) dX1_copyTheRest_7 (by decide) (fun h1 => absurd h1 (nI_ge (by omega) (by omega))) (fun h1 => ?_)
        refine cj_iload_n dX1_copyTheRest_10 rfl ?_
        refine cj_aload_n dX1_copyTheRest_11 rfl ?_
        refine cj_get flX1_25 dX1_copyTheRest_12 k_o rfl ?_
        refine cj_alen (v := nI N) dX1_copyTheRest_15 k_b rfl rfl ?_
        refine cj_icmp_ge (tgt := 81) dX1_copyTheRest_16 (by decide) (fun h2 => ?_) (fun h2 => absurd h2 (Classical.not_not.mpr (nI_le (by omega) (by omega))))
        refine cj_sub (lv' := []) (by simp) (kk _ ?_)
        have e9 : gc_out N f t (r + 1) h (g, mv, cp) = (g, mv, cp) := by
          unfold gc_out
          exact if_neg (fun h9 => by simp only at h9; omega)
        rw [e9]
        exact ⟨k_o, k_b, k_c, r0⟩
    · refine cj_iload_n dX1_copyTheRest_2 rfl ?_
      refine cj_aload_n dX1_copyTheRest_3 rfl ?_
      refine cj_get flX1_15 dX1_copyTheRest_4 k_o rfl ?_
      refine cj_icmp_ge (tgt := 81) dX1_copyTheRest_7 (by decide) (fun h1 => ?_) (fun h1 => absurd h1 (Classical.not_not.mpr (nI_le (by omega) (by omega))))
      refine cj_sub (lv' := []) (by simp) (kk _ ?_)
      have e9 : gc_out N f t (r + 1) h (g, mv, cp) = (g, mv, cp) := by
        unfold gc_out
        exact if_neg (fun h9 => by simp only at h9; omega)
      rw [e9]
      exact ⟨k_o, k_b, k_c, r0⟩
set_option maxHeartbeats 4000000 in
set_option maxRecDepth 100000 in
theorem t_copyTheRest {G : cj_G} {o a b c N t cp : Nat} {f g mv : Nat → Int32} {tn9 : Int32} (k_o : G o = some (.inr (1, [.ref a, .ref b, .ref c, .int (nI t), .int (nI cp), .int tn9]))) (k_a : G a = some (.inl (0, N, .inl f))) (k_b : G b = some (.inl (0, N, .inl g))) (k_c : G c = some (.inl (0, N, .inl mv))) (n_a_b : a ≠ b) (n_a_c : a ≠ c) (n_b_c : b ≠ c) (hN : N ≤ 200) (ht : t ≤ N) (hcp : cp ≤ N) : cj_T mX1_copyTheRest 2 0 0 [.ref o] G (fun v G' => v = none ∧ gc_po G o a b c N t (gc_out N f t N 0 (g, mv, cp)) tn9 G') (cj_no) := by
  refine cj_T_of (by decide) (Nat.le_of_ble_eq_true rfl) ?_
  refine cj_lvs (lv' := [(0, .ref o)]) rfl ?_
  refine cj_iconst (v := 0) dX1_copyTheRest_0 (by decide) ?_
  refine cj_istore_n (lv' := [(1, .int 0), (0, .ref o)]) dX1_copyTheRest_1 (by decide) rfl ?_
  refine cj_sub (lv' := [(1, .int (nI 0)), (0, .ref o)]) (by simp [nI_0]) ?_
  refine l_out (Nat.le_refl 2) k_a (cj_ne k_a k_o (by intro h; cases h)) n_a_b n_a_c n_b_c hN ht N 0 g mv cp G (by omega) (by omega) hcp ⟨k_o, k_b, k_c, cj_fr.rf⟩ (fun G8 h8 => ?_)
  exact cj_vret rfl dX1_copyTheRest_81 ⟨rfl, h8⟩
