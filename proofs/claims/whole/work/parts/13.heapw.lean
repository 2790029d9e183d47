/-! ClosureHeap$Heap: blocks, and the copying -/
theorem cj_ni1 {x a : Nat} (h : x ≠ a) : x ∉ [a] := by simp [h]
theorem cj_ni2 {x a b : Nat} (h : x ≠ a) (h2 : x ≠ b) : x ∉ [a, b] := by simp [h, h2]
theorem cj_ni3 {x a b c : Nat} (h : x ≠ a) (h2 : x ≠ b) (h3 : x ≠ c) : x ∉ [a, b, c] := by simp [h, h2, h3]
theorem cj_ni4 {x a b c d : Nat} (h : x ≠ a) (h2 : x ≠ b) (h3 : x ≠ c) (h4 : x ≠ d) : x ∉ [a, b, c, d] := by simp [h, h2, h3, h4]
theorem cj_ni5 {x a b c d e : Nat} (h : x ≠ a) (h2 : x ≠ b) (h3 : x ≠ c) (h4 : x ≠ d) (h5 : x ≠ e) : x ∉ [a, b, c, d, e] := by simp [h, h2, h3, h4, h5]
theorem cj_ni6 {x a b c d e f : Nat} (h : x ≠ a) (h2 : x ≠ b) (h3 : x ≠ c) (h4 : x ≠ d) (h5 : x ≠ e) (h6 : x ≠ f) : x ∉ [a, b, c, d, e, f] := by simp [h, h2, h3, h4, h5, h6]

set_option maxHeartbeats 4000000 in
set_option maxRecDepth 100000 in
theorem t_beginBlock {G : cj_G} {o a b c N : Nat} {f : Nat → Int32} {t : Nat} {w x cp9 tn9 : Int32} (k_o : G o = some (.inr (1, [.ref a, .ref b, .ref c, .int (nI t), .int cp9, .int tn9]))) (k_a : G a = some (.inl (0, N, .inl f))) (hN : N ≤ 200) (ht : t < N) : cj_T mX1_beginBlock 1 0 0 [.ref o, .int w, .int x] G (fun v G' => v = some (.int (4 * nI t)) ∧ hp_po G o a b c N (upd f t (16 * x + w)) (nI (t + 1)) cp9 tn9 G') (cj_no) := by
  refine cj_T_of (by decide) (Nat.le_of_ble_eq_true rfl) ?_
  refine cj_lvs (lv' := [(0, .ref o), (1, .int w), (2, .int x)]) rfl ?_
  refine cj_iconst (v := 4) dX1_beginBlock_0 (by decide) ?_
  refine cj_aload_n dX1_beginBlock_1 rfl ?_
  refine cj_get flX1_9 dX1_beginBlock_2 k_o rfl ?_
  refine cj_imul dX1_beginBlock_5 ?_
  refine cj_istore_n (lv' := [(3, .int (4 * (nI t))), (0, .ref o), (1, .int w), (2, .int x)]) dX1_beginBlock_6 (by decide) rfl ?_
  refine cj_aload_n dX1_beginBlock_7 rfl ?_
  refine cj_bipush (v := 16) dX1_beginBlock_8 (by decide) ?_
  refine cj_iload_n dX1_beginBlock_10 rfl ?_
  refine cj_imul dX1_beginBlock_11 ?_
  refine cj_iload_n dX1_beginBlock_12 rfl ?_
  refine cj_iadd dX1_beginBlock_13 ?_
  refine cj_callV (As := [.int ((16 * x) + w)]) (rest := []) dX1_beginBlock_14 lkX1_31 mwX1_put (t_put k_o k_a hN (by omega)) (by omega) rfl rfl (Nat.le_of_ble_eq_true rfl) k_o rfl (fun v9 G2 q1 => ?_) (fun _ _ h => absurd h id)
  obtain ⟨rfl, k3, k4, r5⟩ := q1
  have r6 : cj_fr [o, a] G G2 := cj_fr.trans (cj_fr.rf (S := [o, a]) (G := G)) (cj_fr.mono r5 (by simp))
  refine cj_st (st' := []) rfl ?_
  refine cj_iload_n dX1_beginBlock_17 rfl ?_
  refine cj_iret rfl dX1_beginBlock_18 ?_
  exact ⟨rfl, k3, k4, r6⟩
set_option maxHeartbeats 4000000 in
set_option maxRecDepth 100000 in
theorem t_putPair {G : cj_G} {o a b c N : Nat} {f : Nat → Int32} {t : Nat} {w x y cp9 tn9 : Int32} (k_o : G o = some (.inr (1, [.ref a, .ref b, .ref c, .int (nI t), .int cp9, .int tn9]))) (k_a : G a = some (.inl (0, N, .inl f))) (hN : N ≤ 200) (ht : t + 3 ≤ N) : cj_T mX1_putPair 2 0 0 [.ref o, .int w, .int x, .int y] G (fun v G' => v = some (.int (4 * nI t)) ∧ hp_po G o a b c N (upd (upd (upd f t (16 * 2 + w)) (t + 1) x) (t + 2) y) (nI (t + 3)) cp9 tn9 G') (cj_no) := by
  refine cj_T_of (by decide) (Nat.le_of_ble_eq_true rfl) ?_
  refine cj_lvs (lv' := [(0, .ref o), (1, .int w), (2, .int x), (3, .int y)]) rfl ?_
  refine cj_aload_n dX1_putPair_0 rfl ?_
  refine cj_iload_n dX1_putPair_1 rfl ?_
  refine cj_iconst (v := 2) dX1_putPair_2 (by decide) ?_
  refine cj_callV (As := [.int w, .int 2]) (rest := []) dX1_putPair_3 lkX1_35 mwX1_beginBlock (t_beginBlock k_o k_a hN (by omega)) (by omega) rfl rfl (Nat.le_of_ble_eq_true rfl) k_o rfl (fun v9 G2 q1 => ?_) (fun _ _ h => absurd h id)
  obtain ⟨rfl, k3, k4, r5⟩ := q1
  have r6 : cj_fr [o, a] G G2 := cj_fr.trans (cj_fr.rf (S := [o, a]) (G := G)) (cj_fr.mono r5 (by simp))
  refine cj_st (st' := [.int (4 * nI t)]) rfl ?_
  refine cj_istore (lv' := [(4, .int (4 * nI t)), (0, .ref o), (1, .int w), (2, .int x), (3, .int y)]) dX1_putPair_6 (by decide) rfl ?_
  refine cj_aload_n dX1_putPair_8 rfl ?_
  refine cj_iload_n dX1_putPair_9 rfl ?_
  refine cj_callV (As := [.int x]) (rest := []) dX1_putPair_10 lkX1_31 mwX1_put (t_put k3 k4 hN (by omega)) (by omega) rfl rfl (Nat.le_of_ble_eq_true rfl) k3 rfl (fun v9 G8 q7 => ?_) (fun _ _ h => absurd h id)
  obtain ⟨rfl, k9, k10, r11⟩ := q7
  have r12 : cj_fr [o, a] G G8 := cj_fr.trans r6 (cj_fr.mono r11 (by simp))
  refine cj_st (st' := []) rfl ?_
  refine cj_aload_n dX1_putPair_13 rfl ?_
  refine cj_iload_n dX1_putPair_14 rfl ?_
  refine cj_callV (As := [.int y]) (rest := []) dX1_putPair_15 lkX1_31 mwX1_put (t_put k9 k10 hN (by omega)) (by omega) rfl rfl (Nat.le_of_ble_eq_true rfl) k9 rfl (fun v9 G14 q13 => ?_) (fun _ _ h => absurd h id)
  obtain ⟨rfl, k15, k16, r17⟩ := q13
  have r18 : cj_fr [o, a] G G14 := cj_fr.trans r12 (cj_fr.mono r17 (by simp))
  refine cj_st (st' := []) rfl ?_
  refine cj_iload dX1_putPair_18 rfl ?_
  refine cj_iret rfl dX1_putPair_20 ?_
  exact ⟨rfl, k15, k16, r18⟩
set_option maxHeartbeats 4000000 in
set_option maxRecDepth 100000 in
theorem t_clear {G : cj_G} {o a b c : Nat} {t cp tn : Int32} (k_o : G o = some (.inr (1, [.ref a, .ref b, .ref c, .int t, .int cp, .int tn]))) : cj_T mX1_clear 0 0 0 [.ref o] G (fun v G' => v = none ∧ G' o = some (.inr (1, [.ref a, .ref b, .ref c, .int 0, .int cp, .int 0])) ∧ cj_fr [o] G G') (cj_no) := by
  refine cj_T_of (by decide) (Nat.le_of_ble_eq_true rfl) ?_
  refine cj_lvs (lv' := [(0, .ref o)]) rfl ?_
  refine cj_aload_n dX1_clear_0 rfl ?_
  refine cj_iconst (v := 0) dX1_clear_1 (by decide) ?_
  refine cj_put flX1_9 dX1_clear_2 k_o rfl rfl (Nat.le_of_ble_eq_true rfl) ?_
  refine cj_nm (fun G1 e2 => ?_)
  have k3 : G1 o = some (.inr (1, [.ref a, .ref b, .ref c, .int 0, .int cp, .int tn])) := by rw [e2]; exact cj_up_s
  have r4 : cj_fr [o] G G1 := by rw [e2]; exact cj_fr.up (cj_fr.rf (S := [o]) (G := G)) (by simp)
  refine cj_aload_n dX1_clear_5 rfl ?_
  refine cj_iconst (v := 0) dX1_clear_6 (by decide) ?_
  refine cj_put flX1_18 dX1_clear_7 k3 rfl rfl (Nat.le_of_ble_eq_true rfl) ?_
  refine cj_nm (fun G5 e6 => ?_)
  have k7 : G5 o = some (.inr (1, [.ref a, .ref b, .ref c, .int 0, .int cp, .int 0])) := by rw [e6]; exact cj_up_s
  have r8 : cj_fr [o] G G5 := by rw [e6]; exact cj_fr.up r4 (by simp)
  refine cj_vret rfl dX1_clear_10 ?_
  exact ⟨rfl, k7, r8⟩
set_option maxHeartbeats 4000000 in
set_option maxRecDepth 100000 in
theorem t_useOtherHalf {G : cj_G} {o a b c : Nat} {t cp tn : Int32} (k_o : G o = some (.inr (1, [.ref a, .ref b, .ref c, .int t, .int cp, .int tn]))) : cj_T mX1_useOtherHalf 0 0 0 [.ref o] G (fun v G' => v = none ∧ G' o = some (.inr (1, [.ref b, .ref a, .ref c, .int cp, .int cp, .int (tn + 1)])) ∧ cj_fr [o] G G') (cj_no) := by
  refine cj_T_of (by decide) (Nat.le_of_ble_eq_true rfl) ?_
  refine cj_lvs (lv' := [(0, .ref o)]) rfl ?_
  refine cj_aload_n dX1_useOtherHalf_0 rfl ?_
  refine cj_get flX1_21 dX1_useOtherHalf_1 k_o rfl ?_
  refine cj_astore_n (lv' := [(1, .ref a), (0, .ref o)]) dX1_useOtherHalf_4 (by decide) rfl ?_
  refine cj_aload_n dX1_useOtherHalf_5 rfl ?_
  refine cj_aload_n dX1_useOtherHalf_6 rfl ?_
  refine cj_get flX1_25 dX1_useOtherHalf_7 k_o rfl ?_
  refine cj_put flX1_21 dX1_useOtherHalf_10 k_o rfl rfl (Nat.le_of_ble_eq_true rfl) ?_
  refine cj_nm (fun G1 e2 => ?_)
  have k3 : G1 o = some (.inr (1, [.ref b, .ref b, .ref c, .int t, .int cp, .int tn])) := by rw [e2]; exact cj_up_s
  have r4 : cj_fr [o] G G1 := by rw [e2]; exact cj_fr.up (cj_fr.rf (S := [o]) (G := G)) (by simp)
  refine cj_aload_n dX1_useOtherHalf_13 rfl ?_
  refine cj_aload_n dX1_useOtherHalf_14 rfl ?_
  refine cj_put flX1_25 dX1_useOtherHalf_15 k3 rfl rfl (Nat.le_of_ble_eq_true rfl) ?_
  refine cj_nm (fun G5 e6 => ?_)
  have k7 : G5 o = some (.inr (1, [.ref b, .ref a, .ref c, .int t, .int cp, .int tn])) := by rw [e6]; exact cj_up_s
  have r8 : cj_fr [o] G G5 := by rw [e6]; exact cj_fr.up r4 (by simp)
  refine cj_aload_n dX1_useOtherHalf_18 rfl ?_
  refine cj_aload_n dX1_useOtherHalf_19 rfl ?_
  refine cj_get flX1_15 dX1_useOtherHalf_20 k7 rfl ?_
  refine cj_put flX1_9 dX1_useOtherHalf_23 k7 rfl rfl (Nat.le_of_ble_eq_true rfl) ?_
  refine cj_nm (fun G9 e10 => ?_)
  have k11 : G9 o = some (.inr (1, [.ref b, .ref a, .ref c, .int cp, .int cp, .int tn])) := by rw [e10]; exact cj_up_s
  have r12 : cj_fr [o] G G9 := by rw [e10]; exact cj_fr.up r8 (by simp)
  refine cj_aload_n dX1_useOtherHalf_26 rfl ?_
  refine cj_dup dX1_useOtherHalf_27 rfl ?_
  refine cj_get flX1_18 dX1_useOtherHalf_28 k11 rfl ?_
  refine cj_iconst (v := 1) dX1_useOtherHalf_31 (by decide) ?_
  refine cj_iadd dX1_useOtherHalf_32 ?_
  refine cj_put flX1_18 dX1_useOtherHalf_33 k11 rfl rfl (Nat.le_of_ble_eq_true rfl) ?_
  refine cj_nm (fun G13 e14 => ?_)
  have k15 : G13 o = some (.inr (1, [.ref b, .ref a, .ref c, .int cp, .int cp, .int (tn + 1)])) := by rw [e14]; exact cj_up_s
  have r16 : cj_fr [o] G G13 := by rw [e14]; exact cj_fr.up r12 (by simp)
  refine cj_vret rfl dX1_useOtherHalf_36 ?_
  exact ⟨rfl, k15, r16⟩
set_option maxHeartbeats 4000000 in
set_option maxRecDepth 100000 in
theorem l_fill {d k0 n0 k n : Nat} {Qr : Option Value → cj_G → Prop} {Qx : String → cj_G → Prop} {N a : Nat} {x : Int32} {G0 : cj_G} (hN : N < 2 ^ 31) (kk : ∀ (G' : cj_G) (g : Nat → Int32), G' a = some (.inl (0, N, .inl g)) → (∀ j, j < N → g j = x) → cj_fr [a] G0 G' → cj_J mJ7_fill_53178 d k0 n0 Qr Qx k n 20 [] [] G') : ∀ (r i : Nat) (f : Nat → Int32) (G : cj_G), i + r = N → G a = some (.inl (0, N, .inl f)) → (∀ j, j < i → f j = x) → cj_fr [a] G0 G → cj_J mJ7_fill_53178 d k0 n0 Qr Qx k n 5 [(2, .int (nI i)), (0, .ref a), (1, .int x), (3, .int (nI N))] [] G := by
  intro r
  induction r with
  | zero =>
    intro i f G hi k_a hf r0
    refine cj_iload_n dJ7_fill_53178_5 rfl ?_
    refine cj_iload_n dJ7_fill_53178_6 rfl ?_
    refine cj_icmp_ge (tgt := 20) dJ7_fill_53178_7 (by decide) (fun h1 => ?_) (fun h1 => absurd h1 (Classical.not_not.mpr (nI_le (by omega) (by omega))))
    exact cj_sub (lv' := []) (by simp) (kk _ _ k_a (fun j hj => hf j (by omega)) r0)
  | succ r ih =>
    intro i f G hi k_a hf r0
    refine cj_iload_n dJ7_fill_53178_5 rfl ?_
    refine cj_iload_n dJ7_fill_53178_6 rfl ?_
    refine cj_icmp_ge (tgt := 20) dJ7_fill_53178_7 (by decide) (fun h1 => absurd h1 (nI_ge (by omega) (by omega))) (fun h1 => ?_)
    refine cj_aload_n dJ7_fill_53178_10 rfl ?_
    refine cj_iload_n dJ7_fill_53178_11 rfl ?_
    refine cj_iload_n dJ7_fill_53178_12 rfl ?_
    have i2 : vp_in (nI i) N := by
      exact vp_in_nI (by omega) (by omega)
    refine cj_iast dJ7_fill_53178_13 k_a i2 ?_
    refine cj_eqG (G' := cj_up G a (.inl (0, N, .inl (upd f i x)))) (by rw [nI_clamp (by omega)]) ?_
    refine cj_nm (fun G3 e4 => ?_)
    have k5 : G3 a = some (.inl (0, N, .inl (upd f i x))) := by rw [e4]; exact cj_up_s
    have r6 : cj_fr [a] G0 G3 := by rw [e4]; exact cj_fr.up r0 (by simp)
    refine cj_iinc (v := nI (i + 1)) (lv' := [(2, .int (nI (i + 1))), (0, .ref a), (1, .int x), (3, .int (nI N))]) dJ7_fill_53178_14 rfl (nI_1 _) (by decide) rfl ?_
    refine cj_goto (tgt := 5) dJ7_fill_53178_17 (by decide) ?_
    refine cj_sub (lv' := [(2, .int (nI (i + 1))), (0, .ref a), (1, .int x), (3, .int (nI N))]) (by simp) ?_
    refine ih (i + 1) _ _ (by omega) k5 ?_ r6
    intro j hj
    by_cases hji : j = i
    · rw [hji]; exact pk_us
    · rw [pk_un hji]; exact hf j (by omega)
set_option maxHeartbeats 4000000 in
set_option maxRecDepth 100000 in
theorem t_fill {G : cj_G} {a N : Nat} {f : Nat → Int32} {x : Int32} (k_a : G a = some (.inl (0, N, .inl f))) (hN : N < 2 ^ 31) : cj_T mJ7_fill_53178 0 0 0 [.ref a, .int x] G (fun v G' => v = none ∧ ∃ g : Nat → Int32, G' a = some (.inl (0, N, .inl g)) ∧ (∀ j, j < N → g j = x) ∧ cj_fr [a] G G') (cj_no) := by
  refine cj_T_of (by decide) (Nat.le_of_ble_eq_true rfl) ?_
  refine cj_lvs (lv' := [(0, .ref a), (1, .int x)]) rfl ?_
  refine cj_iconst (v := 0) dJ7_fill_53178_0 (by decide) ?_
  refine cj_istore_n (lv' := [(2, .int 0), (0, .ref a), (1, .int x)]) dJ7_fill_53178_1 (by decide) rfl ?_
  refine cj_aload_n dJ7_fill_53178_2 rfl ?_
  refine cj_alen (v := nI N) dJ7_fill_53178_3 k_a rfl rfl ?_
  refine cj_istore_n (lv' := [(3, .int (nI N)), (2, .int 0), (0, .ref a), (1, .int x)]) dJ7_fill_53178_4 (by decide) rfl ?_
  refine cj_sub (lv' := [(2, .int (nI 0)), (0, .ref a), (1, .int x), (3, .int (nI N))]) (by simp [nI_0]) ?_
  refine l_fill hN (fun G1 g h1 h2 h3 => ?_) N 0 f G (by omega) k_a (fun j hj => absurd hj (Nat.not_lt_zero j)) cj_fr.rf
  exact cj_vret rfl dJ7_fill_53178_20 ⟨rfl, g, h1, h2, h3⟩
set_option maxHeartbeats 4000000 in
set_option maxRecDepth 100000 in
theorem t_beginCopy {G : cj_G} {o a b c N : Nat} {mv : Nat → Int32} {t cp tn : Int32} (k_o : G o = some (.inr (1, [.ref a, .ref b, .ref c, .int t, .int cp, .int tn]))) (k_c : G c = some (.inl (0, N, .inl mv))) (hN : N ≤ 200) : cj_T mX1_beginCopy 1 0 0 [.ref o] G (fun v G' => v = none ∧ G' o = some (.inr (1, [.ref a, .ref b, .ref c, .int t, .int 0, .int tn])) ∧ G' c = some (.inl (0, N, .inl (fun _ => -1))) ∧ cj_fr [o, c] G G') (cj_no) := by
  refine cj_T_of (by decide) (Nat.le_of_ble_eq_true rfl) ?_
  refine cj_lvs (lv' := [(0, .ref o)]) rfl ?_
  refine cj_aload_n dX1_beginCopy_0 rfl ?_
  refine cj_get flX1_28 dX1_beginCopy_1 k_o rfl ?_
  refine cj_iconst (v := (-1)) dX1_beginCopy_4 (by decide) ?_
  refine cj_callS (As := [.ref c, .int (-1)]) (rest := []) dX1_beginCopy_5 lkX1_74 mwJ7_fill_53178 (t_fill k_c (by omega)) (by omega) rfl rfl (Nat.le_of_ble_eq_true rfl) (fun v9 G8 q8 => ?_) (fun _ _ h => absurd h id)
  obtain ⟨rfl, g8, k8, e8, r8⟩ := q8
  refine cj_st (st' := []) rfl ?_
  refine cj_ax (g := fun _ => -1) k8 e8 ?_
  refine cj_nm (fun G9 e9 => ?_)
  have k9_c : G9 c = some (.inl (0, N, .inl (fun _ => -1))) := by rw [e9]; exact cj_up_s
  have k9_o : G9 o = some (.inr (1, [.ref a, .ref b, .ref c, .int t, .int cp, .int tn])) := by rw [e9, cj_up_n (cj_ne k_o k_c (by intro h; cases h))]; exact r8 _ _ (cj_ni1 (cj_ne k_o k_c (by intro h; cases h))) k_o
  have r9 : cj_fr [o, c] G G9 := by rw [e9]; exact cj_fr.up (cj_fr.mono r8 (by simp)) (by simp)
  refine cj_aload_n dX1_beginCopy_8 rfl ?_
  refine cj_iconst (v := 0) dX1_beginCopy_9 (by decide) ?_
  refine cj_put flX1_15 dX1_beginCopy_10 k9_o rfl rfl (Nat.le_of_ble_eq_true rfl) ?_
  refine cj_nm (fun G1 e2 => ?_)
  have k3 : G1 o = some (.inr (1, [.ref a, .ref b, .ref c, .int t, .int 0, .int tn])) := by rw [e2]; exact cj_up_s
  have k4 : G1 c = some (.inl (0, N, .inl (fun _ => -1))) := by rw [e2, cj_up_n (cj_ne k9_c k9_o (by intro h; cases h))]; exact k9_c
  have r5 : cj_fr [o, c] G G1 := by rw [e2]; exact cj_fr.up r9 (by simp)
  refine cj_vret rfl dX1_beginCopy_13 ?_
  exact ⟨rfl, k3, k4, r5⟩
