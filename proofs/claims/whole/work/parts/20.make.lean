/-! ClosureHeap$Machine: open, make; what an instruction asks -/
def mc_open (acc : Int32) : Nat → Nat → (Nat → Int32) → Nat → Int32 → (Nat → Int32) × Nat × Int32
  | 0, _, f, t, e => (f, t, e)
  | r + 1, k, f, t, e => mc_open acc r (k + 1) (mc_pair f t 10 (hp_wo f (nI t) acc (nI k)) e) (t + 3) (4 * nI t)
def mc_puts (sf : Nat → Int32) : Nat → Nat → (Nat → Int32) → Nat → (Nat → Int32) × Nat
  | 0, _, f, t => (f, t)
  | r + 1, i, f, t => mc_puts sf r (i + 1) (upd f t (sf i)) (t + 1)
theorem mc_puts_t (sf : Nat → Int32) : ∀ (r i : Nat) (f : Nat → Int32) (t : Nat), (mc_puts sf r i f t).2 = t + r := by
  intro r
  induction r with
  | zero => intro i f t; rfl
  | succ r ih => intro i f t; show (mc_puts sf r (i + 1) _ (t + 1)).2 = _; rw [ih]; omega
set_option maxHeartbeats 4000000 in
set_option maxRecDepth 100000 in
theorem l_open {d k0 n0 k n : Nat} {Qr : Option Value → cj_G → Prop} {Qx : String → cj_G → Prop} (hd : 4 ≤ d) {m pg o sk ht a b c N q : Nat} {acc at9 hl rs cp9 tn9 : Int32} (hN : N ≤ 200) (hq : q < 1000) : ∀ (r i : Nat) (f : Nat → Int32) (t : Nat) (env : Int32) (G : cj_G), i + r = q + 1 → t + 3 * r ≤ N → G m = some (.inr (2, [.ref pg, .ref o, .ref sk, .int (nI ht), .int acc, .int env, .int at9, .int hl, .int rs])) → G o = some (.inr (1, [.ref a, .ref b, .ref c, .int (nI t), .int cp9, .int tn9])) → G a = some (.inl (0, N, .inl f)) → (∀ G' : cj_G, G' m = some (.inr (2, [.ref pg, .ref o, .ref sk, .int (nI ht), .int acc, .int (mc_open acc r i f t env).2.2, .int at9, .int hl, .int rs])) → G' o = some (.inr (1, [.ref a, .ref b, .ref c, .int (nI (mc_open acc r i f t env).2.1), .int cp9, .int tn9])) → G' a = some (.inl (0, N, .inl (mc_open acc r i f t env).1)) → cj_fr [m, o, a] G G' → cj_J mX2_open d k0 n0 Qr Qx k n 29 [] [] G') → cj_J mX2_open d k0 n0 Qr Qx k n 2 [(2, .int (nI i)), (0, .ref m), (1, .int (nI q))] [] G := by
  intro r
  induction r with
  | zero =>
    intro i f t env G hi hr k_m k_o k_a kk
    refine cj_iload_n dX2_open_2 rfl ?_
    refine cj_iload_n dX2_open_3 rfl ?_
    refine cj_icmp_gt (tgt := 29) dX2_open_4 (by decide) (fun h1 => ?_) (fun h1 => absurd h1 (Classical.not_not.mpr (nI_lt (by omega) (by omega))))
    exact cj_sub (lv' := []) (by simp) (kk _ k_m k_o k_a (cj_fr.rf (S := [m, o, a]) (G := G)))
  | succ r ih =>
    intro i f t env G hi hr k_m k_o k_a kk
    refine cj_iload_n dX2_open_2 rfl ?_
    refine cj_iload_n dX2_open_3 rfl ?_
    refine cj_icmp_gt (tgt := 29) dX2_open_4 (by decide) (fun h1 => absurd h1 (nI_nlt (by omega) (by omega))) (fun h1 => ?_)
    refine cj_aload_n dX2_open_7 rfl ?_
    refine cj_pc (pc' := 8) rfl ?_
    refine cj_aload_n dX2_open_8 rfl ?_
    refine cj_get flX2_39 dX2_open_9 k_m rfl ?_
    refine cj_aload_n dX2_open_12 rfl ?_
    refine cj_get flX2_19 dX2_open_13 k_m rfl ?_
    refine cj_pc (pc' := 16) rfl ?_
    refine cj_iload_n dX2_open_16 rfl ?_
    refine cj_callV (M' := mX1_wordOf) (d' := 2) (k' := 0) (n' := 0) (index := 128) (np := 2) (As := [.int acc, .int (nI i)]) (rest := [.ref m]) dX2_open_17 lkX2_128 mwX1_wordOf (t_wordOf k_o k_a (by rw [nI_toInt (by omega)]; omega) hN) (by omega) rfl rfl (Nat.le_of_ble_eq_true rfl) k_o rfl (fun v9 G3 q2 => ?_) (fun _ _ h => absurd h id)
    obtain ⟨rfl, e9⟩ := q2
    subst G3
    refine cj_st (st' := [.int (hp_wo f (nI t) acc (nI i)), .ref m]) rfl ?_
    refine cj_callV (M' := mX2_bind) (d' := 3) (k' := 0) (n' := 0) (index := 148) (np := 1) (As := [.int (hp_wo f (nI t) acc (nI i))]) (rest := []) dX2_open_20 lkX2_148 mwX2_bind (t_bind k_m k_o k_a hN (by omega)) (by omega) rfl rfl (Nat.le_of_ble_eq_true rfl) k_m rfl (fun v9 G5 q4 => ?_) (fun _ _ h => absurd h id)
    obtain ⟨rfl, k6, k7, k8, r9⟩ := q4
    have r10 : cj_fr [m, o, a] G G5 := cj_fr.trans (cj_fr.rf (S := [m, o, a]) (G := G)) (cj_fr.mono r9 (by simp))
    refine cj_st (st' := []) rfl ?_
    refine cj_iinc (v := nI (i + 1)) (lv' := [(2, .int (nI (i + 1))), (0, .ref m), (1, .int (nI q))]) dX2_open_23 rfl (nI_1 _) (by decide) rfl ?_
    refine cj_pc (pc' := 26) rfl ?_
    refine cj_goto (tgt := 2) dX2_open_26 (by decide) ?_
    refine cj_sub (lv' := [(2, .int (nI (i + 1))), (0, .ref m), (1, .int (nI q))]) (by simp) ?_
    exact ih (i + 1) (mc_pair f t 10 (hp_wo f (nI t) acc (nI i)) env) (t + 3) (4 * nI t) _ (by omega) (by omega) k6 k7 k8 (fun G9 j1 j2 j3 j4 => kk G9 j1 j2 j3 (cj_fr.trans r10 j4))
set_option maxHeartbeats 4000000 in
set_option maxRecDepth 100000 in
theorem t_open {G : cj_G} {m pg o sk ht a b c N t q : Nat} {f : Nat → Int32} {acc env at9 hl rs cp9 tn9 : Int32} (k_m : G m = some (.inr (2, [.ref pg, .ref o, .ref sk, .int (nI ht), .int acc, .int env, .int at9, .int hl, .int rs]))) (k_o : G o = some (.inr (1, [.ref a, .ref b, .ref c, .int (nI t), .int cp9, .int tn9]))) (k_a : G a = some (.inl (0, N, .inl f))) (hN : N ≤ 200) (hq : q < 1000) (hr : t + 3 * q ≤ N) : cj_T mX2_open 4 0 0 [.ref m, .int (nI q)] G (fun v G' => v = none ∧ G' m = some (.inr (2, [.ref pg, .ref o, .ref sk, .int (nI ht), .int acc, .int (mc_open acc q 1 f t env).2.2, .int at9, .int hl, .int rs])) ∧ G' o = some (.inr (1, [.ref a, .ref b, .ref c, .int (nI (mc_open acc q 1 f t env).2.1), .int cp9, .int tn9])) ∧ G' a = some (.inl (0, N, .inl (mc_open acc q 1 f t env).1)) ∧ cj_fr [m, o, a] G G') (cj_no) := by
  refine cj_T_of (by decide) (Nat.le_of_ble_eq_true rfl) ?_
  refine cj_lvs (lv' := [(0, .ref m), (1, .int (nI q))]) rfl ?_
  refine cj_iconst (v := 1) dX2_open_0 (by decide) ?_
  refine cj_istore_n (lv' := [(2, .int 1), (0, .ref m), (1, .int (nI q))]) dX2_open_1 (by decide) rfl ?_
  refine cj_sub (lv' := [(2, .int (nI 1)), (0, .ref m), (1, .int (nI q))]) (by simp [show nI 1 = 1 from rfl]) ?_
  refine l_open (Nat.le_refl 4) hN hq q 1 f t env G (by omega) hr k_m k_o k_a (fun G9 j1 j2 j3 j4 => ?_)
  exact cj_vret rfl dX2_open_29 ⟨rfl, j1, j2, j3, j4⟩
set_option maxHeartbeats 4000000 in
set_option maxRecDepth 100000 in
theorem l_make {d k0 n0 k n : Nat} {Qr : Option Value → cj_G → Prop} {Qx : String → cj_G → Prop} (hd : 1 ≤ d) {m pg o sk ht a b c N : Nat} {sf : Nat → Int32} {acc env at9 hl rs cp9 tn9 : Int32} (hN : N ≤ 200) (n_sk_a : sk ≠ a) (hht : ht ≤ 40) {bl pt : Int32} : ∀ (r i : Nat) (f : Nat → Int32) (t : Nat) (G : cj_G), i + r = ht → t + r ≤ N → G m = some (.inr (2, [.ref pg, .ref o, .ref sk, .int (nI ht), .int acc, .int env, .int at9, .int hl, .int rs])) → G o = some (.inr (1, [.ref a, .ref b, .ref c, .int (nI t), .int cp9, .int tn9])) → G a = some (.inl (0, N, .inl f)) → G sk = some (.inl (0, 40, .inl sf)) → (∀ G' : cj_G, G' m = some (.inr (2, [.ref pg, .ref o, .ref sk, .int (nI ht), .int acc, .int env, .int at9, .int hl, .int rs])) → G' o = some (.inr (1, [.ref a, .ref b, .ref c, .int (nI (mc_puts sf r i f t).2), .int cp9, .int tn9])) → G' a = some (.inl (0, N, .inl (mc_puts sf r i f t).1)) → G' sk = some (.inl (0, 40, .inl sf)) → cj_fr [m, o, a] G G' → cj_J mX2_make d k0 n0 Qr Qx k n 71 [(4, .int pt), (3, .int bl), (0, .ref m)] [] G') → cj_J mX2_make d k0 n0 Qr Qx k n 32 [(5, .int (nI i)), (4, .int pt), (3, .int bl), (0, .ref m)] [] G := by
  intro r
  induction r with
  | zero =>
    intro i f t G hi hr k_m k_o k_a k_sk kk
    refine cj_iload dX2_make_32 rfl ?_
    refine cj_aload_n dX2_make_34 rfl ?_
    refine cj_get flX2_15 dX2_make_35 k_m rfl ?_
    refine cj_icmp_ge (tgt := 71) dX2_make_38 (by decide) (fun h1 => ?_) (fun h1 => absurd h1 (Classical.not_not.mpr (nI_le (by omega) (by omega))))
    refine cj_pc (pc' := 71) rfl ?_
    exact cj_sub (lv' := [(4, .int pt), (3, .int bl), (0, .ref m)]) (by simp) (kk _ k_m k_o k_a k_sk (cj_fr.rf (S := [m, o, a]) (G := G)))
  | succ r ih =>
    intro i f t G hi hr k_m k_o k_a k_sk kk
    refine cj_iload dX2_make_32 rfl ?_
    refine cj_aload_n dX2_make_34 rfl ?_
    refine cj_get flX2_15 dX2_make_35 k_m rfl ?_
    refine cj_icmp_ge (tgt := 71) dX2_make_38 (by decide) (fun h1 => absurd h1 (nI_ge (by omega) (by omega))) (fun h1 => ?_)
    refine cj_pc (pc' := 41) rfl ?_
    refine cj_iload dX2_make_41 rfl ?_
    refine cj_aload_n dX2_make_43 rfl ?_
    refine cj_get flX2_9 dX2_make_44 k_m rfl ?_
    refine cj_alen (v := nI 40) dX2_make_47 k_sk rfl rfl ?_
    refine cj_pc (pc' := 48) rfl ?_
    refine cj_icmp_ge (tgt := 71) dX2_make_48 (by decide) (fun h2 => absurd h2 (nI_ge (b := 40) (by omega) (by omega))) (fun h2 => ?_)
    refine cj_aload_n dX2_make_51 rfl ?_
    refine cj_get flX2_39 dX2_make_52 k_m rfl ?_
    refine cj_aload_n dX2_make_55 rfl ?_
    refine cj_pc (pc' := 56) rfl ?_
    refine cj_get flX2_9 dX2_make_56 k_m rfl ?_
    refine cj_iload dX2_make_59 rfl ?_
    have i3 : vp_in (nI i) 40 := by
      exact vp_in_nI (by omega) (by decide)
    refine cj_iald dX2_make_61 k_sk i3 ?_
    refine cj_st (st' := [.int (sf i), .ref o]) (by rw [nI_clamp (by omega)]) ?_
    refine cj_callV (M' := mX1_put) (d' := 0) (k' := 0) (n' := 0) (index := 175) (np := 1) (As := [.int (sf i)]) (rest := []) dX2_make_62 lkX2_175 mwX1_put (t_put k_o k_a hN (by omega)) (by omega) rfl rfl (Nat.le_of_ble_eq_true rfl) k_o rfl (fun v9 G5 q4 => ?_) (fun _ _ h => absurd h id)
    obtain ⟨rfl, k6, k7, r8⟩ := q4
    have k9 : G5 m = some (.inr (2, [.ref pg, .ref o, .ref sk, .int (nI ht), .int acc, .int env, .int at9, .int hl, .int rs])) := r8 _ _ (cj_ni2 (cj_noo k_m k_o (by decide)) (cj_noa k_m k_a)) k_m
    have k10 : G5 sk = some (.inl (0, 40, .inl sf)) := r8 _ _ (cj_ni2 (cj_nao k_sk k_o) n_sk_a) k_sk
    have r11 : cj_fr [m, o, a] G G5 := cj_fr.trans (cj_fr.rf (S := [m, o, a]) (G := G)) (cj_fr.mono r8 (by simp))
    refine cj_st (st' := []) rfl ?_
    refine cj_pc (pc' := 65) rfl ?_
    refine cj_iinc (v := nI (i + 1)) (lv' := [(5, .int (nI (i + 1))), (4, .int pt), (3, .int bl), (0, .ref m)]) dX2_make_65 rfl (nI_1 _) (by decide) rfl ?_
    refine cj_goto (tgt := 32) dX2_make_68 (by decide) ?_
    refine cj_sub (lv' := [(5, .int (nI (i + 1))), (4, .int pt), (3, .int bl), (0, .ref m)]) (by simp) ?_
    exact ih (i + 1) (upd f t (sf i)) (t + 1) _ (by omega) (by omega) k9 k6 k7 k10 (fun G9 j1 j2 j3 j4 j5 => kk G9 j1 j2 j3 j4 (cj_fr.trans r11 j5))
def mc_mk (f : Nat → Int32) (t : Nat) (sf : Nat → Int32) (ht q : Nat) (tag acc : Int32) : Nat → Int32 := upd (mc_puts sf q (ht - q) (upd f t (16 * nI (q + 1) + tag)) (t + 1)).1 (t + 1 + q) acc
set_option maxHeartbeats 4000000 in
set_option maxRecDepth 100000 in
theorem t_make {G : cj_G} {m pg o sk ht a b c N t q : Nat} {f sf : Nat → Int32} {tag acc env at9 hl rs cp9 tn9 : Int32} (k_m : G m = some (.inr (2, [.ref pg, .ref o, .ref sk, .int (nI ht), .int acc, .int env, .int at9, .int hl, .int rs]))) (k_sk : G sk = some (.inl (0, 40, .inl sf))) (k_o : G o = some (.inr (1, [.ref a, .ref b, .ref c, .int (nI t), .int cp9, .int tn9]))) (k_a : G a = some (.inl (0, N, .inl f))) (hN : N ≤ 200) (n_sk_a : sk ≠ a) (hht : ht ≤ 40) (hq : q ≤ ht) (htag : tag &&& 3 = nI (q + 1)) (hr : t + q + 2 ≤ N) : cj_T mX2_make 2 0 0 [.ref m, .int tag] G (fun v G' => v = none ∧ G' m = some (.inr (2, [.ref pg, .ref o, .ref sk, .int (nI (ht - q)), .int (4 * nI t), .int env, .int at9, .int hl, .int rs])) ∧ G' o = some (.inr (1, [.ref a, .ref b, .ref c, .int (nI (t + 1 + q + 1)), .int cp9, .int tn9])) ∧ G' a = some (.inl (0, N, .inl (mc_mk f t sf ht q tag acc))) ∧ cj_fr [m, o, a] G G') (cj_no) := by
  refine cj_T_of (by decide) (Nat.le_of_ble_eq_true rfl) ?_
  refine cj_lvs (lv' := [(0, .ref m), (1, .int tag)]) rfl ?_
  refine cj_iload_n dX2_make_0 rfl ?_
  refine cj_callSN (M' := mX6_fieldsOf) (d' := 0) (k' := 0) (n' := 0) (index := 98) (np := 1) (As := [.int tag]) (rest := []) dX2_make_1 lkX2_98 mwX6_fieldsOf (t_fieldsOf) (by omega) rfl rfl (Nat.le_of_ble_eq_true rfl) (fun v9 G2 q1 => ?_)
  obtain ⟨rfl, e9⟩ := q1
  subst G2
  refine cj_st (st' := [.int (tag &&& 3)]) rfl ?_
  refine cj_st (st' := [.int (nI (q + 1))]) (by rw [htag]) ?_
  refine cj_istore_n (lv' := [(2, .int (nI (q + 1))), (0, .ref m), (1, .int tag)]) dX2_make_4 (by decide) rfl ?_
  refine cj_iconst (v := 0) dX2_make_5 (by decide) ?_
  refine cj_pc (pc' := 6) rfl ?_
  refine cj_aload_n dX2_make_6 rfl ?_
  refine cj_get flX2_15 dX2_make_7 k_m rfl ?_
  refine cj_iload_n dX2_make_10 rfl ?_
  refine cj_iconst (v := 1) dX2_make_11 (by decide) ?_
  refine cj_pc (pc' := 12) rfl ?_
  refine cj_isub dX2_make_12 ?_
  refine cj_st (st' := [.int (nI q), .int (nI ht), .int 0]) (by rw [nI_pred]) ?_
  refine cj_isub dX2_make_13 ?_
  refine cj_st (st' := [.int (nI (ht - q)), .int 0]) (by rw [pk_sub hq]) ?_
  refine cj_max dX2_make_14 lkX2_167 (by omega) (Nat.le_of_ble_eq_true rfl) ?_
  refine cj_st (st' := [.int (nI (ht - q))]) (by rw [mc_max0 _ (by omega)]) ?_
  refine cj_istore_n (lv' := [(3, .int (nI (ht - q))), (2, .int (nI (q + 1))), (0, .ref m), (1, .int tag)]) dX2_make_17 (by decide) rfl ?_
  refine cj_aload_n dX2_make_18 rfl ?_
  refine cj_get flX2_39 dX2_make_19 k_m rfl ?_
  refine cj_pc (pc' := 22) rfl ?_
  refine cj_iload_n dX2_make_22 rfl ?_
  refine cj_iload_n dX2_make_23 rfl ?_
  refine cj_callV (M' := mX1_beginBlock) (d' := 1) (k' := 0) (n' := 0) (index := 172) (np := 2) (As := [.int tag, .int (nI (q + 1))]) (rest := []) dX2_make_24 lkX2_172 mwX1_beginBlock (t_beginBlock k_o k_a hN (by omega)) (by omega) rfl rfl (Nat.le_of_ble_eq_true rfl) k_o rfl (fun v9 G4 q3 => ?_) (fun _ _ h => absurd h id)
  obtain ⟨rfl, k5, k6, r7⟩ := q3
  have k8 : G4 m = some (.inr (2, [.ref pg, .ref o, .ref sk, .int (nI ht), .int acc, .int env, .int at9, .int hl, .int rs])) := r7 _ _ (cj_ni2 (cj_noo k_m k_o (by decide)) (cj_noa k_m k_a)) k_m
  have k9 : G4 sk = some (.inl (0, 40, .inl sf)) := r7 _ _ (cj_ni2 (cj_nao k_sk k_o) n_sk_a) k_sk
  have r10 : cj_fr [m, o, a] G G4 := cj_fr.trans (cj_fr.rf (S := [m, o, a]) (G := G)) (cj_fr.mono r7 (by simp))
  refine cj_st (st' := [.int (4 * nI t)]) rfl ?_
  refine cj_istore (lv' := [(4, .int (4 * nI t)), (3, .int (nI (ht - q))), (2, .int (nI (q + 1))), (0, .ref m), (1, .int tag)]) dX2_make_27 (by decide) rfl ?_
  refine cj_pc (pc' := 29) rfl ?_
  refine cj_iload_n dX2_make_29 rfl ?_
  refine cj_istore (lv' := [(5, .int (nI (ht - q))), (4, .int (4 * nI t)), (3, .int (nI (ht - q))), (2, .int (nI (q + 1))), (0, .ref m), (1, .int tag)]) dX2_make_30 (by decide) rfl ?_
  refine cj_sub (lv' := [(5, .int (nI (ht - q))), (4, .int (4 * nI t)), (3, .int (nI (ht - q))), (0, .ref m)]) (by simp) ?_
  refine l_make (by decide) hN n_sk_a hht q (ht - q) _ (t + 1) _ (by omega) (by omega) k8 k5 k6 k9 (fun G8 k8_m k8_o k8_a k8_sk r8 => ?_)
  rw [mc_puts_t] at k8_o
  have r9 : cj_fr [m, o, a] G G8 := cj_fr.trans r10 r8
  refine cj_aload_n dX2_make_71 rfl ?_
  refine cj_get flX2_39 dX2_make_72 k8_m rfl ?_
  refine cj_aload_n dX2_make_75 rfl ?_
  refine cj_get flX2_19 dX2_make_76 k8_m rfl ?_
  refine cj_pc (pc' := 79) rfl ?_
  refine cj_callV (M' := mX1_put) (d' := 0) (k' := 0) (n' := 0) (index := 175) (np := 1) (As := [.int acc]) (rest := []) dX2_make_79 lkX2_175 mwX1_put (t_put k8_o k8_a hN (by omega)) (by omega) rfl rfl (Nat.le_of_ble_eq_true rfl) k8_o rfl (fun v9 G102 q101 => ?_) (fun _ _ h => absurd h id)
  obtain ⟨rfl, k103, k104, r105⟩ := q101
  have k106 : G102 m = some (.inr (2, [.ref pg, .ref o, .ref sk, .int (nI ht), .int acc, .int env, .int at9, .int hl, .int rs])) := r105 _ _ (cj_ni2 (cj_noo k8_m k8_o (by decide)) (cj_noa k8_m k8_a)) k8_m
  have k107 : G102 sk = some (.inl (0, 40, .inl sf)) := r105 _ _ (cj_ni2 (cj_nao k8_sk k8_o) n_sk_a) k8_sk
  have r108 : cj_fr [m, o, a] G G102 := cj_fr.trans r9 (cj_fr.mono r105 (by simp))
  refine cj_st (st' := []) rfl ?_
  refine cj_aload_n dX2_make_82 rfl ?_
  refine cj_iload_n dX2_make_83 rfl ?_
  refine cj_put flX2_15 dX2_make_84 k106 rfl rfl (Nat.le_of_ble_eq_true rfl) ?_
  refine cj_nm (fun G109 e110 => ?_)
  have k111 : G109 m = some (.inr (2, [.ref pg, .ref o, .ref sk, .int (nI (ht - q)), .int acc, .int env, .int at9, .int hl, .int rs])) := by rw [e110]; exact cj_up_s
  have k112 : G109 o = some (.inr (1, [.ref a, .ref b, .ref c, .int (nI ((t + 1 + q) + 1)), .int cp9, .int tn9])) := by rw [e110, cj_up_n (cj_noo k103 k106 (by decide))]; exact k103
  have k113 : G109 a = some (.inl (0, N, .inl (upd (mc_puts sf q (ht - q) (upd f t (16 * nI (q + 1) + tag)) (t + 1)).1 (t + 1 + q) acc))) := by rw [e110, cj_up_n (cj_nao k104 k106)]; exact k104
  have k114 : G109 sk = some (.inl (0, 40, .inl sf)) := by rw [e110, cj_up_n (cj_nao k107 k106)]; exact k107
  have r115 : cj_fr [m, o, a] G G109 := by rw [e110]; exact cj_fr.up r108 (by simp)
  refine cj_pc (pc' := 87) rfl ?_
  refine cj_aload_n dX2_make_87 rfl ?_
  refine cj_iload dX2_make_88 rfl ?_
  refine cj_put flX2_19 dX2_make_90 k111 rfl rfl (Nat.le_of_ble_eq_true rfl) ?_
  refine cj_nm (fun G116 e117 => ?_)
  have k118 : G116 m = some (.inr (2, [.ref pg, .ref o, .ref sk, .int (nI (ht - q)), .int (4 * nI t), .int env, .int at9, .int hl, .int rs])) := by rw [e117]; exact cj_up_s
  have k119 : G116 o = some (.inr (1, [.ref a, .ref b, .ref c, .int (nI ((t + 1 + q) + 1)), .int cp9, .int tn9])) := by rw [e117, cj_up_n (cj_noo k112 k111 (by decide))]; exact k112
  have k120 : G116 a = some (.inl (0, N, .inl (upd (mc_puts sf q (ht - q) (upd f t (16 * nI (q + 1) + tag)) (t + 1)).1 (t + 1 + q) acc))) := by rw [e117, cj_up_n (cj_nao k113 k111)]; exact k113
  have k121 : G116 sk = some (.inl (0, 40, .inl sf)) := by rw [e117, cj_up_n (cj_nao k114 k111)]; exact k114
  have r122 : cj_fr [m, o, a] G G116 := by rw [e117]; exact cj_fr.up r115 (by simp)
  refine cj_vret rfl dX2_make_93 ?_
  exact ⟨rfl, k118, k119, k120, r122⟩
