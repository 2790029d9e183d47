/-! ClosureHeap$Machine: what follows the environment, a match, a path; the collection -/
set_option maxHeartbeats 4000000 in
set_option maxRecDepth 100000 in
theorem l_furtherOn {d k0 n0 k n : Nat} {Qr : Option Value → cj_G → Prop} {Qx : String → cj_G → Prop} (hd : 3 ≤ d) {q : Nat} (hq : q < 2 ^ 31) {G : cj_G} {m pg o sk ht a b c N t : Nat} {f : Nat → Int32} {acc env at9 hl rs cp9 tn9 : Int32} (k_m : G m = some (.inr (2, [.ref pg, .ref o, .ref sk, .int (nI ht), .int acc, .int env, .int at9, .int hl, .int rs]))) (k_o : G o = some (.inr (1, [.ref a, .ref b, .ref c, .int (nI t), .int cp9, .int tn9]))) (k_a : G a = some (.inl (0, N, .inl f))) (hN : N ≤ 200) (ht9 : t ≤ N) (kk : ∀ w : Int32, w = mc_fo f t q env → cj_J mX2_furtherOn d k0 n0 Qr Qx k n 28 [(2, .int w)] [] G) : ∀ (r i : Nat) (w : Int32), i + r = q → mc_fo f t r w = mc_fo f t q env → cj_J mX2_furtherOn d k0 n0 Qr Qx k n 7 [(3, .int (nI i)), (2, .int w), (0, .ref m), (1, .int (nI q))] [] G := by
  have htI : (nI t).toInt ≤ N := by rw [nI_toInt (by omega)]; omega
  intro r
  induction r with
  | zero =>
    intro i w hi he
    refine cj_iload_n dX2_furtherOn_7 rfl ?_
    refine cj_iload_n dX2_furtherOn_8 rfl ?_
    refine cj_icmp_ge (tgt := 28) dX2_furtherOn_9 (by decide) (fun h1 => ?_) (fun h1 => absurd h1 (Classical.not_not.mpr (nI_le (by omega) (by omega))))
    exact cj_sub (lv' := [(2, .int w)]) (by simp) (kk w he)
  | succ r ih =>
    intro i w hi he
    refine cj_iload_n dX2_furtherOn_7 rfl ?_
    refine cj_iload_n dX2_furtherOn_8 rfl ?_
    refine cj_icmp_ge (tgt := 28) dX2_furtherOn_9 (by decide) (fun h1 => absurd h1 (nI_ge (by omega) (by omega))) (fun h1 => ?_)
    refine cj_aload_n dX2_furtherOn_12 rfl ?_
    refine cj_get flX2_39 dX2_furtherOn_13 k_m rfl ?_
    refine cj_iload_n dX2_furtherOn_16 rfl ?_
    refine cj_iconst (v := 2) dX2_furtherOn_17 (by decide) ?_
    refine cj_callV (As := [.int w, .int 2]) (rest := []) dX2_furtherOn_18 lkX2_128 mwX1_wordOf (t_wordOf k_o k_a htI hN) (by omega) rfl rfl (Nat.le_of_ble_eq_true rfl) k_o rfl (fun v9 G3 q2 => ?_) (fun _ _ h => absurd h id)
    obtain ⟨rfl, e9⟩ := q2
    subst G3
    refine cj_st (st' := [.int (hp_wo f (nI t) w 2)]) rfl ?_
    refine cj_istore_n (lv' := [(2, .int (hp_wo f (nI t) w 2)), (3, .int (nI i)), (0, .ref m), (1, .int (nI q))]) dX2_furtherOn_21 (by decide) rfl ?_
    refine cj_iinc (v := nI (i + 1)) (lv' := [(3, .int (nI (i + 1))), (2, .int (hp_wo f (nI t) w 2)), (0, .ref m), (1, .int (nI q))]) dX2_furtherOn_22 rfl (nI_1 _) (by decide) rfl ?_
    refine cj_goto (tgt := 7) dX2_furtherOn_25 (by decide) ?_
    refine cj_sub (lv' := [(3, .int (nI (i + 1))), (2, .int (hp_wo f (nI t) w 2)), (0, .ref m), (1, .int (nI q))]) (by simp) ?_
    exact ih (i + 1) _ (by omega) he
set_option maxHeartbeats 4000000 in
set_option maxRecDepth 100000 in
theorem t_furtherOn {G : cj_G} {q m pg o sk ht a b c N t : Nat} {f : Nat → Int32} {acc env at9 hl rs cp9 tn9 : Int32} (k_m : G m = some (.inr (2, [.ref pg, .ref o, .ref sk, .int (nI ht), .int acc, .int env, .int at9, .int hl, .int rs]))) (k_o : G o = some (.inr (1, [.ref a, .ref b, .ref c, .int (nI t), .int cp9, .int tn9]))) (k_a : G a = some (.inl (0, N, .inl f))) (hN : N ≤ 200) (ht9 : t ≤ N) (hq : q < 2 ^ 31) : cj_T mX2_furtherOn 3 0 0 [.ref m, .int (nI q)] G (cj_rd G (mc_fo f t q env)) (cj_no) := by
  refine cj_T_of (by decide) (Nat.le_of_ble_eq_true rfl) ?_
  refine cj_lvs (lv' := [(0, .ref m), (1, .int (nI q))]) rfl ?_
  refine cj_aload_n dX2_furtherOn_0 rfl ?_
  refine cj_get flX2_22 dX2_furtherOn_1 k_m rfl ?_
  refine cj_istore_n (lv' := [(2, .int env), (0, .ref m), (1, .int (nI q))]) dX2_furtherOn_4 (by decide) rfl ?_
  refine cj_iconst (v := 0) dX2_furtherOn_5 (by decide) ?_
  refine cj_istore_n (lv' := [(3, .int 0), (2, .int env), (0, .ref m), (1, .int (nI q))]) dX2_furtherOn_6 (by decide) rfl ?_
  refine cj_sub (lv' := [(3, .int (nI 0)), (2, .int env), (0, .ref m), (1, .int (nI q))]) (by simp [nI_0]) ?_
  refine l_furtherOn (Nat.le_refl 3) hq k_m k_o k_a hN ht9 (fun w hw => ?_) q 0 env (by omega) rfl
  refine cj_iload_n dX2_furtherOn_28 rfl ?_
  exact cj_iret rfl dX2_furtherOn_29 ⟨by rw [hw], rfl⟩
set_option maxHeartbeats 4000000 in
set_option maxRecDepth 100000 in
theorem l_placeOfCase {d k0 n0 k n : Nat} {Qr : Option Value → cj_G → Prop} {Qx : String → cj_G → Prop} (hd : 1 ≤ d) {G : cj_G} {m pg o sk ht a b c N t : Nat} {pa ln q : Nat} {f pf : Nat → Int32} {acc env at9 hl rs cp9 tn9 : Int32} (k_m : G m = some (.inr (2, [.ref pg, .ref o, .ref sk, .int (nI ht), .int acc, .int env, .int at9, .int hl, .int rs]))) (k_o : G o = some (.inr (1, [.ref a, .ref b, .ref c, .int (nI t), .int cp9, .int tn9]))) (k_a : G a = some (.inl (0, N, .inl f))) (hN : N ≤ 200) (ht9 : t ≤ N) (k_pg : G pg = some (.inr (0, [.ref pa, .int (nI ln)]))) (k_pa : G pa = some (.inl (0, 360, .inl pf))) (hln : ln ≤ 120) {tag : Int32} (hq : q < 2 ^ 31 - 1) (hQ : Qr (some (.int (mc_pc pf ln at9 tag q 1))) G) : ∀ (r i : Nat), i + r = q + 1 → mc_pc pf ln at9 tag r i = mc_pc pf ln at9 tag q 1 → cj_J mX2_placeOfCase d k0 n0 Qr Qx k n 14 [(3, .int (nI i)), (2, .int tag), (0, .ref m), (1, .int (nI q))] [] G := by
  intro r
  induction r with
  | zero =>
    intro i hi he
    refine cj_iload_n dX2_placeOfCase_14 rfl ?_
    refine cj_iload_n dX2_placeOfCase_15 rfl ?_
    refine cj_icmp_gt (tgt := 63) dX2_placeOfCase_16 (by decide) (fun h1 => ?_) (fun h1 => absurd h1 (Classical.not_not.mpr (nI_lt (by omega) (by omega))))
    refine cj_iconst (v := (-1)) dX2_placeOfCase_63 (by decide) ?_
    refine cj_iret rfl dX2_placeOfCase_64 ?_
    have e9 : mc_pc pf ln at9 tag q 1 = (-1) := by
      rw [← he]
      clear he; try clear ih
      simp [mc_pc, *]
    rw [← e9]; exact hQ
  | succ r ih =>
    intro i hi he
    refine cj_iload_n dX2_placeOfCase_14 rfl ?_
    refine cj_iload_n dX2_placeOfCase_15 rfl ?_
    refine cj_icmp_gt (tgt := 63) dX2_placeOfCase_16 (by decide) (fun h1 => absurd h1 (nI_nlt (by omega) (by omega))) (fun h1 => ?_)
    refine cj_iload_n dX2_placeOfCase_19 rfl ?_
    refine cj_iconst (v := (-1)) dX2_placeOfCase_20 (by decide) ?_
    refine cj_icmp_eq (tgt := 63) dX2_placeOfCase_21 (by decide) (fun h2 => ?_) (fun h2 => ?_)
    · refine cj_iconst (v := (-1)) dX2_placeOfCase_63 (by decide) ?_
      refine cj_iret rfl dX2_placeOfCase_64 ?_
      have e9 : mc_pc pf ln at9 tag q 1 = (-1) := by
        rw [← he]
        clear he; try clear ih
        simp [mc_pc, *]
      rw [← e9]; exact hQ
    · refine cj_aload_n dX2_placeOfCase_24 rfl ?_
      refine cj_get flX2_35 dX2_placeOfCase_25 k_m rfl ?_
      refine cj_aload_n dX2_placeOfCase_28 rfl ?_
      refine cj_get flX2_25 dX2_placeOfCase_29 k_m rfl ?_
      refine cj_iload_n dX2_placeOfCase_32 rfl ?_
      refine cj_iadd dX2_placeOfCase_33 ?_
      refine cj_iconst (v := 1) dX2_placeOfCase_34 (by decide) ?_
      refine cj_callV (As := [.int (at9 + (nI i)), .int 1]) (rest := []) dX2_placeOfCase_35 lkX2_53 mwX0_part (t_part k_pg k_pa hln) (by omega) rfl rfl (Nat.le_of_ble_eq_true rfl) k_pg rfl (fun v9 G4 q3 => ?_) (fun _ _ h => absurd h id)
      obtain ⟨rfl, e9⟩ := q3
      subst G4
      refine cj_st (st' := [.int (mc_part pf ln (at9 + (nI i)) 1)]) rfl ?_
      refine cj_iload_n dX2_placeOfCase_38 rfl ?_
      refine cj_icmp_ne (tgt := 57) dX2_placeOfCase_39 (by decide) (fun h5 => ?_) (fun h5 => ?_)
      · refine cj_iinc (v := nI (i + 1)) (lv' := [(3, .int (nI (i + 1))), (2, .int tag), (0, .ref m), (1, .int (nI q))]) dX2_placeOfCase_57 rfl (nI_1 _) (by decide) rfl ?_
        refine cj_goto (tgt := 14) dX2_placeOfCase_60 (by decide) ?_
        refine cj_sub (lv' := [(3, .int (nI (i + 1))), (2, .int tag), (0, .ref m), (1, .int (nI q))]) (by simp) ?_
        refine ih (i + 1) (by omega) ?_
        rw [← he]
        clear he ih
        simp [mc_pc, *]
      · refine cj_aload_n dX2_placeOfCase_42 rfl ?_
        refine cj_get flX2_35 dX2_placeOfCase_43 k_m rfl ?_
        refine cj_aload_n dX2_placeOfCase_46 rfl ?_
        refine cj_get flX2_25 dX2_placeOfCase_47 k_m rfl ?_
        refine cj_iload_n dX2_placeOfCase_50 rfl ?_
        refine cj_iadd dX2_placeOfCase_51 ?_
        refine cj_iconst (v := 2) dX2_placeOfCase_52 (by decide) ?_
        refine cj_callV (As := [.int (at9 + (nI i)), .int 2]) (rest := []) dX2_placeOfCase_53 lkX2_53 mwX0_part (t_part k_pg k_pa hln) (by omega) rfl rfl (Nat.le_of_ble_eq_true rfl) k_pg rfl (fun v9 G7 q6 => ?_) (fun _ _ h => absurd h id)
        obtain ⟨rfl, e9⟩ := q6
        subst G7
        refine cj_st (st' := [.int (mc_part pf ln (at9 + (nI i)) 2)]) rfl ?_
        refine cj_iret rfl dX2_placeOfCase_56 ?_
        have e9 : mc_pc pf ln at9 tag q 1 = mc_part pf ln (at9 + (nI i)) 2 := by
          rw [← he]
          clear he; try clear ih
          simp [mc_pc, *]
        rw [← e9]; exact hQ
set_option maxHeartbeats 4000000 in
set_option maxRecDepth 100000 in
theorem t_placeOfCase {G : cj_G} {m pg o sk ht a b c N t : Nat} {pa ln q : Nat} {f pf : Nat → Int32} {acc env at9 hl rs cp9 tn9 : Int32} (k_m : G m = some (.inr (2, [.ref pg, .ref o, .ref sk, .int (nI ht), .int acc, .int env, .int at9, .int hl, .int rs]))) (k_o : G o = some (.inr (1, [.ref a, .ref b, .ref c, .int (nI t), .int cp9, .int tn9]))) (k_a : G a = some (.inl (0, N, .inl f))) (hN : N ≤ 200) (ht9 : t ≤ N) (k_pg : G pg = some (.inr (0, [.ref pa, .int (nI ln)]))) (k_pa : G pa = some (.inl (0, 360, .inl pf))) (hln : ln ≤ 120) (hq : q < 2 ^ 31 - 1) : cj_T mX2_placeOfCase 3 0 0 [.ref m, .int (nI q)] G (cj_rd G (mc_pc pf ln at9 (hp_co f (nI t) acc) q 1)) (cj_no) := by
  have htI : (nI t).toInt ≤ N := by rw [nI_toInt (by omega)]; omega
  refine cj_T_of (by decide) (Nat.le_of_ble_eq_true rfl) ?_
  refine cj_lvs (lv' := [(0, .ref m), (1, .int (nI q))]) rfl ?_
  refine cj_aload_n dX2_placeOfCase_0 rfl ?_
  refine cj_get flX2_39 dX2_placeOfCase_1 k_m rfl ?_
  refine cj_aload_n dX2_placeOfCase_4 rfl ?_
  refine cj_get flX2_19 dX2_placeOfCase_5 k_m rfl ?_
  refine cj_callV (As := [.int acc]) (rest := []) dX2_placeOfCase_8 lkX2_178 mwX1_constructorOf (t_constructorOf k_o k_a htI) (by omega) rfl rfl (Nat.le_of_ble_eq_true rfl) k_o rfl (fun v9 G2 q1 => ?_) (fun _ _ h => absurd h id)
  obtain ⟨rfl, e9⟩ := q1
  subst G2
  refine cj_st (st' := [.int (hp_co f (nI t) acc)]) rfl ?_
  refine cj_istore_n (lv' := [(2, .int (hp_co f (nI t) acc)), (0, .ref m), (1, .int (nI q))]) dX2_placeOfCase_11 (by decide) rfl ?_
  refine cj_iconst (v := 1) dX2_placeOfCase_12 (by decide) ?_
  refine cj_istore_n (lv' := [(3, .int 1), (2, .int (hp_co f (nI t) acc)), (0, .ref m), (1, .int (nI q))]) dX2_placeOfCase_13 (by decide) rfl ?_
  refine cj_sub (lv' := [(3, .int (nI 1)), (2, .int (hp_co f (nI t) acc)), (0, .ref m), (1, .int (nI q))]) (by simp [show nI 1 = 1 from rfl]) ?_
  exact l_placeOfCase (by decide) k_m k_o k_a hN ht9 k_pg k_pa hln hq ⟨rfl, rfl⟩ q 1 (by omega) rfl
def mc_wa (f : Nat → Int32) (t : Nat) : Nat → Int32 → Int32 → Int32
  | 0, w, _ => w
  | r + 1, w, x => if x &&& 3 = 0 then w else if hp_co f (nI t) w = -1 then -4 else mc_wa f t r (hp_wo f (nI t) w (x &&& 3)) (x.toUInt32 >>> (Int32.toUInt32 2 &&& Int32.toUInt32 31)).toInt32
set_option maxHeartbeats 4000000 in
set_option maxRecDepth 100000 in
theorem l_wordAt {d k0 n0 k n : Nat} {Qr : Option Value → cj_G → Prop} {Qx : String → cj_G → Prop} (hd : 3 ≤ d) {G : cj_G} {m pg o sk ht a b c N t : Nat} {f : Nat → Int32} {acc env at9 hl rs cp9 tn9 : Int32} (k_m : G m = some (.inr (2, [.ref pg, .ref o, .ref sk, .int (nI ht), .int acc, .int env, .int at9, .int hl, .int rs]))) (k_o : G o = some (.inr (1, [.ref a, .ref b, .ref c, .int (nI t), .int cp9, .int tn9]))) (k_a : G a = some (.inl (0, N, .inl f))) (hN : N ≤ 200) (ht9 : t ≤ N) {res : Int32} (hQ : Qr (some (.int res)) G) : ∀ (r i : Nat) (w x : Int32), i + r = 16 → mc_wa f t r w x = res → cj_J mX2_wordAt d k0 n0 Qr Qx k n 10 [(4, .int (nI i)), (3, .int x), (2, .int w), (0, .ref m)] [] G := by
  have htI : (nI t).toInt ≤ N := by rw [nI_toInt (by omega)]; omega
  intro r
  induction r with
  | zero =>
    intro i w x hi he
    refine cj_iload dX2_wordAt_10 rfl ?_
    refine cj_bipush (v := 16) dX2_wordAt_12 (by decide) ?_
    refine cj_icmp_ge (tgt := 60) dX2_wordAt_14 (by decide) (fun h1 => ?_) (fun h1 => absurd h1 (Classical.not_not.mpr (nI_le (a := 16) (by omega) (by omega))))
    refine cj_iload_n dX2_wordAt_60 rfl ?_
    refine cj_iret rfl dX2_wordAt_61 ?_
    have e9 : res = w := by
      rw [← he]
      simp_all [mc_wa]
    rw [← e9]; exact hQ
  | succ r ih =>
    intro i w x hi he
    refine cj_iload dX2_wordAt_10 rfl ?_
    refine cj_bipush (v := 16) dX2_wordAt_12 (by decide) ?_
    refine cj_icmp_ge (tgt := 60) dX2_wordAt_14 (by decide) (fun h1 => absurd h1 (nI_ge (b := 16) (by omega) (by omega))) (fun h1 => ?_)
    refine cj_iload_n dX2_wordAt_17 rfl ?_
    refine cj_iconst (v := 3) dX2_wordAt_18 (by decide) ?_
    refine cj_iand dX2_wordAt_19 ?_
    refine cj_if_eq (tgt := 60) dX2_wordAt_20 (by decide) (fun h2 => ?_) (fun h2 => ?_)
    · refine cj_iload_n dX2_wordAt_60 rfl ?_
      refine cj_iret rfl dX2_wordAt_61 ?_
      have e9 : res = w := by
        rw [← he]
        simp_all [mc_wa]
      rw [← e9]; exact hQ
    · refine cj_aload_n dX2_wordAt_23 rfl ?_
      refine cj_get flX2_39 dX2_wordAt_24 k_m rfl ?_
      refine cj_iload_n dX2_wordAt_27 rfl ?_
      refine cj_callV (As := [.int w]) (rest := []) dX2_wordAt_28 lkX2_178 mwX1_constructorOf (t_constructorOf k_o k_a htI) (by omega) rfl rfl (Nat.le_of_ble_eq_true rfl) k_o rfl (fun v9 G4 q3 => ?_) (fun _ _ h => absurd h id)
      obtain ⟨rfl, e9⟩ := q3
      subst G4
      refine cj_st (st' := [.int (hp_co f (nI t) w)]) rfl ?_
      refine cj_iconst (v := (-1)) dX2_wordAt_31 (by decide) ?_
      refine cj_icmp_ne (tgt := 38) dX2_wordAt_32 (by decide) (fun h5 => ?_) (fun h5 => ?_)
      · refine cj_aload_n dX2_wordAt_38 rfl ?_
        refine cj_get flX2_39 dX2_wordAt_39 k_m rfl ?_
        refine cj_iload_n dX2_wordAt_42 rfl ?_
        refine cj_iload_n dX2_wordAt_43 rfl ?_
        refine cj_iconst (v := 3) dX2_wordAt_44 (by decide) ?_
        refine cj_iand dX2_wordAt_45 ?_
        refine cj_callV (As := [.int w, .int (x &&& 3)]) (rest := []) dX2_wordAt_46 lkX2_128 mwX1_wordOf (t_wordOf k_o k_a htI hN) (by omega) rfl rfl (Nat.le_of_ble_eq_true rfl) k_o rfl (fun v9 G7 q6 => ?_) (fun _ _ h => absurd h id)
        obtain ⟨rfl, e9⟩ := q6
        subst G7
        refine cj_st (st' := [.int (hp_wo f (nI t) w (x &&& 3))]) rfl ?_
        refine cj_istore_n (lv' := [(2, .int (hp_wo f (nI t) w (x &&& 3))), (4, .int (nI i)), (3, .int x), (0, .ref m)]) dX2_wordAt_49 (by decide) rfl ?_
        refine cj_iload_n dX2_wordAt_50 rfl ?_
        refine cj_iconst (v := 2) dX2_wordAt_51 (by decide) ?_
        refine cj_iushr (v := (x.toUInt32 >>> (Int32.toUInt32 2 &&& Int32.toUInt32 31)).toInt32) dX2_wordAt_52 rfl ?_
        refine cj_istore_n (lv' := [(3, .int ((x.toUInt32 >>> (Int32.toUInt32 2 &&& Int32.toUInt32 31)).toInt32)), (2, .int (hp_wo f (nI t) w (x &&& 3))), (4, .int (nI i)), (0, .ref m)]) dX2_wordAt_53 (by decide) rfl ?_
        refine cj_iinc (v := nI (i + 1)) (lv' := [(4, .int (nI (i + 1))), (3, .int ((x.toUInt32 >>> (Int32.toUInt32 2 &&& Int32.toUInt32 31)).toInt32)), (2, .int (hp_wo f (nI t) w (x &&& 3))), (0, .ref m)]) dX2_wordAt_54 rfl (nI_1 _) (by decide) rfl ?_
        refine cj_goto (tgt := 10) dX2_wordAt_57 (by decide) ?_
        refine cj_sub (lv' := [(4, .int (nI (i + 1))), (3, .int ((x.toUInt32 >>> (Int32.toUInt32 2 &&& Int32.toUInt32 31)).toInt32)), (2, .int (hp_wo f (nI t) w (x &&& 3))), (0, .ref m)]) (by simp) ?_
        refine ih (i + 1) _ _ (by omega) ?_
        rw [← he]
        simp_all [mc_wa]
      · refine cj_bipush (v := (-4)) dX2_wordAt_35 (by decide) ?_
        refine cj_iret rfl dX2_wordAt_37 ?_
        have e9 : res = (-4) := by
          rw [← he]
          simp_all [mc_wa]
        rw [← e9]; exact hQ
set_option maxHeartbeats 4000000 in
set_option maxRecDepth 100000 in
theorem t_wordAt {G : cj_G} {m pg o sk ht a b c N t : Nat} {f : Nat → Int32} {x acc env at9 hl rs cp9 tn9 : Int32} (k_m : G m = some (.inr (2, [.ref pg, .ref o, .ref sk, .int (nI ht), .int acc, .int env, .int at9, .int hl, .int rs]))) (k_o : G o = some (.inr (1, [.ref a, .ref b, .ref c, .int (nI t), .int cp9, .int tn9]))) (k_a : G a = some (.inl (0, N, .inl f))) (hN : N ≤ 200) (ht9 : t ≤ N) : cj_T mX2_wordAt 3 0 0 [.ref m, .int x] G (cj_rd G (mc_wa f t 16 acc x)) (cj_no) := by
  refine cj_T_of (by decide) (Nat.le_of_ble_eq_true rfl) ?_
  refine cj_lvs (lv' := [(0, .ref m), (1, .int x)]) rfl ?_
  refine cj_aload_n dX2_wordAt_0 rfl ?_
  refine cj_get flX2_19 dX2_wordAt_1 k_m rfl ?_
  refine cj_istore_n (lv' := [(2, .int acc), (0, .ref m), (1, .int x)]) dX2_wordAt_4 (by decide) rfl ?_
  refine cj_iload_n dX2_wordAt_5 rfl ?_
  refine cj_istore_n (lv' := [(3, .int x), (2, .int acc), (0, .ref m), (1, .int x)]) dX2_wordAt_6 (by decide) rfl ?_
  refine cj_iconst (v := 0) dX2_wordAt_7 (by decide) ?_
  refine cj_istore (lv' := [(4, .int 0), (3, .int x), (2, .int acc), (0, .ref m), (1, .int x)]) dX2_wordAt_8 (by decide) rfl ?_
  refine cj_sub (lv' := [(4, .int (nI 0)), (3, .int x), (2, .int acc), (0, .ref m)]) (by simp [nI_0]) ?_
  exact l_wordAt (Nat.le_refl 3) k_m k_o k_a hN ht9 ⟨rfl, rfl⟩ 16 0 acc x rfl rfl
