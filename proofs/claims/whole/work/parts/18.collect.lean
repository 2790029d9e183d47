/-! the collection: the roots, then the rest; then the roots once more, as they are now -/
def gc_st (N : Nat) (f : Nat → Int32) (t : Nat) (sf : Nat → Int32) : Nat → Nat → gc_S → gc_S
  | 0, _, s => s
  | r + 1, i, s => gc_st N f t sf r (i + 1) (gc_cp N f t s (sf i)).2
def gc_root (N : Nat) (f : Nat → Int32) (t : Nat) (acc env : Int32) (sf : Nat → Int32) (ht : Nat) (g : Nat → Int32) : gc_S := gc_st N f t sf ht 0 (gc_cp N f t (gc_cp N f t (g, fun _ => -1, 0) acc).2 env).2
def gc_all (N : Nat) (f : Nat → Int32) (t : Nat) (acc env : Int32) (sf : Nat → Int32) (ht : Nat) (g : Nat → Int32) : gc_S := gc_out N f t N 0 (gc_root N f t acc env sf ht g)
def gc_sm (N : Nat) (f : Nat → Int32) (t : Nat) : Nat → Nat → (Nat → Int32) → gc_S → (Nat → Int32) × gc_S
  | 0, _, sf, s => (sf, s)
  | r + 1, i, sf, s => gc_sm N f t r (i + 1) (upd sf i (gc_cp N f t s (sf i)).1) (gc_cp N f t s (sf i)).2
theorem gc_st_le {N : Nat} {f : Nat → Int32} {t : Nat} {sf : Nat → Int32} (ht : t ≤ N) (hN : N ≤ 200) : ∀ (r i : Nat) (s : gc_S), s.2.2 ≤ N → (gc_st N f t sf r i s).2.2 ≤ N := by
  intro r
  induction r with
  | zero => intro i s h; exact h
  | succ r ih => intro i s h; exact ih _ _ (gc_cp_le ht hN h)
theorem gc_out_le {N : Nat} {f : Nat → Int32} {t : Nat} (ht : t ≤ N) (hN : N ≤ 200) : ∀ (r h : Nat) (s : gc_S), s.2.2 ≤ N → (gc_out N f t r h s).2.2 ≤ N := by
  intro r
  induction r with
  | zero => intro i s h; exact h
  | succ r ih =>
    intro i s h
    unfold gc_out
    by_cases hb : i < s.2.2 ∧ i < N
    · rw [if_pos hb]; exact ih _ _ (gc_in_le ht hN _ _ _ h)
    · rw [if_neg hb]; exact h
theorem gc_sm_le {N : Nat} {f : Nat → Int32} {t : Nat} (ht : t ≤ N) (hN : N ≤ 200) : ∀ (r i : Nat) (sf : Nat → Int32) (s : gc_S), s.2.2 ≤ N → (gc_sm N f t r i sf s).2.2.2 ≤ N := by
  intro r
  induction r with
  | zero => intro i sf s h; exact h
  | succ r ih => intro i sf s h; exact ih _ _ _ (gc_cp_le ht hN h)
theorem gc_root_le {N : Nat} {f : Nat → Int32} {t : Nat} {acc env : Int32} {sf : Nat → Int32} {hgt : Nat} {g : Nat → Int32} (ht : t ≤ N) (hN : N ≤ 200) : (gc_root N f t acc env sf hgt g).2.2 ≤ N := gc_st_le ht hN _ _ _ (gc_cp_le ht hN (gc_cp_le ht hN (Nat.zero_le N)))
theorem gc_all_le {N : Nat} {f : Nat → Int32} {t : Nat} {acc env : Int32} {sf : Nat → Int32} {hgt : Nat} {g : Nat → Int32} (ht : t ≤ N) (hN : N ≤ 200) : (gc_all N f t acc env sf hgt g).2.2 ≤ N := gc_out_le ht hN _ _ _ (gc_root_le ht hN)
set_option maxHeartbeats 4000000 in
set_option maxRecDepth 100000 in
theorem l_stk {d k0 n0 k n : Nat} {Qr : Option Value → cj_G → Prop} {Qx : String → cj_G → Prop} (hd : 3 ≤ d) {m pg o sk ht a b c N t : Nat} {f sf : Nat → Int32} {acc env at9 hl rs tn9 : Int32} {G0 : cj_G} (h_m : G0 m = some (.inr (2, [.ref pg, .ref o, .ref sk, .int (nI ht), .int acc, .int env, .int at9, .int hl, .int rs]))) (h_a : G0 a = some (.inl (0, N, .inl f))) (h_sk : G0 sk = some (.inl (0, 40, .inl sf))) (n_a_b : a ≠ b) (n_a_c : a ≠ c) (n_b_c : b ≠ c) (n_sk_a : sk ≠ a) (n_sk_b : sk ≠ b) (n_sk_c : sk ≠ c) (hN : N ≤ 200) (ht9 : t ≤ N) (hht : ht ≤ 40) (n_m_o : m ≠ o) (n_a_o : a ≠ o) (n_sk_o : sk ≠ o) (n_m_b : m ≠ b) (n_m_c : m ≠ c) : ∀ (r i : Nat) (s : gc_S) (G : cj_G), i + r = ht → s.2.2 ≤ N → gc_po G0 o a b c N t s tn9 G → (∀ G' : cj_G, gc_po G0 o a b c N t (gc_st N f t sf r i s) tn9 G' → cj_J mX2_copyReachable d k0 n0 Qr Qx k n 70 [(0, .ref m)] [] G') → cj_J mX2_copyReachable d k0 n0 Qr Qx k n 33 [(1, .int (nI i)), (0, .ref m)] [] G := by
  intro r
  induction r with
  | zero =>
    intro i s G hi hle hpo kk
    obtain ⟨k_o, k_b, k_c, r0⟩ := hpo
    have k_m := r0 _ _ (cj_ni3 n_m_o n_m_b n_m_c) h_m
    have k_a := r0 _ _ (cj_ni3 n_a_o n_a_b n_a_c) h_a
    have k_sk := r0 _ _ (cj_ni3 n_sk_o n_sk_b n_sk_c) h_sk
    refine cj_iload_n dX2_copyReachable_33 rfl ?_
    refine cj_aload_n dX2_copyReachable_34 rfl ?_
    refine cj_get flX2_15 dX2_copyReachable_35 k_m rfl ?_
    refine cj_icmp_ge (tgt := 70) dX2_copyReachable_38 (by decide) (fun h1 => ?_) (fun h1 => absurd h1 (Classical.not_not.mpr (nI_le (by omega) (by omega))))
    exact cj_sub (lv' := [(0, .ref m)]) (by simp) (kk _ ⟨k_o, k_b, k_c, r0⟩)
  | succ r ih =>
    intro i s G hi hle hpo kk
    obtain ⟨k_o, k_b, k_c, r0⟩ := hpo
    have k_m := r0 _ _ (cj_ni3 n_m_o n_m_b n_m_c) h_m
    have k_a := r0 _ _ (cj_ni3 n_a_o n_a_b n_a_c) h_a
    have k_sk := r0 _ _ (cj_ni3 n_sk_o n_sk_b n_sk_c) h_sk
    refine cj_iload_n dX2_copyReachable_33 rfl ?_
    refine cj_aload_n dX2_copyReachable_34 rfl ?_
    refine cj_get flX2_15 dX2_copyReachable_35 k_m rfl ?_
    refine cj_icmp_ge (tgt := 70) dX2_copyReachable_38 (by decide) (fun h1 => absurd h1 (nI_ge (by omega) (by omega))) (fun h1 => ?_)
    refine cj_iload_n dX2_copyReachable_41 rfl ?_
    refine cj_aload_n dX2_copyReachable_42 rfl ?_
    refine cj_get flX2_9 dX2_copyReachable_43 k_m rfl ?_
    refine cj_alen (v := nI 40) dX2_copyReachable_46 k_sk rfl rfl ?_
    refine cj_icmp_ge (tgt := 70) dX2_copyReachable_47 (by decide) (fun h2 => absurd h2 (nI_ge (b := 40) (by omega) (by omega))) (fun h2 => ?_)
    refine cj_aload_n dX2_copyReachable_50 rfl ?_
    refine cj_get flX2_39 dX2_copyReachable_51 k_m rfl ?_
    refine cj_aload_n dX2_copyReachable_54 rfl ?_
    refine cj_get flX2_9 dX2_copyReachable_55 k_m rfl ?_
    refine cj_iload_n dX2_copyReachable_58 rfl ?_
    have i3 : vp_in (nI i) 40 := by
      exact vp_in_nI (by omega) (by decide)
    refine cj_iald dX2_copyReachable_59 k_sk i3 ?_
    refine cj_st (st' := [.int (sf i), .ref o]) (by rw [nI_clamp (by omega)]) ?_
    refine cj_callV (As := [.int (sf i)]) (rest := []) dX2_copyReachable_60 lkX2_107 mwX1_copy (t_copy k_o k_a k_b k_c n_a_b n_a_c n_b_c hN ht9 (hle)) (by omega) rfl rfl (Nat.le_of_ble_eq_true rfl) k_o rfl (fun v9 G5 q4 => ?_) (fun _ _ h => absurd h id)
    obtain ⟨rfl, k6, k7, k8, r9⟩ := q4
    have k10 : G5 m = some (.inr (2, [.ref pg, .ref o, .ref sk, .int (nI ht), .int acc, .int env, .int at9, .int hl, .int rs])) := r9 _ _ (cj_ni3 (cj_ne k_m k_o (by intro h; cases h)) (cj_ne k_m k_b (by intro h; cases h)) (cj_ne k_m k_c (by intro h; cases h))) k_m
    have k11 : G5 a = some (.inl (0, N, .inl f)) := r9 _ _ (cj_ni3 (cj_ne k_a k_o (by intro h; cases h)) n_a_b n_a_c) k_a
    have k12 : G5 sk = some (.inl (0, 40, .inl sf)) := r9 _ _ (cj_ni3 (cj_ne k_sk k_o (by intro h; cases h)) n_sk_b n_sk_c) k_sk
    have r13 : cj_fr [o, b, c] G0 G5 := cj_fr.trans r0 (cj_fr.mono r9 (by simp))
    refine cj_st (st' := [.int (gc_cp N f t s (sf i)).1]) rfl ?_
    refine cj_pop dX2_copyReachable_63 rfl ?_
    refine cj_iinc (v := nI (i + 1)) (lv' := [(1, .int (nI (i + 1))), (0, .ref m)]) dX2_copyReachable_64 rfl (nI_1 _) (by decide) rfl ?_
    refine cj_goto (tgt := 33) dX2_copyReachable_67 (by decide) ?_
    refine cj_sub (lv' := [(1, .int (nI (i + 1))), (0, .ref m)]) (by simp) ?_
    exact ih (i + 1) (gc_cp N f t s (sf i)).2 _ (by omega) (gc_cp_le ht9 hN hle) ⟨k6, k7, k8, r13⟩ kk
set_option maxHeartbeats 4000000 in
set_option maxRecDepth 100000 in
theorem t_copyReachable {G : cj_G} {m pg o sk ht a b c N t : Nat} {f g mv sf : Nat → Int32} {acc env at9 hl rs cp9 tn9 : Int32} (k_m : G m = some (.inr (2, [.ref pg, .ref o, .ref sk, .int (nI ht), .int acc, .int env, .int at9, .int hl, .int rs]))) (k_a : G a = some (.inl (0, N, .inl f))) (k_sk : G sk = some (.inl (0, 40, .inl sf))) (k_o : G o = some (.inr (1, [.ref a, .ref b, .ref c, .int (nI t), .int cp9, .int tn9]))) (k_b : G b = some (.inl (0, N, .inl g))) (k_c : G c = some (.inl (0, N, .inl mv))) (n_a_b : a ≠ b) (n_a_c : a ≠ c) (n_b_c : b ≠ c) (n_sk_a : sk ≠ a) (n_sk_b : sk ≠ b) (n_sk_c : sk ≠ c) (hN : N ≤ 200) (ht9 : t ≤ N) (hht : ht ≤ 40) : cj_T mX2_copyReachable 3 0 0 [.ref m] G (fun v G' => v = some (.int (nI (gc_all N f t acc env sf ht g).2.2)) ∧ gc_po G o a b c N t (gc_all N f t acc env sf ht g) tn9 G') (cj_no) := by
  have n_m_o : m ≠ o := cj_ne k_m k_o (by intro h; cases h)
  have n_a_o : a ≠ o := cj_ne k_a k_o (by intro h; cases h)
  have n_sk_o : sk ≠ o := cj_ne k_sk k_o (by intro h; cases h)
  have n_m_b : m ≠ b := cj_ne k_m k_b (by intro h; cases h)
  have n_m_c : m ≠ c := cj_ne k_m k_c (by intro h; cases h)
  refine cj_T_of (by decide) (Nat.le_of_ble_eq_true rfl) ?_
  refine cj_lvs (lv' := [(0, .ref m)]) rfl ?_
  refine cj_aload_n dX2_copyReachable_0 rfl ?_
  refine cj_get flX2_39 dX2_copyReachable_1 k_m rfl ?_
  refine cj_callV (As := []) (rest := []) dX2_copyReachable_4 lkX2_113 mwX1_beginCopy (t_beginCopy k_o k_c hN) (by omega) rfl rfl (Nat.le_of_ble_eq_true rfl) k_o rfl (fun v9 G2 q1 => ?_) (fun _ _ h => absurd h id)
  obtain ⟨rfl, k3, k4, r5⟩ := q1
  have k6 : G2 m = some (.inr (2, [.ref pg, .ref o, .ref sk, .int (nI ht), .int acc, .int env, .int at9, .int hl, .int rs])) := r5 _ _ (cj_ni2 (cj_ne k_m k_o (by intro h; cases h)) (cj_ne k_m k_c (by intro h; cases h))) k_m
  have k7 : G2 a = some (.inl (0, N, .inl f)) := r5 _ _ (cj_ni2 (cj_ne k_a k_o (by intro h; cases h)) n_a_c) k_a
  have k8 : G2 b = some (.inl (0, N, .inl g)) := r5 _ _ (cj_ni2 (cj_ne k_b k_o (by intro h; cases h)) n_b_c) k_b
  have k9 : G2 sk = some (.inl (0, 40, .inl sf)) := r5 _ _ (cj_ni2 (cj_ne k_sk k_o (by intro h; cases h)) n_sk_c) k_sk
  have r10 : cj_fr [o, b, c] G G2 := cj_fr.trans (cj_fr.rf (S := [o, b, c]) (G := G)) (cj_fr.mono r5 (by simp))
  refine cj_st (st' := []) rfl ?_
  refine cj_aload_n dX2_copyReachable_7 rfl ?_
  refine cj_get flX2_39 dX2_copyReachable_8 k6 rfl ?_
  refine cj_aload_n dX2_copyReachable_11 rfl ?_
  refine cj_get flX2_19 dX2_copyReachable_12 k6 rfl ?_
  refine cj_callV (As := [.int acc]) (rest := []) dX2_copyReachable_15 lkX2_107 mwX1_copy (t_copy k3 k7 k8 k4 n_a_b n_a_c n_b_c hN ht9 (Nat.zero_le N)) (by omega) rfl rfl (Nat.le_of_ble_eq_true rfl) k3 rfl (fun v9 G12 q11 => ?_) (fun _ _ h => absurd h id)
  obtain ⟨rfl, k13, k14, k15, r16⟩ := q11
  have k17 : G12 m = some (.inr (2, [.ref pg, .ref o, .ref sk, .int (nI ht), .int acc, .int env, .int at9, .int hl, .int rs])) := r16 _ _ (cj_ni3 (cj_ne k6 k3 (by intro h; cases h)) (cj_ne k6 k8 (by intro h; cases h)) (cj_ne k6 k4 (by intro h; cases h))) k6
  have k18 : G12 a = some (.inl (0, N, .inl f)) := r16 _ _ (cj_ni3 (cj_ne k7 k3 (by intro h; cases h)) n_a_b n_a_c) k7
  have k19 : G12 sk = some (.inl (0, 40, .inl sf)) := r16 _ _ (cj_ni3 (cj_ne k9 k3 (by intro h; cases h)) n_sk_b n_sk_c) k9
  have r20 : cj_fr [o, b, c] G G12 := cj_fr.trans r10 (cj_fr.mono r16 (by simp))
  refine cj_st (st' := [.int (gc_cp N f t (g, (fun _ => -1), 0) acc).1]) rfl ?_
  refine cj_pop dX2_copyReachable_18 rfl ?_
  refine cj_aload_n dX2_copyReachable_19 rfl ?_
  refine cj_get flX2_39 dX2_copyReachable_20 k17 rfl ?_
  refine cj_aload_n dX2_copyReachable_23 rfl ?_
  refine cj_get flX2_22 dX2_copyReachable_24 k17 rfl ?_
  refine cj_callV (As := [.int env]) (rest := []) dX2_copyReachable_27 lkX2_107 mwX1_copy (t_copy k13 k18 k14 k15 n_a_b n_a_c n_b_c hN ht9 (gc_cp_le ht9 hN (s := (g, (fun _ => -1), 0)) (Nat.zero_le N))) (by omega) rfl rfl (Nat.le_of_ble_eq_true rfl) k13 rfl (fun v9 G22 q21 => ?_) (fun _ _ h => absurd h id)
  obtain ⟨rfl, k23, k24, k25, r26⟩ := q21
  have k27 : G22 m = some (.inr (2, [.ref pg, .ref o, .ref sk, .int (nI ht), .int acc, .int env, .int at9, .int hl, .int rs])) := r26 _ _ (cj_ni3 (cj_ne k17 k13 (by intro h; cases h)) (cj_ne k17 k14 (by intro h; cases h)) (cj_ne k17 k15 (by intro h; cases h))) k17
  have k28 : G22 a = some (.inl (0, N, .inl f)) := r26 _ _ (cj_ni3 (cj_ne k18 k13 (by intro h; cases h)) n_a_b n_a_c) k18
  have k29 : G22 sk = some (.inl (0, 40, .inl sf)) := r26 _ _ (cj_ni3 (cj_ne k19 k13 (by intro h; cases h)) n_sk_b n_sk_c) k19
  have r30 : cj_fr [o, b, c] G G22 := cj_fr.trans r20 (cj_fr.mono r26 (by simp))
  refine cj_st (st' := [.int (gc_cp N f t (gc_cp N f t (g, (fun _ => -1), 0) acc).2 env).1]) rfl ?_
  refine cj_pop dX2_copyReachable_30 rfl ?_
  refine cj_iconst (v := 0) dX2_copyReachable_31 (by decide) ?_
  refine cj_istore_n (lv' := [(1, .int 0), (0, .ref m)]) dX2_copyReachable_32 (by decide) rfl ?_
  refine cj_sub (lv' := [(1, .int (nI 0)), (0, .ref m)]) (by simp [nI_0]) ?_
  refine l_stk (Nat.le_refl 3) k_m k_a k_sk n_a_b n_a_c n_b_c n_sk_a n_sk_b n_sk_c hN ht9 hht n_m_o n_a_o n_sk_o n_m_b n_m_c ht 0 (gc_cp N f t (gc_cp N f t (g, (fun _ => -1), 0) acc).2 env).2 _ (by omega) (gc_cp_le ht9 hN (gc_cp_le ht9 hN (s := (g, (fun _ => -1), 0)) (Nat.zero_le N))) ⟨k23, k24, k25, r30⟩ (fun G8 h8 => ?_)
  have h8 : gc_po G o a b c N t (gc_root N f t acc env sf ht g) tn9 G8 := h8
  obtain ⟨s8, e8⟩ : ∃ z, z = gc_root N f t acc env sf ht g := ⟨_, rfl⟩
  have l8 : s8.2.2 ≤ N := by rw [e8]; exact gc_root_le ht9 hN
  rw [← e8] at h8
  obtain ⟨k8_o, k8_b, k8_c, r8⟩ := h8
  have k8_m := r8 _ _ (cj_ni3 n_m_o n_m_b n_m_c) k_m
  have k8_a := r8 _ _ (cj_ni3 n_a_o n_a_b n_a_c) k_a
  have k8_sk := r8 _ _ (cj_ni3 n_sk_o n_sk_b n_sk_c) k_sk
  refine cj_aload_n dX2_copyReachable_70 rfl ?_
  refine cj_get flX2_39 dX2_copyReachable_71 k8_m rfl ?_
  refine cj_callV (As := []) (rest := []) dX2_copyReachable_74 lkX2_116 mwX1_copyTheRest (t_copyTheRest k8_o k8_a k8_b k8_c n_a_b n_a_c n_b_c hN ht9 l8) (by omega) rfl rfl (Nat.le_of_ble_eq_true rfl) k8_o rfl (fun v9 G102 q101 => ?_) (fun _ _ h => absurd h id)
  obtain ⟨rfl, k103, k104, k105, r106⟩ := q101
  have k107 : G102 m = some (.inr (2, [.ref pg, .ref o, .ref sk, .int (nI ht), .int acc, .int env, .int at9, .int hl, .int rs])) := r106 _ _ (cj_ni3 (cj_ne k8_m k8_o (by intro h; cases h)) (cj_ne k8_m k8_b (by intro h; cases h)) (cj_ne k8_m k8_c (by intro h; cases h))) k8_m
  have k108 : G102 a = some (.inl (0, N, .inl f)) := r106 _ _ (cj_ni3 (cj_ne k8_a k8_o (by intro h; cases h)) n_a_b n_a_c) k8_a
  have k109 : G102 sk = some (.inl (0, 40, .inl sf)) := r106 _ _ (cj_ni3 (cj_ne k8_sk k8_o (by intro h; cases h)) n_sk_b n_sk_c) k8_sk
  have r110 : cj_fr [o, b, c] G G102 := cj_fr.trans r8 (cj_fr.mono r106 (by simp))
  refine cj_st (st' := []) rfl ?_
  refine cj_aload_n dX2_copyReachable_77 rfl ?_
  refine cj_get flX2_39 dX2_copyReachable_78 k107 rfl ?_
  refine cj_get flX2_119 dX2_copyReachable_81 k103 rfl ?_
  refine cj_iret rfl dX2_copyReachable_84 ?_
  subst e8
  exact ⟨rfl, k103, k104, k105, r110⟩
/-- what a collection gives: accumulator, environment, stack, the other half's state -/
def gc_col (N : Nat) (f : Nat → Int32) (t : Nat) (acc env : Int32) (sf : Nat → Int32) (ht : Nat) (g : Nat → Int32) : Int32 × Int32 × (Nat → Int32) × gc_S :=
  ((gc_cp N f t (gc_all N f t acc env sf ht g) acc).1, (gc_cp N f t (gc_cp N f t (gc_all N f t acc env sf ht g) acc).2 env).1, gc_sm N f t ht 0 sf (gc_cp N f t (gc_cp N f t (gc_all N f t acc env sf ht g) acc).2 env).2)
set_option maxHeartbeats 4000000 in
set_option maxRecDepth 100000 in
theorem l_sm {d k0 n0 k n : Nat} {Qr : Option Value → cj_G → Prop} {Qx : String → cj_G → Prop} (hd : 3 ≤ d) {m pg o sk ht a b c N t : Nat} {f : Nat → Int32} {acc env at9 hl rs tn9 : Int32} (n_a_b : a ≠ b) (n_a_c : a ≠ c) (n_b_c : b ≠ c) (n_sk_a : sk ≠ a) (n_sk_b : sk ≠ b) (n_sk_c : sk ≠ c) (hN : N ≤ 200) (ht9 : t ≤ N) (hht : ht ≤ 40) : ∀ (r i : Nat) (sf : Nat → Int32) (s : gc_S) (G : cj_G), i + r = ht → s.2.2 ≤ N → G m = some (.inr (2, [.ref pg, .ref o, .ref sk, .int (nI ht), .int acc, .int env, .int at9, .int hl, .int rs])) → G sk = some (.inl (0, 40, .inl sf)) → G a = some (.inl (0, N, .inl f)) → gc_po G o a b c N t s tn9 G → (∀ G' : cj_G, G' m = some (.inr (2, [.ref pg, .ref o, .ref sk, .int (nI ht), .int acc, .int env, .int at9, .int hl, .int rs])) → G' sk = some (.inl (0, 40, .inl (gc_sm N f t r i sf s).1)) → G' a = some (.inl (0, N, .inl f)) → G' o = some (.inr (1, [.ref a, .ref b, .ref c, .int (nI t), .int (nI (gc_sm N f t r i sf s).2.2.2), .int tn9])) → G' b = some (.inl (0, N, .inl (gc_sm N f t r i sf s).2.1)) → G' c = some (.inl (0, N, .inl (gc_sm N f t r i sf s).2.2.1)) → cj_fr [m, o, b, c, sk] G G' → cj_J mX2_collect d k0 n0 Qr Qx k n 79 [(0, .ref m)] [] G') → cj_J mX2_collect d k0 n0 Qr Qx k n 37 [(1, .int (nI i)), (0, .ref m)] [] G := by
  intro r
  induction r with
  | zero =>
    intro i sf s G hi hle k_m k_sk k_a hpo kk
    obtain ⟨k_o, k_b, k_c, r0⟩ := hpo
    refine cj_iload_n dX2_collect_37 rfl ?_
    refine cj_aload_n dX2_collect_38 rfl ?_
    refine cj_get flX2_15 dX2_collect_39 k_m rfl ?_
    refine cj_icmp_ge (tgt := 79) dX2_collect_42 (by decide) (fun h1 => ?_) (fun h1 => absurd h1 (Classical.not_not.mpr (nI_le (by omega) (by omega))))
    exact cj_sub (lv' := [(0, .ref m)]) (by simp) (kk _ k_m k_sk k_a k_o k_b k_c (cj_fr.rf (S := [m, o, b, c, sk]) (G := G)))
  | succ r ih =>
    intro i sf s G hi hle k_m k_sk k_a hpo kk
    obtain ⟨k_o, k_b, k_c, r0⟩ := hpo
    refine cj_iload_n dX2_collect_37 rfl ?_
    refine cj_aload_n dX2_collect_38 rfl ?_
    refine cj_get flX2_15 dX2_collect_39 k_m rfl ?_
    refine cj_icmp_ge (tgt := 79) dX2_collect_42 (by decide) (fun h1 => absurd h1 (nI_ge (by omega) (by omega))) (fun h1 => ?_)
    refine cj_iload_n dX2_collect_45 rfl ?_
    refine cj_aload_n dX2_collect_46 rfl ?_
    refine cj_get flX2_9 dX2_collect_47 k_m rfl ?_
    refine cj_alen (v := nI 40) dX2_collect_50 k_sk rfl rfl ?_
    refine cj_icmp_ge (tgt := 79) dX2_collect_51 (by decide) (fun h2 => absurd h2 (nI_ge (b := 40) (by omega) (by omega))) (fun h2 => ?_)
    refine cj_aload_n dX2_collect_54 rfl ?_
    refine cj_get flX2_9 dX2_collect_55 k_m rfl ?_
    refine cj_iload_n dX2_collect_58 rfl ?_
    refine cj_aload_n dX2_collect_59 rfl ?_
    refine cj_get flX2_39 dX2_collect_60 k_m rfl ?_
    refine cj_aload_n dX2_collect_63 rfl ?_
    refine cj_get flX2_9 dX2_collect_64 k_m rfl ?_
    refine cj_iload_n dX2_collect_67 rfl ?_
    have i3 : vp_in (nI i) 40 := by
      exact vp_in_nI (by omega) (by decide)
    refine cj_iald dX2_collect_68 k_sk i3 ?_
    refine cj_st (st' := [.int (sf i), .ref o, .int (nI i), .ref sk]) (by rw [nI_clamp (by omega)]) ?_
    refine cj_callV (As := [.int (sf i)]) (rest := [.int (nI i), .ref sk]) dX2_collect_69 lkX2_107 mwX1_copy (t_copy k_o k_a k_b k_c n_a_b n_a_c n_b_c hN ht9 (hle)) (by omega) rfl rfl (Nat.le_of_ble_eq_true rfl) k_o rfl (fun v9 G5 q4 => ?_) (fun _ _ h => absurd h id)
    obtain ⟨rfl, k6, k7, k8, r9⟩ := q4
    have k10 : G5 m = some (.inr (2, [.ref pg, .ref o, .ref sk, .int (nI ht), .int acc, .int env, .int at9, .int hl, .int rs])) := r9 _ _ (cj_ni3 (cj_ne k_m k_o (by intro h; cases h)) (cj_ne k_m k_b (by intro h; cases h)) (cj_ne k_m k_c (by intro h; cases h))) k_m
    have k11 : G5 a = some (.inl (0, N, .inl f)) := r9 _ _ (cj_ni3 (cj_ne k_a k_o (by intro h; cases h)) n_a_b n_a_c) k_a
    have k12 : G5 sk = some (.inl (0, 40, .inl sf)) := r9 _ _ (cj_ni3 (cj_ne k_sk k_o (by intro h; cases h)) n_sk_b n_sk_c) k_sk
    have r13 : cj_fr [m, o, b, c, sk] G G5 := cj_fr.trans (cj_fr.rf (S := [m, o, b, c, sk]) (G := G)) (cj_fr.mono r9 (by simp))
    refine cj_st (st' := [.int (gc_cp N f t s (sf i)).1, .int (nI i), .ref sk]) rfl ?_
    have i14 : vp_in (nI i) 40 := by
      exact vp_in_nI (by omega) (by decide)
    refine cj_iast dX2_collect_72 k12 i14 ?_
    refine cj_eqG (G' := cj_up G5 sk (.inl (0, 40, .inl (upd sf i (gc_cp N f t s (sf i)).1)))) (by rw [nI_clamp (by omega)]) ?_
    refine cj_nm (fun G15 e16 => ?_)
    have k17 : G15 m = some (.inr (2, [.ref pg, .ref o, .ref sk, .int (nI ht), .int acc, .int env, .int at9, .int hl, .int rs])) := by rw [e16, cj_up_n (cj_ne k10 k12 (by intro h; cases h))]; exact k10
    have k18 : G15 o = some (.inr (1, [.ref a, .ref b, .ref c, .int (nI t), .int (nI (gc_cp N f t s (sf i)).2.2.2), .int tn9])) := by rw [e16, cj_up_n (cj_ne k6 k12 (by intro h; cases h))]; exact k6
    have k19 : G15 a = some (.inl (0, N, .inl f)) := by rw [e16, cj_up_n (Ne.symm n_sk_a)]; exact k11
    have k20 : G15 b = some (.inl (0, N, .inl (gc_cp N f t s (sf i)).2.1)) := by rw [e16, cj_up_n (Ne.symm n_sk_b)]; exact k7
    have k21 : G15 c = some (.inl (0, N, .inl (gc_cp N f t s (sf i)).2.2.1)) := by rw [e16, cj_up_n (Ne.symm n_sk_c)]; exact k8
    have k22 : G15 sk = some (.inl (0, 40, .inl (upd sf i (gc_cp N f t s (sf i)).1))) := by rw [e16]; exact cj_up_s
    have r23 : cj_fr [m, o, b, c, sk] G G15 := by rw [e16]; exact cj_fr.up r13 (by simp)
    refine cj_iinc (v := nI (i + 1)) (lv' := [(1, .int (nI (i + 1))), (0, .ref m)]) dX2_collect_73 rfl (nI_1 _) (by decide) rfl ?_
    refine cj_goto (tgt := 37) dX2_collect_76 (by decide) ?_
    refine cj_sub (lv' := [(1, .int (nI (i + 1))), (0, .ref m)]) (by simp) ?_
    refine ih (i + 1) (upd sf i (gc_cp N f t s (sf i)).1) (gc_cp N f t s (sf i)).2 _ (by omega) (gc_cp_le ht9 hN hle) k17 k22 k19 ⟨k18, k20, k21, cj_fr.rf⟩ (fun G9 j1 j2 j3 j4 j5 j6 j7 => kk G9 j1 j2 j3 j4 j5 j6 (cj_fr.trans r23 j7))
set_option maxHeartbeats 4000000 in
set_option maxRecDepth 100000 in
theorem t_collect {G : cj_G} {m pg o sk ht a b c N t : Nat} {f g mv sf : Nat → Int32} {acc env at9 hl rs cp9 tn9 : Int32} (k_m : G m = some (.inr (2, [.ref pg, .ref o, .ref sk, .int (nI ht), .int acc, .int env, .int at9, .int hl, .int rs]))) (k_a : G a = some (.inl (0, N, .inl f))) (k_sk : G sk = some (.inl (0, 40, .inl sf))) (k_o : G o = some (.inr (1, [.ref a, .ref b, .ref c, .int (nI t), .int cp9, .int tn9]))) (k_b : G b = some (.inl (0, N, .inl g))) (k_c : G c = some (.inl (0, N, .inl mv))) (n_a_b : a ≠ b) (n_a_c : a ≠ c) (n_b_c : b ≠ c) (n_sk_a : sk ≠ a) (n_sk_b : sk ≠ b) (n_sk_c : sk ≠ c) (hN : N ≤ 200) (ht9 : t ≤ N) (hht : ht ≤ 40) : cj_T mX2_collect 4 0 0 [.ref m] G (fun v G' => v = none ∧ G' m = some (.inr (2, [.ref pg, .ref o, .ref sk, .int (nI ht), .int (gc_col N f t acc env sf ht g).1, .int (gc_col N f t acc env sf ht g).2.1, .int at9, .int hl, .int rs])) ∧ G' o = some (.inr (1, [.ref b, .ref a, .ref c, .int (nI (gc_col N f t acc env sf ht g).2.2.2.2.2), .int (nI (gc_col N f t acc env sf ht g).2.2.2.2.2), .int (tn9 + 1)])) ∧ G' b = some (.inl (0, N, .inl (gc_col N f t acc env sf ht g).2.2.2.1)) ∧ G' c = some (.inl (0, N, .inl (gc_col N f t acc env sf ht g).2.2.2.2.1)) ∧ G' sk = some (.inl (0, 40, .inl (gc_col N f t acc env sf ht g).2.2.1)) ∧ cj_fr [m, o, b, c, sk] G G') (cj_no) := by
  refine cj_T_of (by decide) (Nat.le_of_ble_eq_true rfl) ?_
  refine cj_lvs (lv' := [(0, .ref m)]) rfl ?_
  refine cj_aload_n dX2_collect_0 rfl ?_
  refine cj_callV (As := []) (rest := []) dX2_collect_1 lkX2_104 mwX2_copyReachable (t_copyReachable k_m k_a k_sk k_o k_b k_c n_a_b n_a_c n_b_c n_sk_a n_sk_b n_sk_c hN ht9 hht) (by omega) rfl rfl (Nat.le_of_ble_eq_true rfl) k_m rfl (fun v9 G2 q1 => ?_) (fun _ _ h => absurd h id)
  obtain ⟨rfl, k3, k4, k5, r6⟩ := q1
  have k7 : G2 m = some (.inr (2, [.ref pg, .ref o, .ref sk, .int (nI ht), .int acc, .int env, .int at9, .int hl, .int rs])) := r6 _ _ (cj_ni3 (cj_ne k_m k_o (by intro h; cases h)) (cj_ne k_m k_b (by intro h; cases h)) (cj_ne k_m k_c (by intro h; cases h))) k_m
  have k8 : G2 a = some (.inl (0, N, .inl f)) := r6 _ _ (cj_ni3 (cj_ne k_a k_o (by intro h; cases h)) n_a_b n_a_c) k_a
  have k9 : G2 sk = some (.inl (0, 40, .inl sf)) := r6 _ _ (cj_ni3 (cj_ne k_sk k_o (by intro h; cases h)) n_sk_b n_sk_c) k_sk
  have r10 : cj_fr [m, o, b, c, sk] G G2 := cj_fr.trans (cj_fr.rf (S := [m, o, b, c, sk]) (G := G)) (cj_fr.mono r6 (by simp))
  refine cj_st (st' := [.int (nI (gc_all N f t acc env sf ht g).2.2)]) rfl ?_
  refine cj_pop dX2_collect_4 rfl ?_
  refine cj_aload_n dX2_collect_5 rfl ?_
  refine cj_aload_n dX2_collect_6 rfl ?_
  refine cj_get flX2_39 dX2_collect_7 k7 rfl ?_
  refine cj_aload_n dX2_collect_10 rfl ?_
  refine cj_get flX2_19 dX2_collect_11 k7 rfl ?_
  refine cj_callV (As := [.int acc]) (rest := [.ref m]) dX2_collect_14 lkX2_107 mwX1_copy (t_copy k3 k8 k4 k5 n_a_b n_a_c n_b_c hN ht9 (gc_all_le ht9 hN)) (by omega) rfl rfl (Nat.le_of_ble_eq_true rfl) k3 rfl (fun v9 G12 q11 => ?_) (fun _ _ h => absurd h id)
  obtain ⟨rfl, k13, k14, k15, r16⟩ := q11
  have k17 : G12 m = some (.inr (2, [.ref pg, .ref o, .ref sk, .int (nI ht), .int acc, .int env, .int at9, .int hl, .int rs])) := r16 _ _ (cj_ni3 (cj_ne k7 k3 (by intro h; cases h)) (cj_ne k7 k4 (by intro h; cases h)) (cj_ne k7 k5 (by intro h; cases h))) k7
  have k18 : G12 a = some (.inl (0, N, .inl f)) := r16 _ _ (cj_ni3 (cj_ne k8 k3 (by intro h; cases h)) n_a_b n_a_c) k8
  have k19 : G12 sk = some (.inl (0, 40, .inl sf)) := r16 _ _ (cj_ni3 (cj_ne k9 k3 (by intro h; cases h)) n_sk_b n_sk_c) k9
  have r20 : cj_fr [m, o, b, c, sk] G G12 := cj_fr.trans r10 (cj_fr.mono r16 (by simp))
  refine cj_st (st' := [.int (gc_cp N f t (gc_all N f t acc env sf ht g) acc).1, .ref m]) rfl ?_
  refine cj_put flX2_19 dX2_collect_17 k17 rfl rfl (Nat.le_of_ble_eq_true rfl) ?_
  refine cj_nm (fun G21 e22 => ?_)
  have k23 : G21 m = some (.inr (2, [.ref pg, .ref o, .ref sk, .int (nI ht), .int (gc_cp N f t (gc_all N f t acc env sf ht g) acc).1, .int env, .int at9, .int hl, .int rs])) := by rw [e22]; exact cj_up_s
  have k24 : G21 o = some (.inr (1, [.ref a, .ref b, .ref c, .int (nI t), .int (nI (gc_cp N f t (gc_all N f t acc env sf ht g) acc).2.2.2), .int tn9])) := by rw [e22, cj_up_n (cj_ne k13 k17 (by intro h; cases h))]; exact k13
  have k25 : G21 a = some (.inl (0, N, .inl f)) := by rw [e22, cj_up_n (cj_ne k18 k17 (by intro h; cases h))]; exact k18
  have k26 : G21 b = some (.inl (0, N, .inl (gc_cp N f t (gc_all N f t acc env sf ht g) acc).2.1)) := by rw [e22, cj_up_n (cj_ne k14 k17 (by intro h; cases h))]; exact k14
  have k27 : G21 c = some (.inl (0, N, .inl (gc_cp N f t (gc_all N f t acc env sf ht g) acc).2.2.1)) := by rw [e22, cj_up_n (cj_ne k15 k17 (by intro h; cases h))]; exact k15
  have k28 : G21 sk = some (.inl (0, 40, .inl sf)) := by rw [e22, cj_up_n (cj_ne k19 k17 (by intro h; cases h))]; exact k19
  have r29 : cj_fr [m, o, b, c, sk] G G21 := by rw [e22]; exact cj_fr.up r20 (by simp)
  refine cj_aload_n dX2_collect_20 rfl ?_
  refine cj_aload_n dX2_collect_21 rfl ?_
  refine cj_get flX2_39 dX2_collect_22 k23 rfl ?_
  refine cj_aload_n dX2_collect_25 rfl ?_
  refine cj_get flX2_22 dX2_collect_26 k23 rfl ?_
  refine cj_callV (As := [.int env]) (rest := [.ref m]) dX2_collect_29 lkX2_107 mwX1_copy (t_copy k24 k25 k26 k27 n_a_b n_a_c n_b_c hN ht9 (gc_cp_le ht9 hN (gc_all_le ht9 hN))) (by omega) rfl rfl (Nat.le_of_ble_eq_true rfl) k24 rfl (fun v9 G31 q30 => ?_) (fun _ _ h => absurd h id)
  obtain ⟨rfl, k32, k33, k34, r35⟩ := q30
  have k36 : G31 m = some (.inr (2, [.ref pg, .ref o, .ref sk, .int (nI ht), .int (gc_cp N f t (gc_all N f t acc env sf ht g) acc).1, .int env, .int at9, .int hl, .int rs])) := r35 _ _ (cj_ni3 (cj_ne k23 k24 (by intro h; cases h)) (cj_ne k23 k26 (by intro h; cases h)) (cj_ne k23 k27 (by intro h; cases h))) k23
  have k37 : G31 a = some (.inl (0, N, .inl f)) := r35 _ _ (cj_ni3 (cj_ne k25 k24 (by intro h; cases h)) n_a_b n_a_c) k25
  have k38 : G31 sk = some (.inl (0, 40, .inl sf)) := r35 _ _ (cj_ni3 (cj_ne k28 k24 (by intro h; cases h)) n_sk_b n_sk_c) k28
  have r39 : cj_fr [m, o, b, c, sk] G G31 := cj_fr.trans r29 (cj_fr.mono r35 (by simp))
  refine cj_st (st' := [.int (gc_cp N f t (gc_cp N f t (gc_all N f t acc env sf ht g) acc).2 env).1, .ref m]) rfl ?_
  refine cj_put flX2_22 dX2_collect_32 k36 rfl rfl (Nat.le_of_ble_eq_true rfl) ?_
  refine cj_nm (fun G40 e41 => ?_)
  have k42 : G40 m = some (.inr (2, [.ref pg, .ref o, .ref sk, .int (nI ht), .int (gc_cp N f t (gc_all N f t acc env sf ht g) acc).1, .int (gc_cp N f t (gc_cp N f t (gc_all N f t acc env sf ht g) acc).2 env).1, .int at9, .int hl, .int rs])) := by rw [e41]; exact cj_up_s
  have k43 : G40 o = some (.inr (1, [.ref a, .ref b, .ref c, .int (nI t), .int (nI (gc_cp N f t (gc_cp N f t (gc_all N f t acc env sf ht g) acc).2 env).2.2.2), .int tn9])) := by rw [e41, cj_up_n (cj_ne k32 k36 (by intro h; cases h))]; exact k32
  have k44 : G40 a = some (.inl (0, N, .inl f)) := by rw [e41, cj_up_n (cj_ne k37 k36 (by intro h; cases h))]; exact k37
  have k45 : G40 b = some (.inl (0, N, .inl (gc_cp N f t (gc_cp N f t (gc_all N f t acc env sf ht g) acc).2 env).2.1)) := by rw [e41, cj_up_n (cj_ne k33 k36 (by intro h; cases h))]; exact k33
  have k46 : G40 c = some (.inl (0, N, .inl (gc_cp N f t (gc_cp N f t (gc_all N f t acc env sf ht g) acc).2 env).2.2.1)) := by rw [e41, cj_up_n (cj_ne k34 k36 (by intro h; cases h))]; exact k34
  have k47 : G40 sk = some (.inl (0, 40, .inl sf)) := by rw [e41, cj_up_n (cj_ne k38 k36 (by intro h; cases h))]; exact k38
  have r48 : cj_fr [m, o, b, c, sk] G G40 := by rw [e41]; exact cj_fr.up r39 (by simp)
  refine cj_iconst (v := 0) dX2_collect_35 (by decide) ?_
  refine cj_istore_n (lv' := [(1, .int 0), (0, .ref m)]) dX2_collect_36 (by decide) rfl ?_
  refine cj_sub (lv' := [(1, .int (nI 0)), (0, .ref m)]) (by simp [nI_0]) ?_
  refine l_sm (by decide) n_a_b n_a_c n_b_c n_sk_a n_sk_b n_sk_c hN ht9 hht ht 0 sf (gc_cp N f t (gc_cp N f t (gc_all N f t acc env sf ht g) acc).2 env).2 _ (by omega) (gc_cp_le ht9 hN (gc_cp_le ht9 hN (gc_all_le ht9 hN))) k42 k47 k44 ⟨k43, k45, k46, cj_fr.rf⟩ (fun G8 k8_m k8_sk k8_a k8_o k8_b k8_c r8 => ?_)
  have k9_m : G8 m = some (.inr (2, [.ref pg, .ref o, .ref sk, .int (nI ht), .int (gc_col N f t acc env sf ht g).1, .int (gc_col N f t acc env sf ht g).2.1, .int at9, .int hl, .int rs])) := k8_m
  have k9_o : G8 o = some (.inr (1, [.ref a, .ref b, .ref c, .int (nI t), .int (nI (gc_col N f t acc env sf ht g).2.2.2.2.2), .int tn9])) := k8_o
  have k9_b : G8 b = some (.inl (0, N, .inl (gc_col N f t acc env sf ht g).2.2.2.1)) := k8_b
  have k9_c : G8 c = some (.inl (0, N, .inl (gc_col N f t acc env sf ht g).2.2.2.2.1)) := k8_c
  have k9_sk : G8 sk = some (.inl (0, 40, .inl (gc_col N f t acc env sf ht g).2.2.1)) := k8_sk
  have k9_a : G8 a = some (.inl (0, N, .inl f)) := k8_a
  have r9 : cj_fr [m, o, b, c, sk] G G8 := cj_fr.trans r48 r8
  refine cj_aload_n dX2_collect_79 rfl ?_
  refine cj_get flX2_39 dX2_collect_80 k9_m rfl ?_
  refine cj_callV (As := []) (rest := []) dX2_collect_83 lkX2_110 mwX1_useOtherHalf (t_useOtherHalf k9_o) (by omega) rfl rfl (Nat.le_of_ble_eq_true rfl) k9_o rfl (fun v9 G202 q201 => ?_) (fun _ _ h => absurd h id)
  obtain ⟨rfl, k203, r204⟩ := q201
  have k205 : G202 m = some (.inr (2, [.ref pg, .ref o, .ref sk, .int (nI ht), .int (gc_col N f t acc env sf ht g).1, .int (gc_col N f t acc env sf ht g).2.1, .int at9, .int hl, .int rs])) := r204 _ _ (cj_ni1 (cj_ne k9_m k9_o (by intro h; cases h))) k9_m
  have k206 : G202 a = some (.inl (0, N, .inl f)) := r204 _ _ (cj_ni1 (cj_ne k9_a k9_o (by intro h; cases h))) k9_a
  have k207 : G202 b = some (.inl (0, N, .inl (gc_col N f t acc env sf ht g).2.2.2.1)) := r204 _ _ (cj_ni1 (cj_ne k9_b k9_o (by intro h; cases h))) k9_b
  have k208 : G202 c = some (.inl (0, N, .inl (gc_col N f t acc env sf ht g).2.2.2.2.1)) := r204 _ _ (cj_ni1 (cj_ne k9_c k9_o (by intro h; cases h))) k9_c
  have k209 : G202 sk = some (.inl (0, 40, .inl (gc_col N f t acc env sf ht g).2.2.1)) := r204 _ _ (cj_ni1 (cj_ne k9_sk k9_o (by intro h; cases h))) k9_sk
  have r210 : cj_fr [m, o, b, c, sk] G G202 := cj_fr.trans r9 (cj_fr.mono r204 (by simp))
  refine cj_st (st' := []) rfl ?_
  refine cj_vret rfl dX2_collect_86 ?_
  exact ⟨rfl, k205, k203, k207, k208, k209, r210⟩
