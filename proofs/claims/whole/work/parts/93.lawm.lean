/-! run, on both sides -/
section LRU
variable {I ad : Nat → Nat} {N : Nat} {s : ls_T} {S : rm_S}
theorem lx_run {a1 : Int32} (hN : N ≤ 200) (hN0 : 0 < N) (hI : ID I ad) (hA : AX N s) (hR : RX N s S) : ∃ (k dn : Nat) (s' : ls_T), k ≤ 3 ∧ s'.1 = s.1 ∧ AX N s' ∧ (∀ G : cj_G, LWP I ad N s S G → cj_T mX6_run 8 1 6 [.ref (I 0), .int a1] G (fun v G' => k = 0 ∧ v = some (.int (nI dn)) ∧ LWP I ad N s' S G') (fun E G' => LWP I ad N s' S G' ∧ ((k = 1 ∧ E = "java/lang/IllegalArgumentException") ∨ (k = 2 ∧ E = "java/lang/IllegalStateException") ∨ (k = 3 ∧ E = "java/lang/UnsupportedOperationException")))) ∧ (∀ Q : Int32 → rm_S → Prop, (∀ (v : Int32) (S' : rm_S), RX N s' S' → S'.1 0 = nI k → (k = 0 → v = nI dn) → Q v S') → wp_run S a1 Q) := by
  have hC := hA.2.2.1
  by_cases hr : a1 < 0 ∨ ¬ a1 ≤ 500
  · refine ⟨1, 0, s, by omega, rfl, hA, fun G h => ?_, fun Q hQ => ?_⟩
    · exact cj_T.mono (t_run_i hr) (fun v G' q => absurd q id) (fun E G' q => ⟨by rw [q.2]; exact h, Or.inl ⟨rfl, q.1⟩⟩)
    · exact r_run_i hr (hQ _ _ (rx_0 (rx_0 hR)) rfl (fun h9 => absurd h9 (by omega)))
  have h1 : ¬ a1 < 0 := fun h9 => hr (Or.inl h9)
  have h2 : a1 ≤ 500 := Classical.byContradiction fun h9 => hr (Or.inr h9)
  by_cases hc : mc_cond s.2.2.1.length s.2.2.2.2.1 s.2.2.2.2.2.1 = 1
  · obtain ⟨ct, w, C, A, hl, rs, il⟩ := s
    have hc : mc_cond C.length hl rs = 1 := hc
    have hlen : ¬ C.length = 0 := fun h9 => by unfold mc_cond at hc; rw [if_pos h9] at hc; exact absurd hc (by decide)
    have hhl : hl = 0 := Classical.byContradiction fun h9 => by unfold mc_cond at hc; rw [if_neg hlen, if_pos h9] at hc; exact absurd hc (by decide)
    have hrs : rs = 0 := Classical.byContradiction fun h9 => by unfold mc_cond at hc; rw [if_neg hlen, if_neg (fun h8 => h8 hhl), if_neg h9] at hc; exact absurd hc (by decide)
    subst hhl hrs
    have hT : ∃ T : Nat → lb_T, MIA C T N A ∧ ∀ i, i < C.length → cok C T i := by
      rcases hA.2.2.2 with ⟨h9, _⟩ | h9
      · have h9 : C = [] := h9
        exact absurd (by rw [h9]; rfl) hlen
      · exact h9
    obtain ⟨T, hm, hcok⟩ := hT
    obtain ⟨e1, l1⟩ := nI_clm h1
    have hq : a1.toNatClampNeg ≤ 500 := Classical.byContradiction fun h9 => absurd h2 (by rw [← e1]; exact nI_ge (a := 500) (by omega) l1)
    obtain ⟨dn, r, A', u1, u2, u3, u4⟩ := am_run hC hcok a1.toNatClampNeg A hm
    obtain ⟨r1, r2, r3, r4, ⟨s0, hk⟩, r6, r7⟩ := hR
    have hkd : ∃ k : Nat, k ≤ 3 ∧ ((k = 0 ∧ (r = 0 ∨ r = 4)) ∨ (k = 3 ∧ 1 ≤ r ∧ r ≤ 3)) := by
      by_cases h9 : r = 0 ∨ r = 4
      · exact ⟨0, by omega, Or.inl ⟨rfl, h9⟩⟩
      · exact ⟨3, by omega, Or.inr ⟨rfl, by omega⟩⟩
    obtain ⟨k, hk3, hkr⟩ := hkd
    refine ⟨k, dn, (ct, w, C, A', e_hl r, e_rs r, il), hk3, rfl, ⟨hA.1, hA.2.1, hC, Or.inr ⟨T, u2, hcok⟩⟩, fun G h => ?_, fun Q hQ => ?_⟩
    · obtain ⟨h1, h2, ⟨rl, ra, rb, h3⟩, ⟨g3, h4, h5⟩, ⟨g4, h6, h7⟩, h8⟩ := h.1
      have step : ∀ G' : cj_G, CM (I 7) (I 5) (I 6) (I 8) (I 9) (I 10) (I 11) (I 12) N C A' (e_hl r) (e_rs r) G' → cj_fr [I 7, I 8, I 10, I 11, I 12, I 9] G G' → LWP I ad N (ct, w, C, A', e_hl r, e_rs r, il) S G' := fun G' z1 z2 => by
        have keep : ∀ (i : Nat) (v : cj_E), i < 5 → G (I i) = some v → G' (I i) = some v := fun i v hi hv => z2 _ _ (cj_ni6 (hI.ne (by omega) (by omega) (by omega)) (hI.ne (by omega) (by omega) (by omega)) (hI.ne (by omega) (by omega) (by omega)) (hI.ne (by omega) (by omega) (by omega)) (hI.ne (by omega) (by omega) (by omega)) (hI.ne (by omega) (by omega) (by omega))) hv
        refine lp_cls hI (F := [I 7, I 8, I 10, I 11, I 12, I 9]) (fun z hz => ?_) z2 h ⟨keep 0 _ (by omega) h1, keep 1 _ (by omega) h2, ⟨rl, ra, rb, keep 2 _ (by omega) h3⟩, ⟨g3, keep 3 _ (by omega) h4, h5⟩, ⟨g4, keep 4 _ (by omega) h6, h7⟩, z1⟩
        simp only [List.mem_cons, List.not_mem_nil, or_false] at hz
        rcases hz with rfl | rfl | rfl | rfl | rfl | rfl
        · exact ⟨7, by omega, rfl⟩
        · exact ⟨8, by omega, rfl⟩
        · exact ⟨10, by omega, rfl⟩
        · exact ⟨11, by omega, rfl⟩
        · exact ⟨12, by omega, rfl⟩
        · exact ⟨9, by omega, rfl⟩
      have := t_run_g (T := T) hN hq h1 hC hcok hm h8 u1 u4
      rw [e1] at this
      refine cj_T.mono this (fun v G' q => ?_) (fun E G' q => ?_)
      · obtain ⟨z0, z1, z2, z3'⟩ := q
        exact ⟨by omega, z1, step G' z2 z3'⟩
      · obtain ⟨z0, z1, z2, z3'⟩ := q
        exact ⟨step G' z2 z3', Or.inr (Or.inr ⟨by omega, z1⟩)⟩
    · have h54 : S.1 54 = 1 := by rw [r6]; exact hc
      rw [← e1]
      refine r_run hN hN0 hC hcok hq hm hk h54 u1 u4 (fun s1 S' g1 g2 g3 g4 => ?_)
      have e54 : e_54 r 1 = mc_cond C.length (e_hl r) (e_rs r) := by
        unfold mc_cond
        rw [if_neg hlen]
        have hrr : r = 0 ∨ r = 1 ∨ r = 2 ∨ r = 3 ∨ r = 4 := by omega
        rcases hrr with rfl | rfl | rfl | rfl | rfl <;> decide
      have e55 : e_55 r (S.1 55) = e_rs r := by
        rw [r7]
        show e_55 r 0 = e_rs r
        have hrr : r = 0 ∨ r = 1 ∨ r = 2 ∨ r = 3 ∨ r = 4 := by omega
        rcases hrr with rfl | rfl | rfl | rfl | rfl <;> decide
      have hRX : RX N (ct, w, C, A', e_hl r, e_rs r, il) S' := ⟨(g2.1 1 (by omega)).trans r1, fun j hj => by rw [g2.2 2 (by omega)]; exact r2 j hj, (g2.1 7 (by omega)).trans r3, (g2.1 37 (by omega)).trans r4, ⟨s1, g1⟩, g3.trans e54, g4.trans e55⟩
      refine ⟨fun h9 => hQ _ S' hRX ?_ (fun _ => rfl), fun h9 => hQ _ _ (rx_0 hRX) ?_ (fun h8 => absurd h8 (by omega))⟩
      · have ek : k = 0 := by omega
        rw [ek, g2.1 0 (by omega)]; rfl
      · have ek : k = 3 := by omega
        rw [ek, pf_s]; rfl
  · refine ⟨2, 0, s, by omega, rfl, hA, fun G h => ?_, fun Q hQ => ?_⟩
    · exact cj_T.mono (t_run_s h1 h2 h.1.1 hC h.1.2.2.2.2.2 hc) (fun v G' q => absurd q id) (fun E G' q => ⟨by rw [q.2]; exact h, Or.inr (Or.inl ⟨rfl, q.1⟩)⟩)
    · exact r_run_s h1 h2 (by rw [hR.2.2.2.2.2.1]; exact hc) (hQ _ _ (rx_0 (rx_0 hR)) rfl (fun h9 => absurd h9 (by omega)))
end LRU
/-! THE LAW'S SMALL METHODS -/
section CIN
variable {E : State → (Nat → Prop) → Code → Prop} {M : cj_M} {d k0 n0 k n pc pc' : Nat} {Qr : Option Value → cj_G → Prop} {Qx : String → cj_G → Prop} {lv lv' : List (Nat × Value)} {st st' : List Value} {G : cj_G}
theorem ci_nm (h : ∀ G1 : cj_G, G1 = G → ci_J E M d k0 n0 Qr Qx k n pc lv st G1) : ci_J E M d k0 n0 Qr Qx k n pc lv st G := h G rfl
theorem ci_st (h : st = st') (kk : ci_J E M d k0 n0 Qr Qx k n pc lv st' G) : ci_J E M d k0 n0 Qr Qx k n pc lv st G := h ▸ kk
theorem ci_lvs (h : lv = lv') (kk : ci_J E M d k0 n0 Qr Qx k n pc lv' st G) : ci_J E M d k0 n0 Qr Qx k n pc lv st G := h ▸ kk
theorem ci_pc (h : pc = pc') (kk : ci_J E M d k0 n0 Qr Qx k n pc' lv st G) : ci_J E M d k0 n0 Qr Qx k n pc lv st G := h ▸ kk
end CIN
def ex_S (b L : Nat) (xs : Nat → Int32) : State → (Nat → Prop) → Code → Prop := fun s A _ => va_X b L xs s s.heap ∧ b < s.heap.size ∧ ¬ A b
def ey_S (b L : Nat) (xs : Nat → Int32) : State → Prop := fun U => va_X b L xs U U.heap ∧ b < U.heap.size
theorem ey_bl {b L : Nat} {xs : Nat → Int32} : ci_bl (ey_S b L xs) := fun U g mk a h => ⟨va_X.moved (u := U) (U := U.calling g mk a) (Vm.Alike.refl U.vm) h.1, h.2⟩
theorem t_cell {b L : Nat} {xs : Nat → Int32} {G : cj_G} (hL : L ≤ 1537) (hb : G b = none) : ci_T (.code mL_cell.1 mL_cell.2.1 mL_cell.2.2.1 mL_cell.2.2.2) (ey_S b L xs) mL_cell 0 0 0 [.ref b, .int 0] G (fun v G' => v = some (.int (if 0 < L then xs 0 else 0)) ∧ G' = G) := by
  refine ci_T_of (E := ex_S b L xs) (by decide) (Nat.le_of_ble_eq_true rfl) (fun s c hY => ⟨hY.1, hY.2, fun h9 => ?_⟩) ?_
  · rcases h9 with h9 | h9
    · exact h9 hb
    · have := hY.2; omega
  refine ci_lvs (lv' := [(0, .ref b), (1, .int 0)]) rfl ?_
  refine ci_iload_n dL_cell_0 rfl ?_
  refine ci_aload_n dL_cell_1 rfl ?_
  refine ci_slen (b := b) (L := L) (xs := xs) (fun s A c h => h) dL_cell_2 ?_
  refine ci_icmp_ge (tgt := 12) dL_cell_3 (by decide) (fun h1 => ?_) (fun h1 => ?_)
  · refine ci_iconst (v := 0) dL_cell_12 (by decide) ?_
    refine ci_iret rfl dL_cell_13 ?_
    have e : ¬ 0 < L := fun h9 => absurd h1 (nI_ge (a := 0) h9 (by omega))
    rw [if_neg e]; exact ⟨rfl, rfl⟩
  · have e : 0 < L := Classical.byContradiction fun h9 => h1 (nI_le (b := 0) (by omega) (by omega))
    refine ci_aload_n dL_cell_6 rfl ?_
    refine ci_iload_n dL_cell_7 rfl ?_
    refine ci_sld (b := b) (L := L) (xs := xs) (fun s A c h => h) (nI_vp (c := 0) e (by omega)) dL_cell_8 ?_
    refine ci_goto (tgt := 13) dL_cell_9 (by decide) ?_
    refine ci_iret rfl dL_cell_13 ?_
    rw [if_pos e]; exact ⟨rfl, rfl⟩
def mL_compile : cj_M := (yL_compile, cL_compile, 3, (some .int))
def mL_run : cj_M := (yL_run, cL_run, 4, (some .int))
def hh_c : List (Nat × Nat × Nat × Nat) := [(0, 8, 11, 13)]
def hh_r : List (Nat × Nat × Nat × Nat) := [(0, 9, 12, 13), (0, 9, 15, 19), (0, 9, 18, 21)]
theorem mwL_compile : Cond.codeWith mL_compile.1 mL_compile.2.1 mL_compile.2.2.1 mL_compile.2.2.2 hh_c ∈ cj_all ∧ Cond.initialized mL_compile.1.cls ∈ cj_all ∧ (mL_compile.1.cls ≠ "java/lang/invoke/MethodHandle" ∧ mL_compile.1.cls ≠ "java/lang/invoke/VarHandle") ∧ (parseMethodDescriptor mL_compile.1.desc).map (fun d => d.parameters.length) = some 2 ∧ mL_compile.2.2.1 ≤ 29 := ⟨by decide +kernel, by decide +kernel, ⟨by decide +kernel, by decide +kernel⟩, by decide +kernel, by decide +kernel⟩
theorem mwL_run : Cond.codeWith mL_run.1 mL_run.2.1 mL_run.2.2.1 mL_run.2.2.2 hh_r ∈ cj_all ∧ Cond.initialized mL_run.1.cls ∈ cj_all ∧ (mL_run.1.cls ≠ "java/lang/invoke/MethodHandle" ∧ mL_run.1.cls ≠ "java/lang/invoke/VarHandle") ∧ (parseMethodDescriptor mL_run.1.desc).map (fun d => d.parameters.length) = some 3 ∧ mL_run.2.2.1 ≤ 29 := ⟨by decide +kernel, by decide +kernel, ⟨by decide +kernel, by decide +kernel⟩, by decide +kernel, by decide +kernel⟩
theorem lkL_40 : Cond.methodLink RL 40 yL_compile ∈ cj_all ∧ Cond.static yL_compile ∈ cj_all := ⟨by decide +kernel, by decide +kernel⟩
theorem lkL_56 : Cond.methodLink RL 56 yL_run ∈ cj_all ∧ Cond.static yL_run ∈ cj_all := ⟨by decide +kernel, by decide +kernel⟩
theorem klL_13 : Cond.classLink RL 13 "java/lang/IllegalArgumentException" ∈ cj_all := by decide +kernel
theorem klL_19 : Cond.classLink RL 19 "java/lang/IllegalStateException" ∈ cj_all := by decide +kernel
theorem klL_21 : Cond.classLink RL 21 "java/lang/UnsupportedOperationException" ∈ cj_all := by decide +kernel
def et_T (hh : List (Nat × Nat × Nat × Nat)) (Y : State → Prop) : State → (Nat → Prop) → Code → Prop := fun s _ c => c.exceptionTable.toList = tableOf hh ∧ Y s
set_option maxHeartbeats 4000000 in
theorem t_Lcompile {G : cj_G} {x ol k n : Nat} {fs : List Value} {Qr' : Option Value → cj_G → Prop} {Qx' : String → cj_G → Prop} (hT : cj_T mX6_compile 61 k n [.ref x] G Qr' Qx') (hx : G x = some (.inr (6, fs))) (hr : ∀ v G', Qr' v G' → ∃ (z : Int32) (f' : Nat → Int64), v = some (.int z) ∧ G' ol = some (.inl (3, 1, .inr (.inl f')))) (hx' : ∀ E G', Qx' E G' → E = "java/lang/IllegalArgumentException") : ci_T (.codeWith mL_compile.1 mL_compile.2.1 mL_compile.2.2.1 mL_compile.2.2.2 hh_c) (fun _ => True) mL_compile 62 k n [.ref x, .ref ol] G (fun v G' => (∃ (z : Int32) (G1 : cj_G) (f' : Nat → Int64), Qr' (some (.int z)) G1 ∧ v = some (.int 0) ∧ f' 0 = z.toInt64 ∧ G' = cj_up G1 ol (.inl (3, 1, .inr (.inl f')))) ∨ (v = some (.int 1) ∧ ∃ X : String, Qx' X G')) := by
  refine ci_TH_of (E := et_T hh_c (fun _ => True)) (by decide) (Nat.le_of_ble_eq_true rfl) (fun s c _ h => ⟨h, trivial⟩) ?_
  refine ci_lvs (lv' := [(0, .ref x), (1, .ref ol)]) rfl ?_
  refine ci_fewer (k' := 0 + k) (n' := 0 + n) (by omega) (by omega) ?_
  refine ci_aload_n dL_compile_0 rfl ?_
  refine ci_iconst (v := 0) dL_compile_1 (by decide) ?_
  refine ci_aload_n dL_compile_2 rfl ?_
  refine ci_callV (M' := mX6_compile) (d' := 61) (k' := k) (n' := n) (k := 0) (n := 0) (index := 7) (np := 0) (As := []) (rest := [.int 0, .ref ol]) dL_compile_3 lkL_7 mwX6_compile hT (by omega) rfl rfl (Nat.le_of_ble_eq_true rfl) hx rfl (fun v G1 q => ?_) (fun X G1 q => ?_)
  · obtain ⟨z, f', rfl, g1⟩ := hr v G1 q
    refine ci_st (st' := [.int z, .int 0, .ref ol]) rfl ?_
    refine ci_pc (pc' := 6) rfl ?_
    refine ci_i2l dL_compile_6 rfl ?_
    refine ci_last dL_compile_7 g1 (nI_vp (c := 0) (by omega) (by omega)) (fun f9 h9 => ?_)
    refine ci_pc (pc' := 8) rfl ?_
    refine ci_goto (tgt := 14) dL_compile_8 (by decide) ?_
    refine ci_iconst (v := 0) dL_compile_14 (by decide) ?_
    refine ci_iret rfl dL_compile_15 ?_
    exact Or.inl ⟨z, G1, f9, q, rfl, h9, rfl⟩
  · have e := hx' X G1 q
    refine ⟨[], ⟨0, 8, 11, 13⟩, [], fun s A c h => ⟨h.1, fun z hz => absurd hz List.not_mem_nil⟩, by decide, by decide, by rw [e]; exact klL_13, by rw [e]; decide, fun q9 => ?_⟩
    refine ci_astore_n (lv' := [(2, .ref q9), (0, .ref x), (1, .ref ol)]) dL_compile_11 (by decide) rfl ?_
    refine ci_iconst (v := 1) dL_compile_12 (by decide) ?_
    refine ci_iret rfl dL_compile_13 ?_
    exact Or.inr ⟨rfl, X, q⟩
def nc_Y : State → Prop := fun U => va_Nc "java/lang/IllegalStateException" "java/lang/IllegalArgumentException" U ∧ va_Nc "java/lang/UnsupportedOperationException" "java/lang/IllegalArgumentException" U ∧ va_Nc "java/lang/UnsupportedOperationException" "java/lang/IllegalStateException" U
theorem nc_mv {u U : State} (hvm : u.vm.Alike U.vm) (h : nc_Y u) : nc_Y U := ⟨va_Nc.moved hvm h.1, va_Nc.moved hvm h.2.1, va_Nc.moved hvm h.2.2⟩
theorem nc_bl : ci_bl nc_Y := fun U g mk a h => nc_mv (u := U) (U := U.calling g mk a) (Vm.Alike.refl U.vm) h
set_option maxHeartbeats 4000000 in
theorem t_Lrun {G : cj_G} {x ol k : Nat} {a1 : Int32} {fs : List Value} {Qr' : Option Value → cj_G → Prop} {Qx' : String → cj_G → Prop} (hT : cj_T mX6_run 8 1 6 [.ref x, .int a1] G Qr' Qx') (hx : G x = some (.inr (6, fs))) (hr : ∀ v G', Qr' v G' → ∃ (z : Int32) (f' : Nat → Int64), v = some (.int z) ∧ G' ol = some (.inl (3, 1, .inr (.inl f')))) (hx' : ∀ X G', Qx' X G' → (k = 1 ∧ X = "java/lang/IllegalArgumentException") ∨ (k = 2 ∧ X = "java/lang/IllegalStateException") ∨ (k = 3 ∧ X = "java/lang/UnsupportedOperationException")) : ci_T (.codeWith mL_run.1 mL_run.2.1 mL_run.2.2.1 mL_run.2.2.2 hh_r) nc_Y mL_run 9 1 6 [.ref x, .int a1, .ref ol] G (fun v G' => (∃ (z : Int32) (G1 : cj_G) (f' : Nat → Int64), Qr' (some (.int z)) G1 ∧ v = some (.int 0) ∧ f' 0 = z.toInt64 ∧ G' = cj_up G1 ol (.inl (3, 1, .inr (.inl f')))) ∨ (v = some (.int (nI k)) ∧ ∃ X : String, Qx' X G')) := by
  refine ci_TH_of (E := et_T hh_r nc_Y) (by decide) (Nat.le_of_ble_eq_true rfl) (fun s c hY h => ⟨h, hY⟩) ?_
  refine ci_lvs (lv' := [(0, .ref x), (1, .int a1), (2, .ref ol)]) rfl ?_
  refine ci_fewer (k' := 0 + 1) (n' := 0 + 6) (by omega) (by omega) ?_
  refine ci_aload_n dL_run_0 rfl ?_
  refine ci_iconst (v := 0) dL_run_1 (by decide) ?_
  refine ci_aload_n dL_run_2 rfl ?_
  refine ci_iload_n dL_run_3 rfl ?_
  refine ci_callV (M' := mX6_run) (d' := 8) (k' := 1) (n' := 6) (k := 0) (n := 0) (index := 15) (np := 1) (As := [.int a1]) (rest := [.int 0, .ref ol]) dL_run_4 lkL_15 mwX6_run hT (by omega) rfl rfl (Nat.le_of_ble_eq_true rfl) hx rfl (fun v G1 q => ?_) (fun X G1 q => ?_)
  · obtain ⟨z, f', rfl, g1⟩ := hr v G1 q
    refine ci_st (st' := [.int z, .int 0, .ref ol]) rfl ?_
    refine ci_pc (pc' := 7) rfl ?_
    refine ci_i2l dL_run_7 rfl ?_
    refine ci_last dL_run_8 g1 (nI_vp (c := 0) (by omega) (by omega)) (fun f9 h9 => ?_)
    refine ci_pc (pc' := 9) rfl ?_
    refine ci_goto (tgt := 21) dL_run_9 (by decide) ?_
    refine ci_iconst (v := 0) dL_run_21 (by decide) ?_
    refine ci_iret rfl dL_run_22 ?_
    exact Or.inl ⟨z, G1, f9, q, rfl, h9, rfl⟩
  · rcases hx' X G1 q with ⟨rfl, e⟩ | ⟨rfl, e⟩ | ⟨rfl, e⟩
    · refine ⟨[], ⟨0, 9, 12, 13⟩, [⟨0, 9, 15, 19⟩, ⟨0, 9, 18, 21⟩], fun s A c h => ⟨h.1, fun z hz => absurd hz List.not_mem_nil⟩, by decide, by decide, by rw [e]; exact klL_13, by rw [e]; decide, fun q9 => ?_⟩
      refine ci_astore_n (lv' := [(3, .ref q9), (0, .ref x), (1, .int a1), (2, .ref ol)]) dL_run_12 (by decide) rfl ?_
      refine ci_iconst (v := 1) dL_run_13 (by decide) ?_
      refine ci_iret rfl dL_run_14 ?_
      exact Or.inr ⟨rfl, X, q⟩
    · refine ⟨[⟨0, 9, 12, 13⟩], ⟨0, 9, 15, 19⟩, [⟨0, 9, 18, 21⟩], fun s A c h => ⟨h.1, fun z hz => ?_⟩, by decide, by decide, by rw [e]; exact klL_19, by rw [e]; decide, fun q9 => ?_⟩
      · rw [List.mem_singleton] at hz; subst hz
        exact Or.inr ⟨by decide, _, klL_13, by rw [e]; exact h.2.1⟩
      refine ci_astore_n (lv' := [(3, .ref q9), (0, .ref x), (1, .int a1), (2, .ref ol)]) dL_run_15 (by decide) rfl ?_
      refine ci_iconst (v := 2) dL_run_16 (by decide) ?_
      refine ci_iret rfl dL_run_17 ?_
      exact Or.inr ⟨rfl, X, q⟩
    · refine ⟨[⟨0, 9, 12, 13⟩, ⟨0, 9, 15, 19⟩], ⟨0, 9, 18, 21⟩, [], fun s A c h => ⟨h.1, fun z hz => ?_⟩, by decide, by decide, by rw [e]; exact klL_21, by rw [e]; decide, fun q9 => ?_⟩
      · rcases List.mem_cons.mp hz with rfl | hz
        · exact Or.inr ⟨by decide, _, klL_13, by rw [e]; exact h.2.2.1⟩
        · rw [List.mem_singleton] at hz; subst hz
          exact Or.inr ⟨by decide, _, klL_19, by rw [e]; exact h.2.2.2⟩
      refine ci_astore_n (lv' := [(3, .ref q9), (0, .ref x), (1, .int a1), (2, .ref ol)]) dL_run_18 (by decide) rfl ?_
      refine ci_iconst (v := 3) dL_run_19 (by decide) ?_
      refine ci_iret rfl dL_run_20 ?_
      exact Or.inr ⟨rfl, X, q⟩
