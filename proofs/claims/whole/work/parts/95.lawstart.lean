/-! THE LAW FROM ITS ENTRY -/
theorem ci_nb {E : State → (Nat → Prop) → Code → Prop} {M : cj_M} {d k0 n0 k n pc b : Nat} {Qr : Option Value → cj_G → Prop} {Qx : String → cj_G → Prop} {lv : List (Nat × Value)} {st : List Value} {G : cj_G} (hE : ∀ s A c, E s A c → ¬ A b) (kk : G b = none → ci_J E M d k0 n0 Qr Qx k n pc lv st G) : ci_J E M d k0 n0 Qr Qx k n pc lv st G := by
  intro R hR p l e s m args below meth c D tys A H locs c0 s0 ls C W0 S hc hn hl
  have hb : G b = none := by
    cases h : G b with
    | none => rfl
    | some x => exact absurd (W0.lt h).2 (hE s A c C.e)
  exact kk hb R hR p l e s m args below meth c D tys A H locs c0 s0 ls C W0 S hc hn hl
theorem nd_getD : ∀ {l : List Nat}, l.Nodup → ∀ i j, i < l.length → j < l.length → l.getD i 0 = l.getD j 0 → i = j := by
  intro l
  induction l with
  | nil => intro _ i j hi; exact absurd hi (by simp)
  | cons x t ih =>
    intro h i j hi hj e
    obtain ⟨h1, h2⟩ := List.nodup_cons.mp h
    have hi : i < t.length + 1 := hi
    have hj : j < t.length + 1 := hj
    have mem : ∀ k, k < t.length → t.getD k 0 ∈ t := fun k hk => by
      rw [List.getD_eq_getElem?_getD, List.getElem?_eq_getElem hk]; exact List.getElem_mem _
    cases i with
    | zero =>
      cases j with
      | zero => rfl
      | succ j =>
        have e : x = t.getD j 0 := e
        exact absurd (by rw [e]; exact mem j (by omega)) h1
    | succ i =>
      cases j with
      | zero =>
        have e : t.getD i 0 = x := e
        exact absurd (by rw [← e]; exact mem i (by omega)) h1
      | succ j =>
        have e : t.getD i 0 = t.getD j 0 := e
        have := ih h2 i j (by omega) (by omega) e
        omega
def s_0 : ls_T := (0, fun _ => 0, [], am0, 0, 0, -1)
theorem ax_0 {N : Nat} : AX N s_0 := ⟨Nat.zero_le _, fun _ => by show 0 < 65536; omega, Nat.zero_le _, Or.inl ⟨rfl, rfl⟩⟩
theorem rx_00 {N : Nat} : RX N s_0 (rm_S0 N) := ⟨rfl, fun j hj => absurd hj (Nat.not_lt_zero _), rfl, rfl, ⟨0, rfl, rfl, Or.inl rfl, rfl, rfl, rfl, rfl, rfl, fun c x hc => by simp [s_0, am0] at hc, rfl, ⟨trivial, fun b hb => absurd hb List.not_mem_nil, by show 0 + 0 ≤ 400; omega⟩, fun i hi => absurd hi (Nat.not_lt_zero _)⟩, rfl, rfl⟩
section LWS
variable {b L : Nat} {xs : Nat → Int32} {Qr : Option Value → cj_G → Prop} {Qx : String → cj_G → Prop}
theorem lw_cell {d k0 n0 k n pc : Nat} {lv : List (Nat × Value)} {rest : List Value} {G : cj_G} (hL : L ≤ 1537) (hd : 1 ≤ d) (g0 : cj_lg lv 0 = some (.ref b)) (h8 : (rest.map fun v => v.category).sum ≤ 8) (d0 : decode mL_law.2.1 pc = .ok (.aload_n 0, 1)) (d1 : decode mL_law.2.1 (pc + 1) = .ok (.iconst 0, 1)) (d2 : decode mL_law.2.1 (pc + 1 + 1) = .ok (.invokestatic 23, 3)) (kk : ci_J (ex_L b L xs) mL_law d k0 n0 Qr Qx k n (pc + 5) lv (.int (if 0 < L then xs 0 else 0) :: rest) G) : ci_J (ex_L b L xs) mL_law d k0 n0 Qr Qx k n pc lv rest G := by
  refine ci_nb (b := b) (fun s A c h => h.1.2.2) (fun hb => ?_)
  refine ci_aload_n d0 g0 ?_
  refine ci_iconst (v := 0) d1 (by decide) ?_
  refine ci_callS (M' := mL_cell) (d' := 0) (k' := 0) (n' := 0) (k := k) (n := n) (index := 23) (np := 2) (As := [.ref b, .int 0]) (rest := rest) (Y := ey_S b L xs) ey_bl d2 lkL_23 mwL_cell (t_cell hL hb) (by omega) rfl rfl h8 (fun s A c H locs U h hS hG hU hW => ⟨va_X.moved hW.alike (by rw [hU]; exact h.1.1.kept (hS.2.1 b h.1.2.1 h.1.2.2)), by rw [hU]; exact Nat.lt_of_lt_of_le h.1.2.1 hS.1⟩) (fun v9 G1 q9 => ?_)
  obtain ⟨e1, e2⟩ := q9
  subst e1 e2
  exact kk
set_option maxHeartbeats 8000000 in
set_option maxRecDepth 100000 in
theorem lw_start (hL : L ≤ 1537) (hQ : ∀ G : cj_G, Qr (some (.int 1)) G) : ci_J (ex_L b L xs) mL_law 100 601024 7293000 Qr Qx 601024 7293000 0 [(0, .ref b)] [] (fun _ => none) := by
  refine ci_fewer (k' := 30720 + 1 + 29 + 1 + 12 + 1) (n' := 184320 + 1 + 5848 + 57 + 1300 + 5) (by decide) (by decide) ?_
  refine ci_new (ci := 6) (fs := [.null, .int 0, .null, .null, .null]) (k := 30720 + 1 + 29 + 1 + 12) (n := 184320 + 1 + 5848 + 57 + 1300) rfl uw_X6 tyX6_ok klL_8.1 klL_8.2.1 klL_8.2.2 (by intro j hj; rcases (show j = 0 ∨ j = 1 ∨ j = 2 ∨ j = 3 ∨ j = 4 by omega) with rfl | rfl | rfl | rfl | rfl <;> rfl) dL_law_0 (fun x z1 => ?_)
  refine ci_nm (fun G1 e1 => ?_)
  have x1 : G1 x = some (.inr (6, [.null, .int 0, .null, .null, .null])) := by rw [e1]; exact cj_up_s
  refine ci_pc (pc' := 3) rfl ?_
  refine ci_dup dL_law_3 rfl ?_
  refine lw_cell (pc := 4) hL (by omega) rfl (Nat.le_of_ble_eq_true rfl) dL_law_4 dL_law_5 dL_law_6 ?_
  refine ci_pc (pc' := 9) rfl ?_
  refine ci_callI (M' := mX6_init) (d' := 2) (k' := 12) (n' := 1300) (k := 30720 + 1 + 29 + 1) (n := 184320 + 1 + 5848 + 57) (index := 29) (np := 1) (As := [.int (if 0 < L then xs 0 else 0)]) (rest := [.ref x]) dL_law_9 lkL_29 mwX6_init (t_init6 x1) (by omega) rfl rfl (Nat.le_of_ble_eq_true rfl) (fun v9 G2 q9 => ?_)
  generalize hw0 : (if 0 < L then xs 0 else 0) = w0 at q9 ⊢
  obtain ⟨e9, wt, rd, rt, nb, pg, pa, m, o, sk, a, b', c, f_x, f_wt, f_rd, f_rt, f_nb, f_pg, f_pa, f_m, f_o, f_sk, f_a, f_b, f_c, _, _, _, n_ab, n_ac, n_bc, n_ask, n_bsk, n_csk, n_paa, n_pab, n_pac, n_pask, _, _, _, _, _, _, _, _, _, _, _, _, fr2, nd⟩ := q9
  subst e9
  refine ci_st (st' := [.ref x]) rfl ?_
  refine ci_pc (pc' := 12) rfl ?_
  refine ci_astore_n (lv' := [(1, .ref x), (0, .ref b)]) dL_law_12 (by decide) rfl ?_
  refine ci_pc (pc' := 13) rfl ?_
  refine ci_new (ci := 7) (fs := [.int 0, .int 0, .null, .int 0, .null, .int 0, .int 0, .int 0, .int 0, .null, .null, .null, .null, .null, .null, .int 0, .null, .int 0, .null, .null, .null, .null, .null, .null, .null, .null, .int 0, .null, .null, .int 0, .null, .int 0, .null, .int 0, .int 0, .int 0, .null, .int 0, .null, .int 0, .null, .null, .null, .int 0, .null, .int 0, .int 0, .int 0, .null, .int 0, .int 0, .int 0, .null, .int 0, .int 0, .int 0, .int 0]) (k := 30720 + 1 + 29) (n := 184320 + 1 + 5848) rfl uw_X7 tyX7_ok klL_32.1 klL_32.2.1 klL_32.2.2 (by decide) dL_law_13 (fun q z3 => ?_)
  refine ci_nm (fun G3 e3 => ?_)
  have q3 : G3 q = some (.inr (7, [.int 0, .int 0, .null, .int 0, .null, .int 0, .int 0, .int 0, .int 0, .null, .null, .null, .null, .null, .null, .int 0, .null, .int 0, .null, .null, .null, .null, .null, .null, .null, .null, .int 0, .null, .null, .int 0, .null, .int 0, .null, .int 0, .int 0, .int 0, .null, .int 0, .null, .int 0, .null, .null, .null, .int 0, .null, .int 0, .int 0, .int 0, .null, .int 0, .int 0, .int 0, .null, .int 0, .int 0, .int 0, .int 0])) := by rw [e3]; exact cj_up_s
  have k3 : ∀ (z : Nat) (v : cj_E), G2 z = some v → G3 z = some v := fun z v hz => by rw [e3]; exact cj_up_ne hz z3
  refine ci_pc (pc' := 16) rfl ?_
  refine ci_dup dL_law_16 rfl ?_
  refine lw_cell (pc := 17) hL (by omega) rfl (Nat.le_of_ble_eq_true rfl) dL_law_17 dL_law_18 dL_law_19 ?_
  refine ci_pc (pc' := 22) rfl ?_
  refine ci_st (st' := [.int w0, .ref q, .ref q]) (by rw [hw0]) ?_
  refine ci_callI (M' := mX7_init) (d' := 1) (k' := 29) (n' := 5848) (k := 30720 + 1) (n := 184320 + 1) (index := 34) (np := 1) (As := [.int w0]) (rest := [.ref q]) dL_law_22 lkL_34 mwX7_init (t_init7 q3) (by omega) rfl rfl (Nat.le_of_ble_eq_true rfl) (fun v9 G4 q9 => ?_)
  obtain ⟨e9, ad, hA, hR, hfr, fr4⟩ := q9
  subst e9
  refine ci_st (st' := [.ref q]) rfl ?_
  refine ci_pc (pc' := 25) rfl ?_
  refine ci_astore_n (lv' := [(2, .ref q), (1, .ref x), (0, .ref b)]) dL_law_25 (by decide) rfl ?_
  refine ci_pc (pc' := 26) rfl ?_
  refine ci_iconst (v := 1) dL_law_26 (by decide) ?_
  refine ci_newa (t := 3) (N := 1) (a0 := (1, .inr (.inl (fun _ => 0)))) (k := 30720) (n := 184320) (ty := .long) rfl (by intro C h; cases h) rfl ac_long (fun cA => rfl) (by decide +kernel) (by decide +kernel) (by decide +kernel) dL_law_27 (fun ol z5 => ?_)
  refine ci_nm (fun G5 e5 => ?_)
  refine ci_pc (pc' := 29) rfl ?_
  refine ci_astore_n (lv' := [(3, .ref ol), (2, .ref q), (1, .ref x), (0, .ref b)]) dL_law_29 (by decide) rfl ?_
  refine ci_pc (pc' := 30) rfl ?_
  refine ci_iconst (v := nI 1) dL_law_30 (by decide) ?_
  refine ci_istore (lv' := [(4, .int (nI 1)), (3, .ref ol), (2, .ref q), (1, .ref x), (0, .ref b)]) dL_law_31 (by decide) rfl ?_
  refine ci_pc (pc' := 33) rfl ?_
  have k4 : ∀ (z : Nat) (v : cj_E), z ≠ q → G3 z = some v → G4 z = some v := fun z v hz h => fr4 z v (cj_ni1 hz) h
  have k5 : ∀ (z : Nat) (v : cj_E), G4 z = some v → G5 z = some v := fun z v h => by rw [e5]; exact cj_up_ne h z5
  have t5 : ∀ (z : Nat) (v : cj_E), G2 z = some v → G5 z = some v := fun z v h => k5 z v (k4 z v (cj_nn h z3) (k3 z v h))
  have hin : ∀ z ∈ [x, wt, rd, rt, nb, pg, pa, m, o, sk, a, b', c], ∃ v : cj_E, G2 z = some v := fun z hz => by
    simp only [List.mem_cons, List.not_mem_nil, or_false] at hz
    rcases hz with rfl | rfl | rfl | rfl | rfl | rfl | rfl | rfl | rfl | rfl | rfl | rfl | rfl
    · exact ⟨_, f_x⟩
    · exact ⟨_, f_wt⟩
    · exact ⟨_, f_rd⟩
    · exact ⟨_, f_rt⟩
    · exact ⟨_, f_nb⟩
    · exact ⟨_, f_pg⟩
    · exact ⟨_, f_pa⟩
    · exact ⟨_, f_m⟩
    · exact ⟨_, f_o⟩
    · exact ⟨_, f_sk⟩
    · exact ⟨_, f_a⟩
    · exact ⟨_, f_b⟩
    · exact ⟨_, f_c⟩
  have hq_ol : q ≠ ol := cj_nn hR.1 z5
  have nd15 : ([x, wt, rd, rt, nb, pg, pa, m, o, sk, a, b', c] ++ [q, ol]).Nodup := by
    refine List.nodup_append.mpr ⟨nd, List.nodup_cons.mpr ⟨by simpa using hq_ol, List.nodup_cons.mpr ⟨List.not_mem_nil, List.nodup_nil⟩⟩, fun z hz y hy => ?_⟩
    obtain ⟨v, hv⟩ := hin z hz
    rcases List.mem_cons.mp hy with rfl | hy
    · exact cj_nn hv z3
    · rw [List.mem_singleton] at hy; subst hy
      exact cj_nn (k4 z v (cj_nn hv z3) (k3 z v hv)) z5
  have hI : ID (fun i => ([x, wt, rd, rt, nb, pg, pa, m, o, sk, a, b', c] ++ [q, ol]).getD i 0) ad := by
    refine ⟨fun i j hi hj e => nd_getD nd15 i j hi hj e, fun i hi j hj => ?_, hA⟩
    have hm : ([x, wt, rd, rt, nb, pg, pa, m, o, sk, a, b', c] ++ [q, ol]).getD i 0 ∈ [x, wt, rd, rt, nb, pg, pa, m, o, sk, a, b', c] ++ [q, ol] := by
      rw [List.getD_eq_getElem?_getD, List.getElem?_eq_getElem (show i < ([x, wt, rd, rt, nb, pg, pa, m, o, sk, a, b', c] ++ [q, ol]).length from hi)]; exact List.getElem_mem _
    show ad j ≠ ([x, wt, rd, rt, nb, pg, pa, m, o, sk, a, b', c] ++ [q, ol]).getD i 0
    generalize ([x, wt, rd, rt, nb, pg, pa, m, o, sk, a, b', c] ++ [q, ol]).getD i 0 = z at hm ⊢
    rcases List.mem_append.mp hm with hz | hz
    · obtain ⟨v, hv⟩ := hin z hz
      exact Ne.symm (cj_nn (k3 z v hv) (hfr j hj))
    · rcases List.mem_cons.mp hz with rfl | hz
      · exact hA.2 j hj
      · rw [List.mem_singleton] at hz; subst hz
        obtain ⟨t, n, ht⟩ := rm_js_some hj
        exact cj_nn (hR.2 j hj t n ht) z5
  have hW : LWP (fun i => ([x, wt, rd, rt, nb, pg, pa, m, o, sk, a, b', c] ++ [q, ol]).getD i 0) ad (nw w0) s_0 (rm_S0 (nw w0)) G5 := by
    refine ⟨⟨t5 _ _ f_x, t5 _ _ f_wt, ⟨0, 0, 0, t5 _ _ f_rd⟩, ⟨fun _ => 0, t5 _ _ f_rt, fun _ => by show 0 < 65536; omega⟩, ⟨fun _ => 0, t5 _ _ f_nb, fun _ => by show 0 < 65536; omega⟩, a, b', fun _ => 0, fun _ => 0, fun _ => 0, fun _ => 0, fun _ => 0, 0, Or.inl ⟨rfl, rfl⟩, t5 _ _ f_m, t5 _ _ f_o, t5 _ _ f_a, t5 _ _ f_b, t5 _ _ f_c, t5 _ _ f_sk, t5 _ _ f_pg, t5 _ _ f_pa, ⟨trivial, rfl, fun b hb => absurd hb List.not_mem_nil, Nat.zero_le _⟩, fun c x hc => by simp [s_0, am0] at hc, fun i hi => absurd hi (Nat.not_lt_zero _), n_ab, n_ac, n_bc, Ne.symm n_ask, Ne.symm n_bsk, Ne.symm n_csk, n_paa, n_pab, n_pac, n_pask⟩, ⟨k5 _ _ hR.1, fun j hj t n ht => k5 _ _ (hR.2 j hj t n ht)⟩, fun _ => 0, by rw [e5]; exact cj_up_s⟩
  refine ci_sub (lv' := lw_lv b (fun i => ([x, wt, rd, rt, nb, pg, pa, m, o, sk, a, b', c] ++ [q, ol]).getD i 0) 1) (fun z hz => by
    simp only [List.mem_cons, List.not_mem_nil, or_false] at hz ⊢
    rcases hz with h | h | h | h | h
    · exact Or.inr (Or.inr (Or.inr (Or.inr h)))
    · exact Or.inr (Or.inr (Or.inr (Or.inl h)))
    · exact Or.inr (Or.inr (Or.inl h))
    · exact Or.inr (Or.inl h)
    · exact Or.inl h) ?_
  exact lw_loop hL hI nw_le (by omega) hQ 512 1 s_0 (rm_S0 (nw w0)) G5 30720 184320 (by omega) (by omega) ax_0 rx_00 hW (by decide) (by decide)
end LWS
