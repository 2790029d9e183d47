/-! ROWS AS LISTS: a new step at the end, an operation, a row of one step; the places -/
theorem rw_new {G : cj_G} {L : List rw_I} {e : Option Nat} {s : Nat} (hs : rw_sg G L e) (h : G s = none) : s ∉ rw_ad L := by
  intro hm
  obtain ⟨fs, h5⟩ := rw_sg_mem hs s hm
  rw [h5] at h
  cases h
/-- Row.add(kind, a) -/
theorem t_Radd2 {G : cj_G} {r : Nat} {L : List rw_I} {kd av : Int32} (h : rw_at G r L) : cj_T mX4_add_ 2 1 5 [.ref r, .int kd, .int av] G (fun v G' => v = none ∧ ∃ s : Nat, G s = none ∧ rw_at G' r (L ++ [(s, kd, av, none)]) ∧ cj_fr (r :: rw_ad L) G G') cj_no := by
  rcases rw_end L with rfl | ⟨A, y, rfl⟩
  · refine cj_T.mono (t_add2_e h.1) (fun v G' hq => ?_) (fun _ _ h => h)
    obtain ⟨rfl, s, q0, q1, q2, q3⟩ := hq
    exact ⟨rfl, s, q0, ⟨q2, ⟨q1, trivial⟩, by simp [rw_ad]⟩, q3⟩
  · obtain ⟨h9, hh⟩ := rw_nx_some A y
    have h1 := h.1
    rw [hh, rw_la_app] at h1
    have hy : G y.1 = some (rw_c y none) := (rw_sg_app.mp h.2.1).2.1
    refine cj_T.mono (t_add2_l h1 hy) (fun v G' hq => ?_) (fun _ _ h => h)
    obtain ⟨rfl, s, q0, q1, q2, q3, q4⟩ := hq
    have hn2 : (rw_ad (A ++ [y] ++ [(s, kd, av, none)])).Nodup := by
      rw [rw_ad_app]
      exact List.nodup_append.mpr ⟨h.2.2, by simp [rw_ad], fun a ha b hb => by rw [List.mem_singleton.mp (show b ∈ [s] from hb)]; exact fun e => rw_new h.2.1 q0 (e ▸ ha)⟩
    exact ⟨rfl, s, q0, rw_grow h hh q4 (by rw [rw_la_app]; exact q2) q3 ⟨q1, trivial⟩ hn2, cj_fr.mono q4 (rw_in rfl)⟩
theorem rw_ad_fr {S : List Nat} {G G' : cj_G} {L : List rw_I} {e : Option Nat} (hs : rw_sg G L e) (hf : cj_fr S G G') (hd : ∀ x ∈ rw_ad L, x ∉ S) : rw_sg G' L e := rw_sg_fr hf hd hs
set_option maxHeartbeats 4000000 in
set_option maxRecDepth 100000 in
/-- Row.operate(kind, second) -/
theorem t_Roperate {G : cj_G} {r q : Nat} {L K : List rw_I} {kd : Int32} (h : rw_at G r L) (hk : rw_at G q K) (hrq : r ≠ q) (hd : ∀ x ∈ rw_ad L, x ∉ rw_ad K) : cj_T mX4_operate 3 2 10 [.ref r, .int kd, .ref q] G (fun v G' => v = none ∧ ∃ s1 s2 : Nat, G s1 = none ∧ G s2 = none ∧ rw_at G' r (L ++ [(s1, 3, 0, none)] ++ K ++ [(s2, kd, 0, none)]) ∧ cj_fr (r :: (rw_ad L ++ rw_ad K)) G G') cj_no := by
  refine cj_T_of (by decide) (Nat.le_of_ble_eq_true rfl) ?_
  refine cj_lvs (lv' := [(0, .ref r), (1, .int kd), (2, .ref q)]) rfl ?_
  refine cj_aload_n dX4_operate_0 rfl ?_
  refine cj_iconst (v := 3) dX4_operate_1 (by decide) ?_
  refine cj_iconst (v := 0) dX4_operate_2 (by decide) ?_
  refine cj_callV (M' := mX4_add_) (d' := 2) (k' := 1) (n' := 5) (k := 1) (n := 5) (index := 30) (np := 2) (As := [.int 3, .int 0]) (rest := []) dX4_operate_3 lkX4_30 mwX4_add_ (t_Radd2 h) (by decide) rfl rfl (Nat.le_of_ble_eq_true rfl) h.1 rfl (fun v9 G1 q1 => ?_) (fun _ _ h => absurd h id)
  obtain ⟨rfl, s1, n1, a1, r1⟩ := q1
  refine cj_st (st' := []) rfl ?_
  refine cj_pc (pc' := 6) rfl ?_
  have hqr : q ∉ r :: rw_ad L := by
    intro hm
    rcases List.mem_cons.mp hm with e | e
    · exact hrq e.symm
    · exact rw_ne_row hk.1 h.2.1 e rfl
  have hKS : ∀ x ∈ rw_ad K, x ∉ r :: rw_ad L := by
    intro x hx hm
    rcases List.mem_cons.mp hm with e | e
    · exact rw_ne_row h.1 hk.2.1 hx e
    · exact hd x e hx
  have k1 : rw_at G1 q K := hk.fr r1 hqr hKS
  have hd1 : ∀ x ∈ rw_ad (L ++ [(s1, 3, 0, none)]), x ∉ rw_ad K := by
    intro x hx hm
    rw [rw_ad_app] at hx
    rcases List.mem_append.mp hx with e | e
    · exact hd x e hm
    · rw [List.mem_singleton.mp (show x ∈ [s1] from e)] at hm
      exact rw_new hk.2.1 n1 hm
  refine cj_aload_n dX4_operate_6 rfl ?_
  refine cj_aload_n dX4_operate_7 rfl ?_
  refine cj_callV (M' := mX4_append) (d' := 0) (k' := 0) (n' := 0) (k := 1) (n := 5) (index := 33) (np := 1) (As := [.ref q]) (rest := []) dX4_operate_8 lkX4_33 mwX4_append (t_Rappend a1 k1 hrq hd1) (by decide) rfl rfl (Nat.le_of_ble_eq_true rfl) a1.1 rfl (fun v9 G2 q2 => ?_) (fun _ _ h => absurd h id)
  obtain ⟨rfl, a2, r2⟩ := q2
  refine cj_st (st' := []) rfl ?_
  refine cj_pc (pc' := 11) rfl ?_
  refine cj_aload_n dX4_operate_11 rfl ?_
  refine cj_iload_n dX4_operate_12 rfl ?_
  refine cj_iconst (v := 0) dX4_operate_13 (by decide) ?_
  refine cj_callV (M' := mX4_add_) (d' := 2) (k' := 1) (n' := 5) (k := 0) (n := 0) (index := 30) (np := 2) (As := [.int kd, .int 0]) (rest := []) dX4_operate_14 lkX4_30 mwX4_add_ (t_Radd2 a2) (by decide) rfl rfl (Nat.le_of_ble_eq_true rfl) a2.1 rfl (fun v9 G3 q3 => ?_) (fun _ _ h => absurd h id)
  obtain ⟨rfl, s2, n2, a3, r3⟩ := q3
  refine cj_st (st' := []) rfl ?_
  refine cj_vret rfl dX4_operate_17 ?_
  have g2 : cj_fr (r :: (rw_ad L ++ rw_ad K)) G G2 := by
    intro x y hx hy
    have x1 : x ≠ r := fun e => hx (by rw [e]; exact List.mem_cons_self)
    have x2 : x ∉ rw_ad L := fun e => hx (List.mem_cons_of_mem _ (List.mem_append_left _ e))
    have y1 : G1 x = some y := r1 x y (fun hm => (List.mem_cons.mp hm).elim x1 x2) hy
    refine r2 x y (fun hm => (List.mem_cons.mp hm).elim x1 (fun e => ?_)) y1
    rw [rw_ad_app] at e
    rcases List.mem_append.mp e with e | e
    · exact x2 e
    · exact cj_nn hy n1 (List.mem_singleton.mp (show x ∈ [s1] from e))
  refine ⟨rfl, s1, s2, n1, ?_, a3, ?_⟩
  · cases hg : G s2 with
    | none => rfl
    | some y =>
      exfalso
      by_cases hm : s2 ∈ r :: (rw_ad L ++ rw_ad K)
      · rcases List.mem_cons.mp hm with e | e
        · have h9 := a2.1
          rw [← e, n2] at h9
          cases h9
        · rcases List.mem_append.mp e with e | e
          · exact rw_new a2.2.1 n2 (by rw [rw_ad_app, rw_ad_app]; exact List.mem_append_left _ (List.mem_append_left _ e))
          · exact rw_new a2.2.1 n2 (by rw [rw_ad_app]; exact List.mem_append_right _ e)
      · have := g2 s2 y hm hg
        rw [n2] at this
        cases this
  · intro x y hx hy
    have x1 : x ≠ r := fun e => hx (by rw [e]; exact List.mem_cons_self)
    have x2 : x ∉ rw_ad L := fun e => hx (List.mem_cons_of_mem _ (List.mem_append_left _ e))
    have x3 : x ∉ rw_ad K := fun e => hx (List.mem_cons_of_mem _ (List.mem_append_right _ e))
    refine r3 x y (fun hm => (List.mem_cons.mp hm).elim x1 (fun e => ?_)) (g2 x y hx hy)
    rw [rw_ad_app, rw_ad_app] at e
    rcases List.mem_append.mp e with e | e
    · rcases List.mem_append.mp e with e | e
      · exact x2 e
      · exact cj_nn hy n1 (List.mem_singleton.mp (show x ∈ [s1] from e))
    · exact x3 e
set_option maxHeartbeats 4000000 in
set_option maxRecDepth 100000 in
/-- Reader.rowOf(kind, a): a new row of one step -/
theorem t_rowOf {G : cj_G} {kd av : Int32} : cj_T mX3_rowOf 3 2 7 [.int kd, .int av] G (fun v G' => ∃ r s : Nat, v = some (.ref r) ∧ G r = none ∧ G s = none ∧ rw_at G' r [(s, kd, av, none)] ∧ cj_fr [] G G') cj_no := by
  refine cj_T_of (by decide) (Nat.le_of_ble_eq_true rfl) ?_
  refine cj_lvs (lv' := [(0, .int kd), (1, .int av)]) rfl ?_
  refine cj_new (ci := 4) (fs := [.null, .null]) (k := 1) (n := 5) rfl uw_X4 tyX4_ok klX3_43.1 klX3_43.2.1 klX3_43.2.2 (by intro j hj; rcases (show j = 0 ∨ j = 1 by omega) with rfl | rfl <;> rfl) dX3_rowOf_0 (fun r hr => ?_)
  refine cj_nm (fun G1 e1 => ?_)
  have k1 : G1 r = some (.inr (4, [.null, .null])) := by rw [e1]; exact cj_up_s
  have f1 : cj_fr [] G G1 := by rw [e1]; exact cj_fr.new cj_fr.rf hr
  refine cj_dup dX3_rowOf_3 rfl ?_
  refine cj_callIN (M' := mX4_init) (d' := 1) (k' := 0) (n' := 0) (k := 1) (n := 5) (index := 55) (np := 0) (As := []) (rest := [.ref r]) dX3_rowOf_4 lkX3_55 mwX4_init (t_Row k1) (by decide) rfl rfl (Nat.le_of_ble_eq_true rfl) (fun v9 G2 q2 => ?_)
  obtain ⟨rfl, k2, f2⟩ := q2
  refine cj_st (st' := [.ref r]) rfl ?_
  refine cj_astore_n (lv' := [(2, .ref r), (0, .int kd), (1, .int av)]) dX3_rowOf_7 (by decide) rfl ?_
  refine cj_aload_n dX3_rowOf_8 rfl ?_
  refine cj_iload_n dX3_rowOf_9 rfl ?_
  refine cj_iload_n dX3_rowOf_10 rfl ?_
  have a2 : rw_at G2 r [] := ⟨k2, trivial, by simp [rw_ad]⟩
  have g2 : cj_fr [] G G2 := cj_past f1 hr f2
  refine cj_callV (M' := mX4_add_) (d' := 2) (k' := 1) (n' := 5) (k := 0) (n := 0) (index := 42) (np := 2) (As := [.int kd, .int av]) (rest := []) dX3_rowOf_11 lkX3_42 mwX4_add_ (t_Radd2 a2) (by decide) rfl rfl (Nat.le_of_ble_eq_true rfl) k2 rfl (fun v9 G3 q3 => ?_) (fun _ _ h => absurd h id)
  obtain ⟨rfl, s, n3, a3, f3⟩ := q3
  refine cj_st (st' := []) rfl ?_
  refine cj_aload_n dX3_rowOf_14 rfl ?_
  refine cj_aret rfl dX3_rowOf_15 ?_
  refine ⟨r, s, rfl, hr, cj_fr.none g2 n3 (by simp), a3, cj_past g2 hr f3⟩
