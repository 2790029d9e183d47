/-! Code.replaceBy: the row's steps, with their places, become the code -/
/-- the place of the step at g in a chain that begins at place c -/
def rw_pl (g : Nat) : List rw_I → Nat → Nat
  | [], _ => 0
  | x :: t, c => if x.1 = g then c else rw_pl g t (c + rw_n x)
def cd_a (L : List rw_I) (x : rw_I) : Int32 := match x.2.2.2 with
  | none => x.2.2.1
  | some g => if x.2.1 = 19 then x.2.2.1 else nI (rw_pl g L 0)
def cd_b (L : List rw_I) (x : rw_I) : Int32 := match x.2.2.2 with
  | none => 0
  | some g => if x.2.1 = 19 then nI (rw_pl g L 0) else 0
def cd_fill (L : List rw_I) : List rw_I → Nat → (Nat → Int32) → (Nat → Int32)
  | [], _, pf => pf
  | x :: t, c, pf => if x.2.1 = 21 then cd_fill L t c pf else cd_fill L t (c + 1) (cd_put pf c x.2.1 (cd_a L x) (cd_b L x))
theorem rw_sp_at {G : cj_G} {g : Nat} : ∀ {L : List rw_I} {e : Option Nat} {c : Nat}, rw_sp G L e c → g ∈ rw_ad L → ∃ (gk ga : Int32) (gt gf : Value), G g = some (.inr (5, [.int gk, .int ga, gt, .int (nI (rw_pl g L c)), gf])) := by
  intro L
  induction L with
  | nil => intro e c _ hg; cases hg
  | cons x t ih =>
    intro e c hs hg
    by_cases hx : x.1 = g
    · subst hx
      refine ⟨x.2.1, x.2.2.1, va_rf x.2.2.2, va_rf (rw_nx t e), ?_⟩
      rw [show rw_pl x.1 (x :: t) c = c from if_pos rfl]
      exact hs.1
    · rcases List.mem_cons.mp (show g ∈ x.1 :: rw_ad t from hg) with e9 | e9
      · exact absurd e9.symm hx
      · rw [show rw_pl g (x :: t) c = rw_pl g t (c + rw_n x) from if_neg hx]
        exact ih hs.2 e9
theorem rw_sp_mem {G : cj_G} : ∀ {L : List rw_I} {e : Option Nat} {c : Nat}, rw_sp G L e c → ∀ q ∈ rw_ad L, ∃ fs : List Value, G q = some (.inr (5, fs)) := by
  intro L e c h q hq
  obtain ⟨gk, ga, gt, gf, h1⟩ := rw_sp_at h hq
  exact ⟨_, h1⟩
/-- every label that a step names is in the row, and isn't that step -/
def rw_cl (L : List rw_I) : Prop := ∀ x ∈ L, ∀ g : Nat, x.2.2.2 = some g → g ∈ rw_ad L ∧ x.1 ≠ g
/-- a step that is no label goes into the code -/
theorem t_store {G : cj_G} {pg pa c : Nat} {ln : Int32} {pf : Nat → Int32} {L : List rw_I} {x : rw_I} {fo : Option Nat} (k_pg : G pg = some (.inr (0, [.ref pa, .int ln]))) (k_pa : G pa = some (.inl (0, 360, .inl pf))) (hx : G x.1 = some (rw_p x c fo)) (hL : rw_sp G L none 0) (hcl : rw_cl L) (hm : x ∈ L) (hc : c < 120) : cj_T mX0_store 0 0 0 [.ref pg, .ref x.1] G (fun v G' => v = none ∧ G' pa = some (.inl (0, 360, .inl (cd_put pf c x.2.1 (cd_a L x) (cd_b L x)))) ∧ cj_fr [pa] G G') cj_no := by
  obtain ⟨s, kd, av, tg⟩ := x
  cases tg with
  | none =>
    by_cases hk : kd = 19
    · subst hk; exact t_store_nc k_pg k_pa hx hc
    · exact t_store_np k_pg k_pa hx hc hk
  | some g =>
    obtain ⟨g1, g2⟩ := hcl _ hm g rfl
    obtain ⟨gk, ga, gt, gf, hg⟩ := rw_sp_at hL g1
    by_cases hk : kd = 19
    · subst hk
      exact t_store_tc k_pg k_pa hx hg hc g2
    · have h1 : cd_a L (s, kd, av, some g) = nI (rw_pl g L 0) := if_neg hk
      have h2 : cd_b L (s, kd, av, some g) = 0 := if_neg hk
      rw [h1, h2]
      exact t_store_tp k_pg k_pa hx hg hc hk g2
set_option maxHeartbeats 4000000 in
set_option maxRecDepth 100000 in
theorem l_repl {d k0 n0 k n : Nat} {Qr : Option Value → cj_G → Prop} {Qx : String → cj_G → Prop} (hd : 1 ≤ d) {pg pa : Nat} {ln : Int32} {L : List rw_I} (hcl : rw_cl L) : ∀ (T : List rw_I) (c : Nat) (pf : Nat → Int32) (G : cj_G), (∀ x ∈ T, x ∈ L) → rw_sp G T none c → rw_sp G L none 0 → c + rw_cnt T ≤ 120 → G pg = some (.inr (0, [.ref pa, .int ln])) → G pa = some (.inl (0, 360, .inl pf)) → (∀ G' : cj_G, G' pa = some (.inl (0, 360, .inl (cd_fill L T c pf))) → cj_fr [pa] G G' → cj_J mX0_replaceBy d k0 n0 Qr Qx k n 49 [] [] G') → cj_J mX0_replaceBy d k0 n0 Qr Qx k n 23 [(3, va_rf (rw_nx T none)), (0, .ref pg)] [] G := by
  intro T
  induction T with
  | nil =>
    intro c pf G hT hs hL hc k_pg k_pa kk
    refine cj_lvs (lv' := [(3, .null), (0, .ref pg)]) rfl ?_
    refine cj_aload_nN dX0_replaceBy_23 rfl ?_
    refine cj_ifnullN (tgt := 49) dX0_replaceBy_24 (by decide) ?_
    exact cj_sub (lv' := []) (by simp) (kk G k_pa cj_fr.rf)
  | cons x t ih =>
    intro c pf G hT hs hL hc k_pg k_pa kk
    have hx : G x.1 = some (.inr (5, [.int x.2.1, .int x.2.2.1, va_rf x.2.2.2, .int (nI c), va_rf (rw_nx t none)])) := hs.1
    have hcnt : rw_cnt (x :: t) = rw_n x + rw_cnt t := rfl
    refine cj_lvs (lv' := [(3, .ref x.1), (0, .ref pg)]) rfl ?_
    refine cj_aload_n dX0_replaceBy_23 rfl ?_
    refine cj_ifnull dX0_replaceBy_24 ?_
    refine cj_aload_n dX0_replaceBy_27 rfl ?_
    refine cj_get flX0_29 dX0_replaceBy_28 hx rfl ?_
    refine cj_bipush (v := 21) dX0_replaceBy_31 (by decide) ?_
    have step : ∀ (c2 : Nat) (pf2 : Nat → Int32) (G2 : cj_G), c2 = c + rw_n x → G2 pa = some (.inl (0, 360, .inl pf2)) → cj_fr [pa] G G2 → cd_fill L (x :: t) c pf = cd_fill L t c2 pf2 → cj_J mX0_replaceBy d k0 n0 Qr Qx k n 41 [(3, .ref x.1), (0, .ref pg)] [] G2 := by
      intro c2 pf2 G2 hc2 k2 f2 e2
      have nst : ∀ {T9 : List rw_I} {e9 : Option Nat} {c9 : Nat}, rw_sp G T9 e9 c9 → ∀ q ∈ rw_ad T9, q ∉ [pa] := by
        intro T9 e9 c9 h9 q hq
        obtain ⟨fs, h5⟩ := rw_sp_mem h9 q hq
        exact cj_ni1 (cj_noa h5 k_pa)
      have hx2 := f2 _ _ (cj_ni1 (cj_noa hx k_pa)) hx
      have fin : cj_J mX0_replaceBy d k0 n0 Qr Qx k n 23 [(3, va_rf (rw_nx t none)), (0, .ref pg)] [] G2 := by
        refine ih c2 pf2 G2 (fun y hy => hT y (List.mem_cons_of_mem _ hy)) (by rw [hc2]; exact rw_sp_fr f2 (nst hs.2) hs.2) (rw_sp_fr f2 (nst hL) hL) (by omega) (f2 _ _ (cj_ni1 (cj_noa k_pg k_pa)) k_pg) k2 (fun G' g1 g2 => kk G' (by rw [e2]; exact g1) (cj_fr.trans f2 g2))
      refine cj_aload_n dX0_replaceBy_41 rfl ?_
      refine cj_get flX0_38 dX0_replaceBy_42 hx2 rfl ?_
      cases t with
      | nil =>
        refine cj_st (st' := [.null]) rfl ?_
        refine cj_astore_nN (lv' := [(3, .null), (0, .ref pg)]) dX0_replaceBy_45 (by decide) rfl ?_
        refine cj_goto (tgt := 23) dX0_replaceBy_46 (by decide) ?_
        exact fin
      | cons z t2 =>
        refine cj_st (st' := [.ref z.1]) rfl ?_
        refine cj_astore_n (lv' := [(3, .ref z.1), (0, .ref pg)]) dX0_replaceBy_45 (by decide) rfl ?_
        refine cj_goto (tgt := 23) dX0_replaceBy_46 (by decide) ?_
        exact fin
    refine cj_icmp_eq (tgt := 41) dX0_replaceBy_33 (by decide) (fun h9 => ?_) (fun h9 => ?_)
    · refine step c pf G ?_ k_pa cj_fr.rf ?_
      · unfold rw_n; rw [if_pos h9]; rfl
      · show (if x.2.1 = 21 then _ else _) = _; rw [if_pos h9]
    · have hn1 : rw_n x = 1 := if_neg h9
      refine cj_pc (pc' := 36) rfl ?_
      refine cj_aload_n dX0_replaceBy_36 rfl ?_
      refine cj_aload_n dX0_replaceBy_37 rfl ?_
      refine cj_callV (M' := mX0_store) (d' := 0) (k' := 0) (n' := 0) (index := 34) (np := 1) (As := [.ref x.1]) (rest := []) dX0_replaceBy_38 lkX0_34 mwX0_store (t_store k_pg k_pa hs.1 hL hcl (hT x List.mem_cons_self) (by omega)) (by omega) rfl rfl (Nat.le_of_ble_eq_true rfl) k_pg rfl (fun v9 G2 q2 => ?_) (fun _ _ h => absurd h id)
      obtain ⟨rfl, q2, q3⟩ := q2
      refine cj_st (st' := []) rfl ?_
      refine step (c + 1) _ G2 (by omega) q2 q3 ?_
      show (if x.2.1 = 21 then _ else _) = _
      rw [if_neg h9]
set_option maxHeartbeats 4000000 in
set_option maxRecDepth 100000 in
/-- Code.replaceBy(row), too many instructions -/
theorem t_replaceBy_0 {G : cj_G} {pg r : Nat} {L : List rw_I} (h : rw_at G r L) (hc : ¬ rw_cnt L ≤ 120) (hc2 : rw_cnt L < 100000) : cj_T mX0_replaceBy 1 0 0 [.ref pg, .ref r] G (fun v G' => v = some (.int 0) ∧ cj_fr (rw_ad L) G G') cj_no := by
  refine cj_T_of (by decide) (Nat.le_of_ble_eq_true rfl) ?_
  refine cj_lvs (lv' := [(0, .ref pg), (1, .ref r)]) rfl ?_
  refine cj_aload_n dX0_replaceBy_0 rfl ?_
  refine cj_callV (M' := mX4_countPlaces) (d' := 0) (k' := 0) (n' := 0) (index := 19) (np := 0) (As := []) (rest := []) dX0_replaceBy_1 lkX0_19 mwX4_countPlaces (t_countPlaces h) (by decide) rfl rfl (Nat.le_of_ble_eq_true rfl) h.1 rfl (fun v9 G2 q2 => ?_) (fun _ _ h => absurd h id)
  obtain ⟨rfl, q2, q3⟩ := q2
  refine cj_st (st' := [.int (nI (rw_cnt L))]) rfl ?_
  refine cj_istore_n (lv' := [(2, .int (nI (rw_cnt L))), (0, .ref pg), (1, .ref r)]) dX0_replaceBy_4 (by decide) rfl ?_
  refine cj_iload_n dX0_replaceBy_5 rfl ?_
  refine cj_bipush (v := 120) dX0_replaceBy_6 (by decide) ?_
  refine cj_icmp_le (tgt := 13) dX0_replaceBy_8 (by decide) (fun h9 => absurd ((nI_leI (b := 120) (by omega) (by decide)).mp h9) hc) (fun h9 => ?_)
  refine cj_iconst (v := 0) dX0_replaceBy_11 (by decide) ?_
  exact cj_zret rfl rfl dX0_replaceBy_12 ⟨rfl, q3⟩
set_option maxHeartbeats 4000000 in
set_option maxRecDepth 100000 in
/-- Code.replaceBy(row) -/
theorem t_replaceBy_1 {G : cj_G} {pg pa r : Nat} {ln : Int32} {pf : Nat → Int32} {L : List rw_I} (h : rw_at G r L) (hcl : rw_cl L) (hc : rw_cnt L ≤ 120) (k_pg : G pg = some (.inr (0, [.ref pa, .int ln]))) (k_pa : G pa = some (.inl (0, 360, .inl pf))) : cj_T mX0_replaceBy 1 0 0 [.ref pg, .ref r] G (fun v G' => v = some (.int 1) ∧ G' pg = some (.inr (0, [.ref pa, .int (nI (rw_cnt L))])) ∧ G' pa = some (.inl (0, 360, .inl (cd_fill L L 0 pf))) ∧ cj_fr (pg :: pa :: rw_ad L) G G') cj_no := by
  refine cj_T_of (by decide) (Nat.le_of_ble_eq_true rfl) ?_
  refine cj_lvs (lv' := [(0, .ref pg), (1, .ref r)]) rfl ?_
  refine cj_aload_n dX0_replaceBy_0 rfl ?_
  refine cj_callV (M' := mX4_countPlaces) (d' := 0) (k' := 0) (n' := 0) (index := 19) (np := 0) (As := []) (rest := []) dX0_replaceBy_1 lkX0_19 mwX4_countPlaces (t_countPlaces h) (by decide) rfl rfl (Nat.le_of_ble_eq_true rfl) h.1 rfl (fun v9 G2 q2 => ?_) (fun _ _ h => absurd h id)
  obtain ⟨rfl, q2, q3⟩ := q2
  have hst : ∀ {q : Nat} {fs : List Value}, q ∈ rw_ad L → G q = some (.inr (0, fs)) → False := by
    intro q fs hq hf
    obtain ⟨f5, h5⟩ := rw_sg_mem h.2.1 q hq
    rw [h5] at hf
    cases hf
  have p2 : G2 pg = some (.inr (0, [.ref pa, .int ln])) := q3 _ _ (fun hm => hst hm k_pg) k_pg
  have a2 : G2 pa = some (.inl (0, 360, .inl pf)) := q3 _ _ (fun hm => by obtain ⟨f5, h5⟩ := rw_sg_mem h.2.1 pa hm; rw [h5] at k_pa; cases k_pa) k_pa
  have r2 : G2 r = some (.inr (4, [va_rf (rw_nx L none), va_rf (rw_la L)])) := q3 _ _ (fun hm => rw_ne_row h.1 h.2.1 hm rfl) h.1
  refine cj_st (st' := [.int (nI (rw_cnt L))]) rfl ?_
  refine cj_istore_n (lv' := [(2, .int (nI (rw_cnt L))), (0, .ref pg), (1, .ref r)]) dX0_replaceBy_4 (by decide) rfl ?_
  refine cj_iload_n dX0_replaceBy_5 rfl ?_
  refine cj_bipush (v := 120) dX0_replaceBy_6 (by decide) ?_
  refine cj_icmp_le (tgt := 13) dX0_replaceBy_8 (by decide) (fun h9 => ?_) (fun h9 => absurd (nI_le (b := 120) hc (by decide)) h9)
  refine cj_aload_n dX0_replaceBy_13 rfl ?_
  refine cj_iload_n dX0_replaceBy_14 rfl ?_
  refine cj_put flX0_15 dX0_replaceBy_15 p2 rfl rfl (Nat.le_of_ble_eq_true rfl) ?_
  refine cj_nm (fun G3 e3 => ?_)
  have p3 : G3 pg = some (.inr (0, [.ref pa, .int (nI (rw_cnt L))])) := by rw [e3]; exact cj_up_s
  have f3 : cj_fr [pg] G2 G3 := by rw [e3]; exact cj_fr.up cj_fr.rf (by simp)
  have a3 := f3 _ _ (cj_ni1 (cj_nao a2 p2)) a2
  have r3 := f3 _ _ (cj_ni1 (cj_noo r2 p2 (by decide))) r2
  have s3 : rw_sp G3 L none 0 := rw_sp_fr f3 (fun q hq => by obtain ⟨f5, h5⟩ := rw_sp_mem q2 q hq; exact cj_ni1 (cj_noo h5 p2 (by decide))) q2
  refine cj_pc (pc' := 18) rfl ?_
  refine cj_aload_n dX0_replaceBy_18 rfl ?_
  refine cj_get flX0_25 dX0_replaceBy_19 r3 rfl ?_
  have fin : cj_J mX0_replaceBy 1 0 0 (fun v G' => v = some (.int 1) ∧ G' pg = some (.inr (0, [.ref pa, .int (nI (rw_cnt L))])) ∧ G' pa = some (.inl (0, 360, .inl (cd_fill L L 0 pf))) ∧ cj_fr (pg :: pa :: rw_ad L) G G') cj_no 0 0 23 [(3, va_rf (rw_nx L none)), (0, .ref pg)] [] G3 := by
    refine l_repl (Nat.le_refl 1) hcl L 0 pf G3 (fun x hx => hx) s3 s3 (by omega) p3 a3 (fun G4 g1 g2 => ?_)
    refine cj_iconst (v := 1) dX0_replaceBy_49 (by decide) ?_
    refine cj_zret rfl rfl dX0_replaceBy_50 ⟨rfl, g2 _ _ (cj_ni1 (cj_noa p3 a3)) p3, g1, fun q y hq hy => ?_⟩
    have y2 := q3 q y (fun e => hq (List.mem_cons_of_mem _ (List.mem_cons_of_mem _ e))) hy
    have y3 := f3 q y (cj_ni1 (fun e => hq (by rw [e]; exact List.mem_cons_self))) y2
    exact g2 q y (cj_ni1 (fun e => hq (by rw [e]; exact List.mem_cons_of_mem _ List.mem_cons_self))) y3
  cases L with
  | nil =>
    refine cj_st (st' := [.null]) rfl ?_
    refine cj_astore_nN (lv' := [(3, .null), (2, .int (nI (rw_cnt []))), (0, .ref pg), (1, .ref r)]) dX0_replaceBy_22 (by decide) rfl ?_
    exact cj_sub (lv' := [(3, .null), (0, .ref pg)]) (by simp) fin
  | cons z t2 =>
    refine cj_st (st' := [.ref z.1]) rfl ?_
    refine cj_astore_n (lv' := [(3, .ref z.1), (2, .int (nI (rw_cnt (z :: t2)))), (0, .ref pg), (1, .ref r)]) dX0_replaceBy_22 (by decide) rfl ?_
    exact cj_sub (lv' := [(3, .ref z.1), (0, .ref pg)]) (by simp) fin
