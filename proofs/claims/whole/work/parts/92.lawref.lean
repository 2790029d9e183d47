/-! THE LAW'S STATE: what the reference answers; compile, run -/
theorem nI_clm {a : Int32} (h : ¬ a < 0) : nI a.toNatClampNeg = a ∧ a.toNatClampNeg < 2 ^ 31 := by
  have h3 : (0 : Int) ≤ a.toInt := Int32.le_iff_toInt_le.mp (Int32.not_lt.mp h)
  have h5 : a.toNatClampNeg = a.toInt.toNat := rfl
  have h6 : a.toInt < 2 ^ 31 := Int32.toInt_lt a
  have h7 : a.toNatClampNeg < 2 ^ 31 := by rw [h5]; omega
  refine ⟨Int32.toInt_inj.mp ?_, h7⟩
  rw [nI_toInt h7, h5]; omega
theorem cd_w_b : ∀ (l : List fr_C) (c : Nat) (pf : Nat → Int32) (i : Nat), i < 3 * c → cd_w l c pf i = pf i := by
  intro l
  induction l with
  | nil => intro c pf i _; rfl
  | cons x t ih =>
    intro c pf i hi
    show cd_w t (c + 1) (upd (upd (upd pf (3 * c) x.1) (3 * c + 1) x.2.1) (3 * c + 2) x.2.2) i = pf i
    rw [ih (c + 1) _ i (by omega), upd_n (by omega), upd_n (by omega), upd_n (by omega)]
theorem cd_w_l : ∀ (l : List fr_C) (c : Nat) (pf : Nat → Int32) (j : Nat), j < l.length → cd_w l c pf (3 * (c + j)) = (l.getD j z3).1 ∧ cd_w l c pf (3 * (c + j) + 1) = (l.getD j z3).2.1 ∧ cd_w l c pf (3 * (c + j) + 2) = (l.getD j z3).2.2 := by
  intro l
  induction l with
  | nil => intro c pf j hj; exact absurd hj (by simp)
  | cons x t ih =>
    intro c pf j hj
    cases j with
    | zero =>
      have e : (x :: t).getD 0 z3 = x := rfl
      rw [e, Nat.add_zero]
      refine ⟨?_, ?_, ?_⟩
      · show cd_w t (c + 1) (upd (upd (upd pf (3 * c) x.1) (3 * c + 1) x.2.1) (3 * c + 2) x.2.2) (3 * c) = _
        rw [cd_w_b t _ _ _ (by omega), upd_n (by omega), upd_n (by omega), upd_s]
      · show cd_w t (c + 1) (upd (upd (upd pf (3 * c) x.1) (3 * c + 1) x.2.1) (3 * c + 2) x.2.2) (3 * c + 1) = _
        rw [cd_w_b t _ _ _ (by omega), upd_n (by omega), upd_s]
      · show cd_w t (c + 1) (upd (upd (upd pf (3 * c) x.1) (3 * c + 1) x.2.1) (3 * c + 2) x.2.2) (3 * c + 2) = _
        rw [cd_w_b t _ _ _ (by omega), upd_s]
    | succ j =>
      have hj : j + 1 < t.length + 1 := hj
      have e : (x :: t).getD (j + 1) z3 = t.getD j z3 := rfl
      have := ih (c + 1) (upd (upd (upd pf (3 * c) x.1) (3 * c + 1) x.2.1) (3 * c + 2) x.2.2) j (by omega)
      rw [e, show c + (j + 1) = c + 1 + j by omega]
      exact this
theorem cd_w_cd {l : List fr_C} {pf : Nat → Int32} : cd_l (cd_w l 0 pf) l := fun i hi _ => by
  have := cd_w_l l 0 pf i hi
  rw [Nat.zero_add] at this; exact this
section LRS
variable {I ad : Nat → Nat} {N : Nat} {s s' : ls_T} {S S' : rm_S} {G G' : cj_G}
theorem lr_go {M : cj_M} {d k n : Nat} {av : List Value} {V : Int32} (hI : ID I ad) (h : LWP I ad N s S G) (hT : cj_T M d k n av (rm_md (I 13) ad S G) (rm_posti (I 13) ad G (fun z S' => z = V ∧ RX N s S')) cj_no) : cj_T M d k n av G (fun v G' => v = some (.int V) ∧ ∃ S' : rm_S, LWP I ad N s S' G' ∧ RX N s S') cj_no := by
  refine cj_T.mono (lr_call hI h hT) (fun v G' q => ?_) (fun _ _ h => h)
  obtain ⟨z, S', e1, ⟨e2, e3⟩, e4, _⟩ := q
  subst e2
  exact ⟨e1, S', e4, e3⟩
theorem rx_0 {v : Int32} (h : RX N s S) : RX N s (rm_pf S 0 v) := h
theorem lr_place (hI : ID I ad) (hR : RX N s S) (h : LWP I ad N s S G) : cj_T mX7_place 0 0 0 [.ref (I 13)] G (fun v G' => v = some (.int s.2.2.2.2.2.2) ∧ ∃ S' : rm_S, LWP I ad N s S' G' ∧ RX N s S') cj_no := lr_go hI h (tR_place hI.2.2 (show wp_place S _ from ⟨hR.2.2.1, rx_0 hR⟩))
theorem lr_state (hI : ID I ad) (hR : RX N s S) (h : LWP I ad N s S G) : cj_T mX7_state 0 0 0 [.ref (I 13)] G (fun v G' => v = some (.int (mc_cond s.2.2.1.length s.2.2.2.2.1 s.2.2.2.2.2.1)) ∧ ∃ S' : rm_S, LWP I ad N s S' G' ∧ RX N s S') cj_no := lr_go hI h (tR_state hI.2.2 (show wp_state S _ from ⟨hR.2.2.2.2.2.1, rx_0 hR⟩))
theorem lr_why (hI : ID I ad) (hR : RX N s S) (h : LWP I ad N s S G) : cj_T mX7_why 0 0 0 [.ref (I 13)] G (fun v G' => v = some (.int s.2.2.2.2.2.1) ∧ ∃ S' : rm_S, LWP I ad N s S' G' ∧ RX N s S') cj_no := lr_go hI h (tR_why hI.2.2 (show wp_why S _ from ⟨hR.2.2.2.2.2.2, rx_0 hR⟩))
theorem lr_next (hI : ID I ad) (hR : RX N s S) (h : LWP I ad N s S G) : cj_T mX7_next 0 0 0 [.ref (I 13)] G (fun v G' => v = some (.int (nI s.2.2.2.1.2.2.2.2.1)) ∧ ∃ S' : rm_S, LWP I ad N s S' G' ∧ RX N s S') cj_no := by
  obtain ⟨s0, hk⟩ := hR.2.2.2.2.1
  exact lr_go hI h (tR_next hI.2.2 (show wp_next S _ from ⟨hk.2.2.2.2.2.2.2.2.2.1, rx_0 hR⟩))
theorem lr_depth (hI : ID I ad) (hR : RX N s S) (h : LWP I ad N s S G) : cj_T mX7_depth 0 0 0 [.ref (I 13)] G (fun v G' => v = some (.int (nI s.2.2.2.1.2.2.2.1.length)) ∧ ∃ S' : rm_S, LWP I ad N s S' G' ∧ RX N s S') cj_no := by
  obtain ⟨s0, hk⟩ := hR.2.2.2.2.1
  exact lr_go hI h (tR_depth hI.2.2 (show wp_depth S _ from ⟨hk.2.2.2.2.2.2.2.1, rx_0 hR⟩))
theorem lr_used (hI : ID I ad) (hR : RX N s S) (h : LWP I ad N s S G) : cj_T mX7_used 0 0 0 [.ref (I 13)] G (fun v G' => v = some (.int (nI (hsz s.2.2.2.1.1))) ∧ ∃ S' : rm_S, LWP I ad N s S' G' ∧ RX N s S') cj_no := by
  obtain ⟨s0, hk⟩ := hR.2.2.2.2.1
  exact lr_go hI h (tR_used hI.2.2 (show wp_used S _ from ⟨hk.2.2.2.1, rx_0 hR⟩))
theorem lr_collections (hI : ID I ad) (hR : RX N s S) (h : LWP I ad N s S G) : cj_T mX7_collections 0 0 0 [.ref (I 13)] G (fun v G' => v = some (.int s.2.2.2.1.2.2.2.2.2) ∧ ∃ S' : rm_S, LWP I ad N s S' G' ∧ RX N s S') cj_no := by
  obtain ⟨s0, hk⟩ := hR.2.2.2.2.1
  exact lr_go hI h (tR_collections hI.2.2 (show wp_collections S _ from ⟨hk.2.2.2.2.1, rx_0 hR⟩))
theorem lr_kind {a1 : Int32} {f : Nat → Int32} (hI : ID I ad) (hA : AX N s) (hR : RX N s S) (hf : hc f (hsz s.2.2.2.1.1) s.2.2.2.1.1) (h : LWP I ad N s S G) : cj_T mX7_kind 3 0 0 [.ref (I 13), .int a1] G (fun v G' => v = some (.int (hp_so f (nI (hsz s.2.2.2.1.1)) (mc_wa f (hsz s.2.2.2.1.1) 16 (cw 0 s.2.2.2.1.2.1) a1))) ∧ ∃ S' : rm_S, LWP I ad N s S' G' ∧ RX N s S') cj_no := by
  obtain ⟨s0, hk⟩ := hR.2.2.2.2.1
  exact lr_go hI h (tR_kind hI.2.2 (r_kind hf (ax_ga hA) hk ⟨rfl, rx_0 hR⟩))
theorem lr_value {a1 : Int32} {f : Nat → Int32} (hI : ID I ad) (hA : AX N s) (hR : RX N s S) (hf : hc f (hsz s.2.2.2.1.1) s.2.2.2.1.1) (h : LWP I ad N s S G) : cj_T mX7_value 2 0 0 [.ref (I 13), .int a1] G (fun v G' => v = some (.int (hp_me f (nI (hsz s.2.2.2.1.1)) (mc_wa f (hsz s.2.2.2.1.1) 16 (cw 0 s.2.2.2.1.2.1) a1))) ∧ ∃ S' : rm_S, LWP I ad N s S' G' ∧ RX N s S') cj_no := by
  obtain ⟨s0, hk⟩ := hR.2.2.2.2.1
  exact lr_go hI h (tR_value hI.2.2 (r_value hf (ax_ga hA) hk ⟨rfl, rx_0 hR⟩))
theorem lr_live (hN : N ≤ 200) (hI : ID I ad) (hA : AX N s) (hR : RX N s S) (h : LWP I ad N s S G) : cj_T mX7_live 2 0 0 [.ref (I 13)] G (fun v G' => v = some (.int (nI (hsz (ag_all s.2.2.2.1.1 N s.2.2.2.1.2.1 s.2.2.2.1.2.2.1 s.2.2.2.1.2.2.2.1).1))) ∧ ∃ S' : rm_S, LWP I ad N s S' G' ∧ RX N s S') cj_no := by
  obtain ⟨r1, r2, r3, r4, ⟨s0, hk⟩, r6, r7⟩ := hR
  refine lr_go hI h (tR_live hI.2.2 (r_live hN (ax_ga hA) hk (fun S' e1 e2 => ⟨rfl, ?_⟩)))
  obtain ⟨k1, k2, k3, k4, k5, k6, k7, k8, k9, k10, k11, k12⟩ := hk
  refine ⟨by rw [e1]; exact r1, fun j hj => by rw [e2 2 (by omega)]; exact r2 j hj, by rw [e1]; exact r3, by rw [e1]; exact r4, ⟨s0, by rw [e1]; exact k1, by rw [e1]; exact k2, k3, by rw [e1]; exact k4, by rw [e1]; exact k5, by rw [e1]; exact k6, by rw [e1]; exact k7, by rw [e1]; exact k8, by rw [e2 52 (by omega)]; exact k9, by rw [e1]; exact k10, ⟨by rw [e2 44 (by omega)]; exact k11.1, k11.2⟩, by rw [e2 38 (by omega)]; exact k12⟩, by rw [e1]; exact r6, by rw [e1]; exact r7⟩
theorem lr_code {a1 a2 : Int32} {pf : Nat → Int32} (hI : ID I ad) (hA : AX N s) (hR : RX N s S) (hf : cd_l pf s.2.2.1) (h : LWP I ad N s S G) : cj_T mX7_code 0 0 0 [.ref (I 13), .int a1, .int a2] G (fun v G' => v = some (.int (mc_part pf s.2.2.1.length a1 a2)) ∧ ∃ S' : rm_S, LWP I ad N s S' G' ∧ RX N s S') cj_no := by
  have hR' := hR
  obtain ⟨r1, r2, r3, r4, ⟨s0, hk⟩, r6, r7⟩ := hR'
  have hC := hA.2.2.1
  refine lr_go hI h (tR_code hI.2.2 ?_)
  have no : ¬ (¬ a1 < 0 ∧ ¬ nI s.2.2.1.length ≤ a1 ∧ ¬ a2 < 0 ∧ a2 < 3) → (-1 : Int32) = mc_part pf s.2.2.1.length a1 a2 := fun h9 => by unfold mc_part; rw [if_neg h9]
  refine ⟨fun h1 => ⟨no (fun h9 => h9.1 h1), rx_0 hR⟩, fun h1 => ⟨fun h2 => ⟨no (fun h9 => h9.2.1 (by rw [← r4]; exact h2)), rx_0 hR⟩, fun h2 => ⟨fun h3 => ⟨no (fun h9 => h9.2.2.1 h3), rx_0 hR⟩, fun h3 => ⟨fun h4 => ?_, fun h4 => ⟨no (fun h9 => h4 ?_), rx_0 hR⟩⟩⟩⟩⟩
  · rw [r4] at h2
    obtain ⟨e1, l1⟩ := nI_clm h1
    obtain ⟨e2, l2⟩ := nI_clm h3
    have hk1 : a1.toNatClampNeg < s.2.2.1.length := Classical.byContradiction fun h9 => h2 (by rw [← e1]; exact nI_le (by omega) l1)
    have hk2 : a2.toNatClampNeg ≤ 2 := Classical.byContradiction fun h9 => absurd h4 (by rw [← e2]; exact nI_ge (a := 2) (by omega) l2)
    have h43 : a2 < 3 := by rw [← e2]; exact nI_lt (b := 3) (by omega) (by omega)
    have e3 : 3 * a1 + a2 = nI (3 * a1.toNatClampNeg + a2.toNatClampNeg) := by
      rw [← nI_add, ← nI_m3, e1, e2]
    refine ⟨by rw [e3]; exact nI_vp (by omega) (by omega), ?_, rx_0 hR⟩
    unfold mc_part
    rw [if_pos ⟨h1, h2, h3, h43⟩, e3, nI_clamp (by omega)]
    have q1 := hf _ hk1 (by omega)
    have q2 := hk.2.2.2.2.2.2.2.2.2.2.2 _ hk1 (by omega)
    have hj : a2.toNatClampNeg = 0 ∨ a2.toNatClampNeg = 1 ∨ a2.toNatClampNeg = 2 := by omega
    rcases hj with hj | hj | hj
    · rw [hj, Nat.add_zero, q1.1, q2.1]
    · rw [hj, q1.2.1, q2.2.1]
    · rw [hj, q1.2.2, q2.2.2]
  · have := h9.2.2.2
    obtain ⟨e2, l2⟩ := nI_clm h3
    rw [← e2] at this ⊢
    refine nI_le (b := 2) (Classical.byContradiction fun h8 => ?_) (by omega)
    exact absurd this (nI_nlt (b := 3) (by omega) l2)
theorem lr_write0 {a1 : Int32} (hI : ID I ad) (hA : AX N s) (hR : RX N s S) (hw : ¬ ch_wr s.1 a1 = true) (h : LWP I ad N s S G) : cj_T mX7_write 0 0 0 [.ref (I 13), .int a1] G (fun v G' => v = some (.int 0) ∧ ∃ S' : rm_S, LWP I ad N s S' G' ∧ RX N s S') cj_no := by
  have h90 := hA.1
  refine lr_go hI h (tR_write hI.2.2 ?_)
  refine ⟨fun _ => ⟨rfl, rx_0 hR⟩, fun h1 => ⟨fun _ => ⟨rfl, rx_0 hR⟩, fun h2 => ⟨fun h3 => ?_, fun _ => ⟨rfl, rx_0 hR⟩⟩⟩⟩
  refine absurd ?_ hw
  simp only [ch_wr, Bool.and_eq_true, decide_eq_true_eq]
  refine ⟨h1, h2, Classical.byContradiction fun h9 => h3 ?_⟩
  rw [hR.1, show s.1 = 90 by omega]; rfl
theorem lr_write1 {a1 : Int32} (hI : ID I ad) (hA : AX N s) (hR : RX N s S) (hw : ch_wr s.1 a1 = true) (h : LWP I ad N (wr_s s a1) S G) : cj_T mX7_write 0 0 0 [.ref (I 13), .int a1] G (fun v G' => v = some (.int 1) ∧ ∃ S' : rm_S, LWP I ad N (wr_s s a1) S' G' ∧ RX N (wr_s s a1) S') cj_no := by
  have hw' := hw
  simp only [ch_wr, Bool.and_eq_true, decide_eq_true_eq] at hw'
  obtain ⟨w1, w2, w3⟩ := hw'
  have hn := wr_nI w1 w2
  obtain ⟨r1, r2, r3, r4, ⟨s0, hk⟩, r6, r7⟩ := hR
  refine lr_go hI h (tR_write hI.2.2 ?_)
  refine ⟨fun h1 => absurd h1 w1, fun _ => ⟨fun h2 => absurd h2 w2, fun _ => ⟨fun h3 => ?_, fun h3 => ?_⟩⟩⟩
  · refine ⟨by rw [r1]; exact nI_vp w3 (by omega), rfl, ?_⟩
    rw [r1, nI_clamp (by omega), ch_nar w1 w2, nI_1]
    refine ⟨rfl, fun j hj => ?_, r3, r4, ⟨s0, hk⟩, r6, r7⟩
    have hj : j < s.1 + 1 := hj
    show (if j = s.1 then a1 else S.2 2 j) = nI (if j = s.1 then a1.toNatClampNeg else s.2.1 j)
    by_cases e9 : j = s.1
    · rw [if_pos e9, if_pos e9, hn.1]
    · rw [if_neg e9, if_neg e9]; exact r2 j (by omega)
  · rw [r1] at h3
    have := (nI_eq (b := 90) (by omega) (by omega)).mp h3
    omega
theorem lr_thrown (hI : ID I ad) (hR : RX N s S) (h : LWP I ad N s S G) : cj_T mX7_thrown 0 0 0 [.ref (I 13)] G (fun v G' => v = some (.int (S.1 0)) ∧ (∃ S' : rm_S, LWP I ad N s S' G' ∧ RX N s S') ∧ G' (I 14) = G (I 14)) cj_no := by
  refine cj_T.mono (lr_call (Q := fun z S9 => z = S.1 0 ∧ S9 = S) hI h (tR_thrown hI.2.2 (show wp_thrown S _ from ⟨rfl, rfl⟩))) (fun v G' q => ?_) (fun _ _ h => h)
  obtain ⟨z, S9, e1, ⟨e2, e3⟩, e4, e5⟩ := q
  subst e2 e3
  exact ⟨e1, ⟨S9, e4, hR⟩, e5⟩
/-! compile -/
def cok_s (s : ls_T) (F : fr_F) : ls_T := (0, s.2.1, F.2 0, am0, 0, 0, -1)
def cil_s (s : ls_T) (q : Nat) : ls_T := (0, s.2.1, s.2.2.1, s.2.2.2.1, s.2.2.2.2.1, s.2.2.2.2.2.1, nI q)
theorem ch_L90 (hA : AX N s) : ch_L s.2.1 s.1 ≤ 90 := by
  have := (rd_lb_le (w := s.2.1) s.1 0 (fun _ => 0) 0).2
  have := hA.1
  unfold ch_L; omega
theorem ax_cok {tx : Nat → Nat} {F : fr_F} (hA : AX N s) (h : ps_tx tx (ch_L s.2.1 s.1) = .inr F) : AX N (cok_s s F) ∧ 0 < F.1 ∧ (F.2 0).length = F.1 := by
  obtain ⟨T, t1, t2, t3, t4, t5, t6⟩ := ty_tx (ch_L90 hA) h
  refine ⟨⟨Nat.zero_le _, hA.2.1, by show (F.2 0).length ≤ 120; omega, Or.inr ⟨T, mia_0 t1 (by show 0 < (F.2 0).length; omega) t5, fun i hi => t6 i (by have hi : i < (F.2 0).length := hi; omega)⟩⟩, t2, t3⟩
theorem lc_compile (hI : ID I ad) (hA : AX N s) (h : LWP I ad N s S G) : ∃ tx : Nat → Nat, (∀ j, tx j < 65536) ∧ (∀ j, j < ch_L s.2.1 s.1 → tx j = (rd_lb s.2.1 s.1 0 (fun _ => 0) 0).1 j) ∧ cj_T mX6_compile 61 (20 * s.1 + 60) (6 * (20 * s.1 + 60)) [.ref (I 0)] G (fun v G' => ∃ F : fr_F, ps_tx tx (ch_L s.2.1 s.1) = .inr F ∧ v = some (.int (nI F.1)) ∧ LWP I ad N (cok_s s F) S G') (fun E G' => ∃ q : Nat, ps_tx tx (ch_L s.2.1 s.1) = .inl q ∧ E = "java/lang/IllegalArgumentException" ∧ LWP I ad N (cil_s s q) S G') := by
  obtain ⟨h1, h2, ⟨rl, ra, rb, h3⟩, ⟨g3, h4, h5⟩, ⟨g4, h6, h7⟩, h8⟩ := h.1
  have h8' := h8
  obtain ⟨a, b, f, g, mv, sf, pf, cp9, hab, k1, k2, k3, k4, k5, k6, k7, k8, k9, k10, k11, k12⟩ := h8'
  have hab' : (∃ i, (i = 10 ∨ i = 11) ∧ a = I i) ∧ ∃ i, (i = 10 ∨ i = 11) ∧ b = I i := by
    rcases hab with ⟨rfl, rfl⟩ | ⟨rfl, rfl⟩
    · exact ⟨⟨10, Or.inl rfl, rfl⟩, 11, Or.inr rfl, rfl⟩
    · exact ⟨⟨11, Or.inr rfl, rfl⟩, 10, Or.inl rfl, rfl⟩
  refine ⟨ch_tx s.2.1 s.1 g3, rd_lb_w hA.2.1 _ _ _ _ h5, fun j hj => rd_lb_eq s.1 0 g3 (fun _ => 0) 0 (fun j hj => by omega) j (by rw [rd_lb_n (h := fun _ => 0)]; exact hj), ?_⟩
  refine cj_T.mono (t_compile (d := 61) h1 h3 h4 h6 h2 k7 k8 k1 k2 (hI.ne (by omega) (by omega) (by omega)) (hI.ne (by omega) (by omega) (by omega)) (hI.ne (by omega) (by omega) (by omega)) hA.1 hA.2.1 h5 h7 (Nat.le_refl _) (Nat.le_refl _) (Nat.le_refl _)) (fun v G' q => ?_) (fun E G' q => ?_)
  · obtain ⟨F, e1, e2, e3, e4, p1, ⟨rl', ra', rb', p2⟩, p3, p4, p5, p6, p7, p8, p9⟩ := q
    refine ⟨F, e1, e4, ?_⟩
    have keep : ∀ (i : Nat) (v : cj_E), (i = 1 ∨ (9 ≤ i ∧ i < 13)) → G (I i) = some v → G' (I i) = some v := fun i v hi hv => p9 _ _ (fun hz => by
      simp only [List.mem_cons, List.not_mem_nil, or_false] at hz
      rcases hz with hz | hz | hz | hz | hz | hz | hz | hz <;> exact absurd hz (hI.ne (by omega) (by omega) (by omega))) hv
    have keepa : ∀ (z : Nat) (v : cj_E), (∃ i, (i = 10 ∨ i = 11) ∧ z = I i) → G z = some v → G' z = some v := fun z v hz hv => by
      obtain ⟨i, hi, rfl⟩ := hz
      exact keep i v (by omega) hv
    refine lp_cls hI (F := [I 0, I 2, I 3, I 4, I 5, I 6, I 7, I 8]) (fun z hz => ?_) p9 h ⟨p1, keep 1 _ (by omega) h2, ⟨rl', ra', rb', p2⟩, p3, p4, a, b, f, g, mv, sf, _, cp9, hab, p7, p8, keepa a _ hab'.1 k3, keepa b _ hab'.2 k4, keep 12 _ (by omega) k5, keep 9 _ (by omega) k6, by rw [p5, ← e3]; rfl, p6, ⟨trivial, rfl, fun b hb => absurd hb List.not_mem_nil, Nat.zero_le _⟩, fun c x hc => by simp [cok_s, am0] at hc, cd_w_cd, k12⟩
    simp only [List.mem_cons, List.not_mem_nil, or_false] at hz
    rcases hz with rfl | rfl | rfl | rfl | rfl | rfl | rfl | rfl
    · exact ⟨0, by omega, rfl⟩
    · exact ⟨2, by omega, rfl⟩
    · exact ⟨3, by omega, rfl⟩
    · exact ⟨4, by omega, rfl⟩
    · exact ⟨5, by omega, rfl⟩
    · exact ⟨6, by omega, rfl⟩
    · exact ⟨7, by omega, rfl⟩
    · exact ⟨8, by omega, rfl⟩
  · obtain ⟨q, e1, e2, e3, p1, ⟨rl', ra', rb', p2⟩, p3, p4, p9⟩ := q
    refine ⟨q, e1, e3, ?_⟩
    have keep : ∀ (i : Nat) (v : cj_E), (i = 1 ∨ (5 ≤ i ∧ i < 13)) → G (I i) = some v → G' (I i) = some v := fun i v hi hv => p9 _ _ (cj_ni4 (hI.ne (by omega) (by omega) (by omega)) (hI.ne (by omega) (by omega) (by omega)) (hI.ne (by omega) (by omega) (by omega)) (hI.ne (by omega) (by omega) (by omega))) hv
    refine lp_cls hI (F := [I 0, I 2, I 3, I 4]) (fun z hz => ?_) p9 h ⟨p1, keep 1 _ (by omega) h2, ⟨rl', ra', rb', p2⟩, p3, p4, cm_fr h8 (fun z v hz hv => ?_)⟩
    · simp only [List.mem_cons, List.not_mem_nil, or_false] at hz
      rcases hz with rfl | rfl | rfl | rfl
      · exact ⟨0, by omega, rfl⟩
      · exact ⟨2, by omega, rfl⟩
      · exact ⟨3, by omega, rfl⟩
      · exact ⟨4, by omega, rfl⟩
    · simp only [List.mem_cons, List.not_mem_nil, or_false] at hz
      rcases hz with rfl | rfl | rfl | rfl | rfl | rfl | rfl | rfl
      · exact keep 7 _ (by omega) hv
      · exact keep 5 _ (by omega) hv
      · exact keep 6 _ (by omega) hv
      · exact keep 8 _ (by omega) hv
      · exact keep 9 _ (by omega) hv
      · exact keep 10 _ (by omega) hv
      · exact keep 11 _ (by omega) hv
      · exact keep 12 _ (by omega) hv
theorem lr_cok {tx : Nat → Nat} {F : fr_F} (hI : ID I ad) (hA : AX N s) (hR : RX N s S) (t1 : ∀ j, tx j < 65536) (t2 : ∀ j, j < ch_L s.2.1 s.1 → tx j = (rd_lb s.2.1 s.1 0 (fun _ => 0) 0).1 j) (e : ps_tx tx (ch_L s.2.1 s.1) = .inr F) (h : LWP I ad N (cok_s s F) S G) : cj_T mX7_compile 6 0 0 [.ref (I 13)] G (fun v G' => v = some (.int (nI F.1)) ∧ ∃ S' : rm_S, LWP I ad N (cok_s s F) S' G' ∧ RX N (cok_s s F) S' ∧ S'.1 0 = 0 ∧ G' (I 14) = G (I 14)) cj_no := by
  obtain ⟨r1, r2, r3, r4, ⟨s0, hk⟩, r6, r7⟩ := hR
  obtain ⟨_, hF0, hFl⟩ := ax_cok hA e
  obtain ⟨S', q0, q1, q2, q3, q4, q5, q6, q7, q8, q9, q10, q11, q12, q13, q14, q15, q16, q17⟩ := (ref_compile (tx := tx) hA.1 hA.2.1 r1 r2 t1 t2).2 F e
  refine cj_T.mono (lr_call (Q := fun z S9 => z = nI F.1 ∧ S9 = S') hI h (tR_compile hI.2.2 (q0 _ ⟨rfl, rfl⟩))) (fun v G' q => ?_) (fun _ _ h => h)
  obtain ⟨z, S9, e1, ⟨e2, e3⟩, e4, e5⟩ := q
  subst e2 e3
  refine ⟨e1, S9, e4, ⟨q2, fun j hj => absurd hj (Nat.not_lt_zero _), q3, by rw [q4, ← hFl]; rfl, ⟨0, q7.trans hk.1, q8, Or.inl rfl, q9, q10, q11, q12, q13, fun c x hc => by simp [cok_s, am0] at hc, q14, ⟨trivial, fun b hb => absurd hb List.not_mem_nil, by show 0 + 0 ≤ 400; omega⟩, q5⟩, ?_, q16⟩, q1, e5⟩
  rw [q15]
  show (1 : Int32) = mc_cond (F.2 0).length 0 0
  unfold mc_cond
  rw [if_neg (by omega)]; rfl
theorem lr_cil {tx : Nat → Nat} {q : Nat} (hI : ID I ad) (hA : AX N s) (hR : RX N s S) (t1 : ∀ j, tx j < 65536) (t2 : ∀ j, j < ch_L s.2.1 s.1 → tx j = (rd_lb s.2.1 s.1 0 (fun _ => 0) 0).1 j) (e : ps_tx tx (ch_L s.2.1 s.1) = .inl q) (h : LWP I ad N (cil_s s q) S G) : cj_T mX7_compile 6 0 0 [.ref (I 13)] G (fun v G' => v = some (.int 0) ∧ ∃ S' : rm_S, LWP I ad N (cil_s s q) S' G' ∧ RX N (cil_s s q) S' ∧ S'.1 0 = 1 ∧ G' (I 14) = G (I 14)) cj_no := by
  obtain ⟨r1, r2, r3, r4, ⟨s0, hk⟩, r6, r7⟩ := hR
  obtain ⟨k1, k2, k3, k4, k5, k6, k7, k8, k9, k10, k11, k12⟩ := hk
  obtain ⟨S', q0, q1, q2, q3, q4, q5⟩ := (ref_compile (tx := tx) hA.1 hA.2.1 r1 r2 t1 t2).1 q e
  have f4 : ∀ k ∈ rk_s, S'.1 k = S.1 k := q4
  have f5 : ∀ k ∈ rk_a, S'.2 k = S.2 k := q5
  refine cj_T.mono (lr_call (Q := fun z S9 => z = 0 ∧ S9 = S') hI h (tR_compile hI.2.2 (q0 _ ⟨rfl, rfl⟩))) (fun v G' q => ?_) (fun _ _ h => h)
  obtain ⟨z, S9, e1, ⟨e2, e3⟩, e4, e5⟩ := q
  subst e2 e3
  exact ⟨e1, S9, e4, ⟨q2, fun j hj => absurd hj (Nat.not_lt_zero _), q3, (f4 37 (by decide)).trans r4, ⟨s0, (f4 43 (by decide)).trans k1, (f4 45 (by decide)).trans k2, k3, (f4 46 (by decide)).trans k4, (f4 47 (by decide)).trans k5, (f4 49 (by decide)).trans k6, (f4 50 (by decide)).trans k7, (f4 51 (by decide)).trans k8, by rw [f5 52 (by decide)]; exact k9, (f4 53 (by decide)).trans k10, ⟨by rw [f5 44 (by decide)]; exact k11.1, k11.2⟩, by rw [f5 38 (by decide)]; exact k12⟩, (f4 54 (by decide)).trans r6, (f4 55 (by decide)).trans r7⟩, q1, e5⟩
theorem ax_cil {q : Nat} (hA : AX N s) : AX N (cil_s s q) := ⟨Nat.zero_le _, hA.2⟩
end LRS
