/-! THE READER'S METHODS: heads -/
def fw_is (X Y : List rw_I) (W : fr_F → fr_F) : Prop := ∀ (M : List rw_I) (F : fr_F), fr_is M F → fr_is (X ++ M ++ Y) (W F)
theorem fw_is_id : fw_is [] [] id := fun M F h => by rw [List.nil_append, List.append_nil]; exact h
theorem fw_is_co {X Y X2 Y2 : List rw_I} {W W2 : fr_F → fr_F} (h : fw_is X Y W) (h2 : fw_is X2 Y2 W2) : fw_is (X ++ X2) (Y2 ++ Y) (fun F => W (W2 F)) := by
  intro M F hM
  have := h _ _ (h2 M F hM)
  rw [show X ++ X2 ++ M ++ (Y2 ++ Y) = X ++ (X2 ++ M ++ Y2) ++ Y by simp only [List.append_assoc]]
  exact this
theorem rw_n_21 {s : Nat} {a : Int32} {o : Option Nat} : rw_n (s, 21, a, o) = 0 := by unfold rw_n; rw [if_pos rfl]
theorem rw_n_k {s : Nat} {k a : Int32} {o : Option Nat} (hk : ¬ k = 21) : rw_n (s, k, a, o) = 1 := by unfold rw_n; rw [if_neg hk]
theorem rs_c_k {pl : Nat → Nat} {x : rw_I} {t : List rw_I} (hk : ¬ x.2.1 = 21) : rs_c pl (x :: t) = (x.2.1, rs_a pl x, rs_b pl x) :: rs_c pl t := by
  simp only [rs_c, if_neg hk]
theorem rs_c_21 {pl : Nat → Nat} {s : Nat} {a : Int32} {o : Option Nat} {t : List rw_I} : rs_c pl ((s, 21, a, o) :: t) = rs_c pl t := by
  simp only [rs_c, if_pos]
theorem rs_a_t {pl : Nat → Nat} {s g : Nat} {k a : Int32} (hk : ¬ k = 19) : rs_a pl (s, k, a, some g) = nI (pl g) := by
  simp only [rs_a, if_neg hk]
theorem rs_b_t {pl : Nat → Nat} {s g : Nat} {k a : Int32} (hk : ¬ k = 19) : rs_b pl (s, k, a, some g) = 0 := by
  simp only [rs_b, if_neg hk]
theorem rw_ad_mem {x : rw_I} {A : List rw_I} (h : x ∈ A) : x.1 ∈ rw_ad A := List.mem_map.mpr ⟨x, h, rfl⟩
theorem fw_fun {q1 q2 s e r : Nat} (h1 : q1 ≠ s) (h2 : q2 ≠ e) : fw_is [(q1, 9, 0, some s), (q2, 11, 0, some e), (s, 21, 0, none)] [(r, 12, 0, none), (e, 21, 0, none)] fr_fun := by
  intro M F hM
  refine ⟨?_, ?_, fun pl b hp => ?_⟩
  · intro x hx g hg
    simp only [rw_ad_app, List.cons_append, List.nil_append, List.mem_cons, List.mem_append, List.not_mem_nil, or_false] at hx ⊢
    rcases hx with rfl | rfl | rfl | hx | rfl | rfl
    · cases hg; exact ⟨by simp [rw_ad], h1⟩
    · cases hg; exact ⟨by simp [rw_ad], h2⟩
    · cases hg
    · obtain ⟨a1, a2⟩ := hM.1 x hx g hg; exact ⟨by simp only [rw_ad, List.map_cons, List.map_append, List.mem_cons, List.mem_append] at a1 ⊢; simp [a1], a2⟩
    · cases hg
    · cases hg
  · rw [rw_cnt_app, rw_cnt_app, hM.2.1]
    show rw_n _ + (rw_n _ + (rw_n _ + 0)) + F.1 + (rw_n _ + (rw_n _ + 0)) = F.1 + 3
    rw [rw_n_k (by decide), rw_n_k (by decide), rw_n_21, rw_n_k (by decide), rw_n_21]; omega
  · obtain ⟨p1, p2⟩ := rs_p_app.mp hp
    obtain ⟨p3, p4⟩ := rs_p_app.mp p1
    rw [rw_cnt_app, hM.2.1] at p2
    simp only [rs_p, rw_cnt, rw_n_21, rw_n_k (show ¬ (9 : Int32) = 21 by decide), rw_n_k (show ¬ (11 : Int32) = 21 by decide), rw_n_k (show ¬ (12 : Int32) = 21 by decide), Nat.add_zero] at p3 p4 p2
    rw [rs_c_app, rs_c_app, hM.2.2 pl _ p4, rs_c_k (x := (q1, 9, 0, some s)) (show ¬ (9 : Int32) = 21 by decide), rs_c_k (x := (q2, 11, 0, some e)) (show ¬ (11 : Int32) = 21 by decide), rs_c_21, rs_c_k (x := (r, 12, 0, none)) (show ¬ (12 : Int32) = 21 by decide), rs_c_21, rs_a_t (by decide), rs_a_t (by decide), rs_b_t (by decide), rs_b_t (by decide), p3.2.2.1, p2.2.1]
    show (9, nI (b + 1 + 1), 0) :: (11, nI (b + (1 + 1 + F.1) + 1), 0) :: ([] ++ F.2 (b + (1 + 1)) ++ [(12, 0, 0)]) = (9, nI (b + 2), 0) :: (11, nI (b + 2 + F.1 + 1), 0) :: (F.2 (b + 2) ++ [(12, 0, 0)])
    rw [List.nil_append, show b + (1 + 1 + F.1) + 1 = b + 2 + F.1 + 1 by omega]
theorem fw_let {Wb : List rw_I} {B : fr_F} {s r : Nat} (hB : fr_is Wb B) : fw_is (Wb ++ [(s, 14, 0, none)]) [(r, 15, 1, none)] (fr_let B) := by
  intro M F hM
  refine fr_is_e (fr_is_ap (fr_is_ap (fr_is_ap hB (fr_is_1 (s := s) (k := 14) (a := 0) (by omega))) hM) (fr_is_1 (s := r) (k := 15) (a := 1) (by omega))) ?_ (fun b => ?_)
  · show B.1 + 1 + F.1 + 1 = B.1 + F.1 + 2; omega
  · show B.2 b ++ [(14, 0, 0)] ++ F.2 (b + (B.1 + 1)) ++ [(15, 1, 0)] = B.2 b ++ (14, 0, 0) :: (F.2 (b + B.1 + 1) ++ [(15, 1, 0)])
    rw [List.append_assoc, List.append_assoc, Nat.add_assoc]; rfl
theorem fr_is_fn {Wb : List rw_I} {B : fr_F} {q1 q2 s e r : Nat} (h1 : q1 ≠ s) (h2 : q2 ≠ e) (hB : fr_is Wb B) : fr_is ([(q1, 10, 0, some s), (q2, 11, 0, some e), (s, 21, 0, none)] ++ Wb ++ [(r, 12, 0, none)] ++ [(e, 21, 0, none)]) (B.1 + 3, fun b => (10, nI (b + 2), 0) :: (11, nI (b + 2 + B.1 + 1), 0) :: (B.2 (b + 2) ++ [(12, 0, 0)])) := by
  refine ⟨?_, ?_, fun pl b hp => ?_⟩
  · intro x hx g hg
    simp only [rw_ad_app, List.cons_append, List.nil_append, List.append_assoc, List.mem_cons, List.mem_append, List.not_mem_nil, or_false] at hx ⊢
    rcases hx with rfl | rfl | rfl | hx | rfl | rfl
    · cases hg; exact ⟨by simp [rw_ad], h1⟩
    · cases hg; exact ⟨by simp [rw_ad], h2⟩
    · cases hg
    · obtain ⟨a1, a2⟩ := hB.1 x hx g hg; exact ⟨by simp only [rw_ad, List.map_cons, List.map_append, List.mem_cons, List.mem_append] at a1 ⊢; simp [a1], a2⟩
    · cases hg
    · cases hg
  · rw [rw_cnt_app, rw_cnt_app, rw_cnt_app, hB.2.1]
    show rw_n _ + (rw_n _ + (rw_n _ + 0)) + B.1 + (rw_n _ + 0) + (rw_n _ + 0) = B.1 + 3
    rw [rw_n_k (by decide), rw_n_k (by decide), rw_n_21, rw_n_k (by decide), rw_n_21]; omega
  · obtain ⟨p0, p9⟩ := rs_p_app.mp hp
    obtain ⟨p1, p2⟩ := rs_p_app.mp p0
    obtain ⟨p3, p4⟩ := rs_p_app.mp p1
    rw [rw_cnt_app, rw_cnt_app, hB.2.1] at p9
    simp only [rs_p, rw_cnt, rw_n_21, rw_n_k (show ¬ (10 : Int32) = 21 by decide), rw_n_k (show ¬ (11 : Int32) = 21 by decide), rw_n_k (show ¬ (12 : Int32) = 21 by decide), Nat.add_zero] at p3 p4 p9
    rw [rs_c_app, rs_c_app, rs_c_app, hB.2.2 pl _ p4, rs_c_k (x := (q1, 10, 0, some s)) (show ¬ (10 : Int32) = 21 by decide), rs_c_k (x := (q2, 11, 0, some e)) (show ¬ (11 : Int32) = 21 by decide), rs_c_21, rs_c_k (x := (r, 12, 0, none)) (show ¬ (12 : Int32) = 21 by decide), rs_c_21, rs_a_t (by decide), rs_a_t (by decide), rs_b_t (by decide), rs_b_t (by decide), p3.2.2.1, p9.1]
    show (10, nI (b + 1 + 1), 0) :: (11, nI (b + (1 + 1 + B.1 + 1)), 0) :: ([] ++ B.2 (b + (1 + 1)) ++ [(12, 0, 0)] ++ []) = (10, nI (b + 2), 0) :: (11, nI (b + 2 + B.1 + 1), 0) :: (B.2 (b + 2) ++ [(12, 0, 0)])
    rw [List.nil_append, List.append_nil, show b + (1 + 1 + B.1 + 1) = b + 2 + B.1 + 1 by omega]
theorem fw_fix {Wb : List rw_I} {B : fr_F} {q1 q2 s e r s4 r2 : Nat} (h1 : q1 ≠ s) (h2 : q2 ≠ e) (hB : fr_is Wb B) : fw_is ([(q1, 10, 0, some s), (q2, 11, 0, some e), (s, 21, 0, none)] ++ Wb ++ [(r, 12, 0, none)] ++ [(e, 21, 0, none)] ++ [(s4, 14, 0, none)]) [(r2, 15, 1, none)] (fr_fix B) := by
  intro M F hM
  refine fr_is_e (fw_let (fr_is_fn h1 h2 hB) M F hM) ?_ (fun b => ?_)
  · show B.1 + 3 + F.1 + 2 = B.1 + F.1 + 5; omega
  · show (10, nI (b + 2), 0) :: (11, nI (b + 2 + B.1 + 1), 0) :: (B.2 (b + 2) ++ [(12, 0, 0)]) ++ (14, 0, 0) :: (F.2 (b + (B.1 + 3) + 1) ++ [(15, 1, 0)]) = (10, nI (b + 2), 0) :: (11, nI (b + 2 + B.1 + 1), 0) :: (B.2 (b + 2) ++ (12, 0, 0) :: (14, 0, 0) :: (F.2 (b + 2 + B.1 + 2) ++ [(15, 1, 0)]))
    rw [show b + (B.1 + 3) + 1 = b + 2 + B.1 + 2 by omega]
    simp only [List.cons_append, List.append_assoc, List.nil_append]
section RB
variable {rd rt nb L : Nat} {tx : Nat → Nat} {ill : Int32} {d d0 : Nat} {dp : Int32}
theorem as_l {l : List (Nat × List rw_I)} {ls : List rw_I} {x : rw_I} : x.1 ∈ rd_as l (x :: ls) := rd_as_l.mem_iff.mpr List.mem_cons_self
theorem as_l2 {l : List (Nat × List rw_I)} {ls : List rw_I} {x : rw_I} {a : Nat} (h : a ∈ rd_as l ls) : a ∈ rd_as l (x :: ls) := rd_as_l.mem_iff.mpr (List.mem_cons_of_mem _ h)
/-- rows.openFunction -/
theorem cx_open {G0 G : cj_G} {Qx : String → cj_G → Prop} {β : Type} {R0 R : ps_Q β} {sc : List Nat} {p : Nat} {t : Int} {l : List (Nat × List rw_I)} {ls : List rw_I} {k n a1 e : Nat} {A : List rw_I} {kd : Int32} (hc : rd_cx rd rt nb L tx ill G0 Qx R0 R sc p t ((a1, A) :: l) ls G k n) (hd : 10 ≤ d) (ht : 3 ≤ t) (he : e ∈ rw_ad ls) {K : cj_G → Nat → Nat → Prop} (h : ∀ (q1 q2 s : Nat) (G' : cj_G), q1 ≠ s → q2 ≠ e → rd_cx rd rt nb L tx ill G0 Qx R0 R sc p (t - 3) ((a1, A ++ [(q1, kd, 0, some s), (q2, 11, 0, some e), (s, 21, 0, none)]) :: l) ls G' (k - 3) (n - 18) → K G' (k - 3) (n - 18)) : sk_V G rd 3 ∧ sk_c_v mX3_openFunction d k n [.ref rd, .ref a1, .int kd, .ref e] G Qx K := by
  obtain ⟨r1, r2⟩ := cx_room hc
  refine ⟨⟨_, (cx_i hc).1⟩, 9, 3, 18, (fun v G' => v = none ∧ ∃ q1 q2 s : Nat, q1 ≠ s ∧ q2 ≠ e ∧ rd_st rd rt nb L tx ill G0 sc p ((a1, A ++ [(q1, kd, 0, some s), (q2, 11, 0, some e), (s, 21, 0, none)]) :: l) ls G'), (fun _ _ => False), hd, by omega, by omega, ?_, fun _ _ h9 => absurd h9 id, fun v G' q => ?_⟩
  · refine tq_X3_openFunction (by omega) ?_
    unfold wq_X3_openFunction
    have hc0 : rd_cx rd rt nb L tx ill G0 (fun _ _ => False) (.inr (p, ()) : ps_Q Unit) (.inr (p, ())) sc p 3 ((a1, A) :: l) ls G 3 18 := ⟨rfl, fun q E G' h1 => (by cases h1), ⟨by show ((20 * (p - p) : Nat) : Int) + 3 ≤ 3; omega, by show 6 * (((20 * (p - p) : Nat) : Int) + 3) ≤ 18; omega⟩, hc.2.2.2⟩
    refine cx_label hc0 (by omega) (by omega) (fun s G1 hc1 => cx_step hc1 (by omega) (by omega) (fun q1 G2 w1 hc2 => ?_))
    have n1 : q1 ≠ s := fun e9 => w1 (by rw [e9]; exact as_l (x := (s, 21, 0, none)))
    refine cx_add hc2 (by omega) (fun G3 hc3 => cx_step hc3 (by omega) (by omega) (fun q2 G4 w2 hc4 => ?_))
    have n2 : q2 ≠ e := fun e9 => w2 (by rw [e9]; exact as_l2 (List.mem_append_right _ he))
    refine cx_add hc4 (by omega) (fun G5 hc5 => cx_add hc5 (by omega) (fun G6 hc6 => ⟨rfl, q1, q2, s, n1, n2, ?_⟩))
    have h9 := hc6.2.2.2
    simp only [List.append_assoc, List.cons_append, List.nil_append] at h9
    exact h9
  · obtain ⟨q0, q1, q2, s, n1, n2, q4⟩ := q
    exact ⟨q0, h q1 q2 s G' n1 n2 (cx_st hc q4 (by omega) (by omega))⟩
def rd_finH (rd rt nb L : Nat) (tx : Nat → Nat) (ill : Int32) (G0 : cj_G) (sc : List Nat) (a1 a2 : Nat) (A B : List rw_I) (l : List (Nat × List rw_I)) (ls : List rw_I) (p' : Nat) (x : List Nat × (fr_F → fr_F)) (G' : cj_G) : Prop := ∃ (X Y : List rw_I) (ys : List Nat), fw_is X Y x.2 ∧ x.1 = sc ++ ys ∧ rd_st rd rt nb L tx ill G0 x.1 p' ((a1, A ++ X) :: (a2, Y ++ B) :: l) ls G'
def rd_H1 (rd rt nb L : Nat) (tx : Nat → Nat) (ill : Int32) (M : cj_M) (R : ps_Q (List Nat × (fr_F → fr_F))) (sc : List Nat) (p a1 a2 : Nat) (tl : List Value) (d : Nat) (s : Int) : Prop := ∀ (G0 : cj_G) (A B : List rw_I) (l : List (Nat × List rw_I)) (ls : List rw_I) (G : cj_G), rd_st rd rt nb L tx ill G0 sc p ((a1, A) :: (a2, B) :: l) ls G → ∀ k n : Nat, rd_bg (-s) p R k n → cj_T M d k n (.ref rd :: .ref a1 :: .ref a2 :: tl) G (fun v G' => v = none ∧ ∃ (p1 : Nat) (x : List Nat × (fr_F → fr_F)), R = .inr (p1, x) ∧ rd_finH rd rt nb L tx ill G0 sc a1 a2 A B l ls p1 x G') (rd_bad rd rt nb L G0 R)
def ps_h92 (tx : Nat → Nat) (L : Nat) (sc : List Nat) (p : Nat) : ps_Q (List Nat × (fr_F → fr_F)) := if 97 ≤ rd_ch tx L (p + 1) ∧ rd_ch tx L (p + 1) ≤ 122 then .inr (p + 2, (sc ++ [rd_ch tx L (p + 1)], fr_fun)) else .inl (p + 1)
theorem rc_function {sc : List Nat} {p a1 a2 : Nat} (hd : 11 ≤ d) (hp : p < L) : rd_H1 rd rt nb L tx ill mX3_function (ps_h92 tx L sc p) sc p a1 a2 [] d 10 := by
  intro G0 A B l ls G hst k n hb
  refine tq_X3_function (by omega) ?_
  unfold wq_X3_function
  have hc := cx_begin hst hb
  have hq := (cx_p hc).1
  have hae : ps_ae L (p + 1) (ps_h92 tx L sc p) := by
    unfold ps_h92
    split
    · next h => exact ⟨Nat.le_succ _, rd_ch_in (tx := tx) (L := L) (p := p + 1) (by omega)⟩
    · exact ⟨Nat.le_refl _, hp⟩
  refine cx_inc hc hp hae (fun G1 hc1 => cx_name hc1 (by omega) (by omega) (fun h1 => ⟨Nat.le_refl _, h1⟩) (fun G2 hn _ hc2 => ?_))
  refine cx_bind _ hc2 (by omega) (by omega) (by omega) (fun G3 hc3 => cx_label hc3 (by omega) (by omega) (fun e G4 hc4 => ?_))
  refine cx_open hc4 (by omega) (by omega) List.mem_cons_self (fun q1 q2 s G5 n1 n2 hc5 => ?_)
  refine cx_addFirst (x := (e, 21, 0, none)) (cx_perm hc5 (List.Perm.swap _ _ _)) (by omega) (fun G6 hc6 => cx_stepN hc6 (by omega) (by omega) (fun r G7 hc7 => ?_))
  refine cx_addFirst (x := (r, 12, 0, none)) hc7 (by omega) (fun G8 hc8 => ?_)
  have hc9 := cx_perm hc8 (List.Perm.swap _ _ _)
  exact ⟨rfl, p + 2, _, hc9.1, _, [(r, 12, 0, none), (e, 21, 0, none)], [rd_ch tx L (p + 1)], fw_fun n1 n2, rfl, hc9.2.2.2⟩
variable {E : List Nat → Nat → ps_Q fr_F}
def ps_hlt (tx : Nat → Nat) (L : Nat) (E : List Nat → Nat → ps_Q fr_F) (sc : List Nat) (p : Nat) : ps_Q (List Nat × (fr_F → fr_F)) := ps_bd (E sc (p + 2)) (fun p3 B => ps_xp tx L 59 p3 (fun p4 => .inr (p4, (sc ++ [rd_ch tx L p], fr_let B))))
theorem rc_boundValue (hX : rd_CM rd rt nb L tx ill mX3_expression E [.int (dp + 1)] d0 (-2)) (hE : ∀ sc p, p ≤ L → ps_ad L p (E sc p)) {sc : List Nat} {p a1 a2 : Nat} (hd : 11 ≤ d) (hd0 : d0 + 1 ≤ d) (hn : 97 ≤ rd_ch tx L p ∧ rd_ch tx L p ≤ 122) (he : rd_ch tx L (p + 1) = 61) : rd_H1 rd rt nb L tx ill mX3_boundValue (ps_hlt tx L E sc p) sc p a1 a2 [.int dp] d 10 := by
  intro G0 A B l ls G hst k n hb
  refine tq_X3_boundValue (by omega) ?_
  unfold wq_X3_boundValue
  have hc := cx_begin hst hb
  have hq := (cx_p hc).1
  have hp1 : p + 1 < L := rd_ch_in (tx := tx) (by omega)
  have hae : ps_ad L (p + 2) (ps_hlt tx L E sc p) := ps_ad_bd (hE _ _ hp1) (fun p3 x _ h3 => ps_ae_of (ps_ad_xp (by omega) h3 (fun h4 => ⟨Nat.le_refl _, h4⟩)))
  refine cx_name (cx_R hc (if_pos hn).symm) (by omega) (by omega) (fun h1 => ps_ae_of (ps_ad_le (by omega) hae)) (fun G1 _ _ hc1 => ?_)
  have e1 : ps_hlt tx L E sc p = ps_xp tx L 61 (p + 1) (fun p2 => ps_bd (E sc p2) (fun p3 B => ps_xp tx L 59 p3 (fun p4 => .inr (p4, (sc ++ [rd_ch tx L p], fr_let B))))) := by
    unfold ps_xp; rw [if_pos he]; rfl
  refine cx_expect 61 (cx_R hc1 e1) (by omega) (by omega) (by omega) (by omega) (fun h1 => ps_ae_of hae) (fun G2 _ _ hc2 => ?_)
  refine cx_go (hX sc (p + 2) hp1) hc2 (by omega) (by omega) (by omega) (hE _ _ hp1) (fun p3 B h3 => ps_ae_of (ps_ad_xp (by omega) h3 (fun h4 => ⟨Nat.le_refl _, h4⟩))) (fun p3 Bf r Wb G3 k3 n3 _ h3 h4 hw hc3 => ?_)
  refine cx_append (cx_perm hc3 (List.Perm.swap _ _ _)) (by omega) (fun G4 hc4 => ?_)
  refine cx_expect 59 hc4 (by omega) (by omega) (by omega) (by omega) (fun h1 => ⟨Nat.le_refl _, h1⟩) (fun G5 _ _ hc5 => ?_)
  have hch := cx_ch hc5 p
  refine cx_bind _ hc5 (by omega) (by omega) (by omega) (fun G6 hc6 => cx_add2 hc6 (by omega) (by omega) (fun s G7 hc7 => cx_stepN hc7 (by omega) (by omega) (fun r2 G8 hc8 => ?_)))
  refine cx_addFirst (x := (r2, 15, 1, none)) (cx_perm hc8 (List.Perm.swap _ _ _)) (by omega) (fun G9 hc9 => ?_)
  have hcA := cx_perm hc9 (List.Perm.swap _ _ _)
  have hs := hcA.2.2.2
  rw [List.append_assoc] at hs
  exact ⟨rfl, p3 + 1, _, hcA.1, Wb ++ [(s, 14, 0, none)], [(r2, 15, 1, none)], [rd_ch tx L p], fw_let hw, rfl, hs⟩
def ps_hfx (tx : Nat → Nat) (L : Nat) (E : List Nat → Nat → ps_Q fr_F) (sc : List Nat) (p : Nat) : ps_Q (List Nat × (fr_F → fr_F)) := if 97 ≤ rd_ch tx L (p + 1) ∧ rd_ch tx L (p + 1) ≤ 122 then (if rd_ch tx L (p + 2) = rd_ch tx L (p + 1) then .inl (p + 2) else if 97 ≤ rd_ch tx L (p + 2) ∧ rd_ch tx L (p + 2) ≤ 122 then ps_xp tx L 61 (p + 3) (fun p4 => ps_bd (E (sc ++ [rd_ch tx L (p + 1), rd_ch tx L (p + 2)]) p4) (fun p5 B => ps_xp tx L 59 p5 (fun p6 => .inr (p6, (sc ++ [rd_ch tx L (p + 1)], fr_fix B))))) else .inl (p + 2)) else .inl (p + 1)
theorem ps_ae_fx3 (hE : ∀ sc p, p ≤ L → ps_ad L p (E sc p)) {sc sc1 : List Nat} {p : Nat} (hp : p ≤ L) : ps_ae L p (ps_xp tx L 61 p (fun p4 => ps_bd (E sc p4) (fun p5 B => ps_xp tx L 59 p5 (fun p6 => .inr (p6, (sc1, fr_fix B)))))) := ps_ae_of (ps_ad_xp (by omega) hp (fun h => ps_ae_of (ps_ad_bd (hE _ _ h) (fun p5 x _ h5 => ps_ae_of (ps_ad_xp (by omega) h5 (fun h4 => ⟨Nat.le_refl _, h4⟩))))))
theorem ps_ae_fx2 (hE : ∀ sc p, p ≤ L → ps_ad L p (E sc p)) {sc : List Nat} {p : Nat} (hp : p + 2 ≤ L) : ps_ae L (p + 2) (if rd_ch tx L (p + 2) = rd_ch tx L (p + 1) then .inl (p + 2) else if 97 ≤ rd_ch tx L (p + 2) ∧ rd_ch tx L (p + 2) ≤ 122 then ps_xp tx L 61 (p + 3) (fun p4 => ps_bd (E (sc ++ [rd_ch tx L (p + 1), rd_ch tx L (p + 2)]) p4) (fun p5 B => ps_xp tx L 59 p5 (fun p6 => .inr (p6, (sc ++ [rd_ch tx L (p + 1)], fr_fix B))))) else .inl (p + 2) : ps_Q (List Nat × (fr_F → fr_F))) := by
  split
  · exact ⟨Nat.le_refl _, hp⟩
  · split
    · next h =>
      have h1 : p + 2 < L := rd_ch_in (tx := tx) (by omega)
      have := ps_ae_fx3 (tx := tx) hE (sc := sc ++ [rd_ch tx L (p + 1), rd_ch tx L (p + 2)]) (sc1 := sc ++ [rd_ch tx L (p + 1)]) (p := p + 3) h1
      exact ps_ae_of (ps_ad_lt (by omega) this)
    · exact ⟨Nat.le_refl _, hp⟩
theorem rc_boundFunction (hX : rd_CM rd rt nb L tx ill mX3_expression E [.int (dp + 1)] d0 (-2)) (hE : ∀ sc p, p ≤ L → ps_ad L p (E sc p)) {sc : List Nat} {p a1 a2 : Nat} (hd : 11 ≤ d) (hd0 : d0 + 1 ≤ d) (hp : p < L) : rd_H1 rd rt nb L tx ill mX3_boundFunction (ps_hfx tx L E sc p) sc p a1 a2 [.int dp] d 10 := by
  intro G0 A B l ls G hst k n hb
  refine tq_X3_boundFunction (by omega) ?_
  unfold wq_X3_boundFunction
  have hc := cx_begin hst hb
  have hq := (cx_p hc).1
  have hc1' := cx_ch hc (p + 1)
  have hc2' := cx_ch hc (p + 2)
  have hc3' := cx_ch hc (p + 1 + 1)
  have hae : ps_ae L (p + 1) (ps_hfx tx L E sc p) := by
    unfold ps_hfx
    split
    · next h =>
      have h1 : p + 1 < L := rd_ch_in (tx := tx) (by omega)
      exact ps_ae_of (ps_ad_lt (by omega) (ps_ae_fx2 hE h1))
    · exact ⟨Nat.le_refl _, hp⟩
  refine cx_inc hc hp hae (fun G1 hc1 => cx_name hc1 (by omega) (by omega) (fun h1 => ps_ae_fx2 hE h1) (fun G2 hn _ hc2 => cx_peek hc2 (by omega) ?_))
  by_cases hs : rd_ch tx L (p + 2) = rd_ch tx L (p + 1)
  · exact ⟨fun h9 => absurd ((nI_eq (by omega) (by omega)).mpr hs) h9, fun _ => cx_refuse (cx_R hc2 (if_pos hs)) (by omega) (by omega)⟩
  · refine ⟨fun _ => ?_, fun h9 => absurd ((nI_eq (by omega) (by omega)).mp h9) hs⟩
    refine cx_name (cx_R hc2 (if_neg hs)) (by omega) (by omega) (fun h1 => ps_ae_fx3 hE h1) (fun G3 hn2 _ hc3 => ?_)
    refine cx_expect 61 hc3 (by omega) (by omega) (by omega) (by omega) (fun h1 => ps_ae_of (ps_ad_bd (hE _ _ h1) (fun p5 x _ h5 => ps_ae_of (ps_ad_xp (by omega) h5 (fun h4 => ⟨Nat.le_refl _, h4⟩))))) (fun G4 _ hp4 hc4 => ?_)
    refine cx_bind _ hc4 (by omega) (by omega) (by omega) (fun G5 hc5 => cx_bind _ hc5 (by omega) (by omega) (by rw [List.length_append]; show sc.length + 1 < p + 3 + 1; omega) (fun G6 hc6 => cx_label hc6 (by omega) (by omega) (fun e G7 hc7 => ?_)))
    refine cx_open hc7 (by omega) (by omega) List.mem_cons_self (fun q1 q2 s G8 n1 n2 hc8 => ?_)
    rw [List.append_assoc] at hc8
    refine cx_go (hX (sc ++ ([rd_ch tx L (p + 1)] ++ [rd_ch tx L (p + 2)])) (p + 4) hp4) hc8 (by omega) (by omega) (by omega) (hE _ _ hp4) (fun p5 B h5 => ps_ae_of (ps_ad_xp (by omega) h5 (fun h4 => ⟨Nat.le_refl _, h4⟩))) (fun p5 Bf r Wb G9 k9 n9 _ h5 h6 hw hc9 => ?_)
    refine cx_append (cx_perm hc9 (List.Perm.swap _ _ _)) (by omega) (fun Ga hca => cx_add2 hca (by omega) (by omega) (fun s3 Gb hcb => cx_add (x := (e, 21, 0, none)) hcb (by omega) (fun Gc hcc => ?_)))
    refine cx_expect 59 hcc (by omega) (by omega) (by omega) (by omega) (fun h1 => ⟨Nat.le_refl _, h1⟩) (fun Gd _ _ hcd => cx_g4 hcd ?_)
    have hl : (sc ++ ([rd_ch tx L (p + 1)] ++ [rd_ch tx L (p + 2)])).length = sc.length + 1 + 1 := by simp
    rw [hl, nI_pred]
    refine cx_p4 (sc.length + 1) hcd (by omega) (fun Ge hce => ?_)
    have ht : (sc ++ ([rd_ch tx L (p + 1)] ++ [rd_ch tx L (p + 2)])).take (sc.length + 1) = sc ++ [rd_ch tx L (p + 1)] := by
      rw [← List.append_assoc, List.take_left' (by simp)]
    rw [ht] at hce
    refine cx_add2 hce (by omega) (by omega) (fun s4 Gf hcf => cx_stepN hcf (by omega) (by omega) (fun r2 Gg hcg => ?_))
    refine cx_addFirst (x := (r2, 15, 1, none)) (cx_perm hcg (List.Perm.swap _ _ _)) (by omega) (fun Gh hch => ?_)
    have hci := cx_perm hch (List.Perm.swap _ _ _)
    have hst := hci.2.2.2
    have hf := fw_fix (r := s3) (s4 := s4) (r2 := r2) n1 n2 hw
    simp only [List.append_assoc] at hst hf
    exact ⟨rfl, p5 + 1, _, hci.1, _, [(r2, 15, 1, none)], [rd_ch tx L (p + 1)], hf, rfl, hst⟩
theorem rc_head (hX : rd_CM rd rt nb L tx ill mX3_expression E [.int (dp + 1)] d0 (-2)) (hE : ∀ sc p, p ≤ L → ps_ad L p (E sc p)) {sc : List Nat} {p a1 a2 : Nat} (hd : 11 ≤ d) (hd0 : d0 + 1 ≤ d) (hh : rd_hd tx L p = true) : rd_H1 rd rt nb L tx ill mX3_head (ps_h1 tx L E sc p) sc p a1 a2 [.int dp] (d + 1) 10 := by
  intro G0 A B l ls G hst k n hb
  refine tq_X3_head (by omega) ?_
  unfold wq_X3_head
  have hc := cx_begin hst hb
  have hch := cx_ch hc p
  have hp : p < L := by
    refine rd_ch_in (tx := tx) (fun h9 => ?_)
    unfold rd_hd at hh; rw [h9] at hh; simp at hh
  have hpa : ps_ad L p (ps_h1 tx L E sc p) := ps_ad_h1 hE hh
  have q92 : nI (rd_ch tx L p) = 92 ↔ rd_ch tx L p = 92 := nI_eq (b := 92) (by omega) (by omega)
  have q64 : nI (rd_ch tx L p) = 64 ↔ rd_ch tx L p = 64 := nI_eq (b := 64) (by omega) (by omega)
  have fin : ∀ {M : cj_M} {tl : List Value} {R1 : ps_Q (List Nat × (fr_F → fr_F))}, ps_h1 tx L E sc p = R1 → rd_H1 rd rt nb L tx ill M R1 sc p a1 a2 tl d 10 → sk_c_v M (d + 1) k n (.ref rd :: .ref a1 :: .ref a2 :: tl) G (rd_bad rd rt nb L G0 (ps_h1 tx L E sc p)) (fun G' _ _ => (none : Option Value) = none ∧ ∃ (p1 : Nat) (x : List Nat × (fr_F → fr_F)), ps_h1 tx L E sc p = .inr (p1, x) ∧ rd_finH rd rt nb L tx ill G0 sc a1 a2 A B l ls p1 x G') := by
    intro M tl R1 e hM
    refine cx_call (Z := rd_finH rd rt nb L tx ill G0 sc a1 a2 A B l ls) (KK := fun p1 x => .inr (p1, x)) (hM G0 A B l ls G hst) (cx_R hc (by rw [e, ps_bd_id])) (by omega) (by omega) (by omega) (e ▸ hpa) (fun p1 x h1 => ⟨Nat.le_refl _, h1⟩) (fun p1 x G' k' n' e1 _ _ z _ => ⟨rfl, p1, x, e.trans e1, z⟩)
  refine cx_peek hc (by omega) ⟨fun h1 => ⟨fun h2 => ?_, fun h2 => ?_⟩, fun h1 => ?_⟩
  · have n1 : ¬ rd_ch tx L p = 92 := fun h => h1 (q92.mpr h)
    have n2 : ¬ rd_ch tx L p = 64 := fun h => h2 (q64.mpr h)
    have h3 : (97 ≤ rd_ch tx L p ∧ rd_ch tx L p ≤ 122) ∧ rd_ch tx L (p + 1) = 61 := by
      unfold rd_hd at hh
      simp only [Bool.or_eq_true, Bool.and_eq_true, decide_eq_true_eq] at hh
      rcases hh with h | h | h
      · exact absurd h n1
      · exact absurd h n2
      · exact h
    refine ⟨⟨_, (cx_i hc).1⟩, fin ?_ (rc_boundValue hX hE hd hd0 h3.1 h3.2)⟩
    unfold ps_h1; rw [if_neg n1, if_neg n2]; rfl
  · have n1 : ¬ rd_ch tx L p = 92 := fun h => h1 (q92.mpr h)
    have n2 : rd_ch tx L p = 64 := q64.mp h2
    refine ⟨⟨_, (cx_i hc).1⟩, fin ?_ (rc_boundFunction hX hE hd hd0 hp)⟩
    unfold ps_h1; rw [if_neg n1, if_pos n2]; rfl
  · have n1 : rd_ch tx L p = 92 := q92.mp h1
    refine ⟨⟨_, (cx_i hc).1⟩, fin ?_ (rc_function hd hp)⟩
    unfold ps_h1; rw [if_pos n1]; rfl
end RB
