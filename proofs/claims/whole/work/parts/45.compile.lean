/-! READ AND COMPILE -/
theorem rs_c_len {pl : Nat → Nat} (A : List rw_I) : (rs_c pl A).length = rw_cnt A := by
  induction A with
  | nil => rfl
  | cons x t ih =>
    simp only [rs_c, rw_cnt, rw_n]
    split
    · rw [ih]; omega
    · rw [List.length_cons, ih]; omega
theorem rw_pl_p {A : List rw_I} : ∀ {T : List rw_I} {b c : Nat} {pl : Nat → Nat}, (rw_ad T).Nodup → (∀ g ∈ rw_ad T, pl g = rw_pl g T b) → c = b → rs_p pl T c := by
  intro T
  induction T with
  | nil => intro b c pl _ _ _; trivial
  | cons x t ih =>
    intro b c pl hn hp hc
    subst hc
    obtain ⟨n1, n2⟩ := List.nodup_cons.mp (show (x.1 :: rw_ad t).Nodup from hn)
    refine ⟨?_, ih n2 (fun g hg => ?_) rfl⟩
    · rw [hp x.1 List.mem_cons_self]; unfold rw_pl; rw [if_pos rfl]
    · rw [hp g (List.mem_cons_of_mem _ hg)]
      show (if x.1 = g then c else rw_pl g t (c + rw_n x)) = _
      rw [if_neg (show ¬ x.1 = g from fun e => n1 (by rw [e]; exact hg))]
/-- the words of a code from its instruction c on, over pf -/
def cd_w (l : List fr_C) (c : Nat) (pf : Nat → Int32) : Nat → Int32 := match l with
  | [] => pf
  | x :: t => cd_w t (c + 1) (cd_put pf c x.1 x.2.1 x.2.2)
theorem cd_fill_w {A : List rw_I} : ∀ {T : List rw_I} {c : Nat} {pf : Nat → Int32}, cd_fill A T c pf = cd_w (rs_c (fun g => rw_pl g A 0) T) c pf := by
  intro T
  induction T with
  | nil => intro c pf; rfl
  | cons x t ih =>
    intro c pf
    simp only [cd_fill, rs_c]
    split
    · exact ih
    · show _ = cd_w (rs_c (fun g => rw_pl g A 0) t) (c + 1) _
      rw [ih]
      congr 1
theorem fr_code {A : List rw_I} {F : fr_F} {G : cj_G} {r : Nat} {pf : Nat → Int32} (h : rw_at G r A) (hf : fr_is A F) : cd_fill A A 0 pf = cd_w (F.2 0) 0 pf ∧ (F.2 0).length = F.1 := by
  have h1 := hf.2.2 (fun g => rw_pl g A 0) 0 (rw_pl_p (A := A) h.2.2 (fun g _ => rfl) rfl)
  rw [cd_fill_w, ← h1, rs_c_len, hf.2.1]
  exact ⟨rfl, rfl⟩
/-- the text that is read: its characters, and how many -/
def ch_tx (w : Nat → Nat) (ct : Nat) (g : Nat → Nat) : Nat → Nat := (rd_lb w ct 0 g 0).1
def ch_L (w : Nat → Nat) (ct : Nat) : Nat := (rd_lb w ct 0 (fun _ => 0) 0).2
theorem rd_lb_n {w : Nat → Nat} : ∀ (r i : Nat) (g h : Nat → Nat) (m : Nat), (rd_lb w r i g m).2 = (rd_lb w r i h m).2 := by
  intro r
  induction r with
  | zero => intro i g h m; rfl
  | succ r ih =>
    intro i g h m
    simp only [rd_lb]
    split
    · exact ih _ _ _ _
    · exact ih _ _ _ _
theorem rd_lb_le {w : Nat → Nat} : ∀ (r i : Nat) (g : Nat → Nat) (m : Nat), m ≤ (rd_lb w r i g m).2 ∧ (rd_lb w r i g m).2 ≤ m + r := by
  intro r
  induction r with
  | zero => intro i g m; exact ⟨Nat.le_refl _, Nat.le_refl _⟩
  | succ r ih =>
    intro i g m
    simp only [rd_lb]
    split
    · have := ih (i + 1) g m; omega
    · have := ih (i + 1) (rd_up g m (w i)) (m + 1); omega
theorem rd_lb_w {w : Nat → Nat} (hw : ∀ j, w j < 65536) : ∀ (r i : Nat) (g : Nat → Nat) (m : Nat), (∀ j, g j < 65536) → ∀ j, (rd_lb w r i g m).1 j < 65536 := by
  intro r
  induction r with
  | zero => intro i g m h; exact h
  | succ r ih =>
    intro i g m h
    simp only [rd_lb]
    split
    · exact ih _ _ _ h
    · refine ih _ _ _ (fun j => ?_)
      unfold rd_up
      split
      · exact hw _
      · exact h j
/-- the row of the whole text, with its last instruction, or the place of an ill one -/
def ps_all (tx : Nat → Nat) (L : Nat) : ps_Q fr_F := ps_bd (ps_ex tx L 6 [] 0) (fun p F => if p < L then .inl p else .inr (p, fr_ap F (fr_1 0 0)))
theorem ps_all_tx {tx : Nat → Nat} {L : Nat} : ps_tx tx L = match ps_all tx L with
  | .inl q => .inl q
  | .inr x => if 120 < x.2.1 then .inl x.1 else .inr x.2 := by
  unfold ps_tx ps_all
  cases ps_ex tx L 6 [] 0 with
  | inl q => rfl
  | inr x =>
    obtain ⟨p, F⟩ := x
    simp only [ps_bd_r]
    split
    · rfl
    · rfl
theorem ps_all_ae {tx : Nat → Nat} {L : Nat} : ps_ae L 0 (ps_all tx L) := ps_ae_of (ps_ad_bd (ps_ad_ex 6 [] 0 (Nat.zero_le _)) (fun p1 F _ h1 => by
  split
  · exact ⟨Nat.le_refl _, h1⟩
  · exact ⟨Nat.le_refl _, h1⟩))
theorem ps_all_sz {tx : Nat → Nat} {L p : Nat} {F : fr_F} (hL : L ≤ 90) (h : ps_all tx L = .inr (p, F)) : F.1 < 1000 ∧ p = L := by
  unfold ps_all at h
  obtain ⟨p1, A, e, h⟩ := ps_bd_i h
  have h1 := sz_ex 6 [] 0 (Nat.zero_le _) p1 A e
  have h2 := ps_ad_ex (tx := tx) (L := L) 6 [] 0 (Nat.zero_le _)
  rw [e] at h2
  have h3 : p1 ≤ L := h2.2
  split at h
  · cases h
  · cases h
    refine ⟨?_, by omega⟩
    show A.1 + 1 < 1000
    omega
section RR
variable {rd rt nb wt : Nat} {d : Nat}
theorem rc_read {G : cj_G} {ct : Nat} {w g nf : Nat → Nat} {rl ra rb9 ri : Int32} {k n : Nat} (k_rd : G rd = some (.inr (3, [.ref rt, .int rl, .int ra, .ref nb, .int rb9, .int ri]))) (k_rt : G rt = some (.inl (1, 90, .inl (fun j => nI (g j))))) (k_nb : G nb = some (.inl (1, 90, .inl (fun j => nI (nf j))))) (k_wt : G wt = some (.inl (1, 90, .inl (fun j => nI (w j))))) (n1 : rt ≠ wt) (n2 : rt ≠ nb) (hct : ct ≤ 90) (hw : ∀ j, w j < 65536) (hg : ∀ j, g j < 65536) (hnf : ∀ j, nf j < 65536) (hk : 20 * ct + 50 ≤ k) (hn : 6 * (20 * ct + 50) ≤ n) (hd : 60 ≤ d) : cj_T mX3_read d k n [.ref rd, .ref wt, .int (nI ct)] G (fun v G' => ∃ (p r : Nat) (F : fr_F) (W : List rw_I) (G0 : cj_G), ps_all (ch_tx w ct g) (ch_L w ct) = .inr (p, F) ∧ v = some (.ref r) ∧ fr_is W F ∧ cj_fr [rd, rt] G G0 ∧ rd_st rd rt nb (ch_L w ct) (ch_tx w ct g) (-1) G0 [] p [(r, W)] [] G') (fun E9 G' => ∃ (q : Nat) (G0 : cj_G), ps_all (ch_tx w ct g) (ch_L w ct) = .inl q ∧ cj_fr [rd, rt] G G0 ∧ G0 rt = some (.inl (1, 90, .inl (fun j => nI (ch_tx w ct g j)))) ∧ rd_il G0 rd rt nb (ch_L w ct) q E9 G') := by
  refine tq_X3_read (by omega) ?_
  unfold wq_X3_read
  have hLe : (rd_lb w ct 0 g 0).2 = ch_L w ct := rd_lb_n _ _ _ _ _
  have hL : ch_L w ct ≤ ct := by have := (rd_lb_le (w := w) ct 0 (fun _ => 0) 0).2; unfold ch_L; omega
  have hx : ∀ j, ch_tx w ct g j < 65536 := rd_lb_w hw _ _ _ _ hg
  refine ⟨⟨_, k_rd⟩, 0, 0, 0, _, _, by omega, Nat.zero_le _, Nat.zero_le _, t_leaveOutBlanks k_rd k_rt k_wt n1 hct hw, fun _ _ h => absurd h id, fun v G1 q => ⟨q.1, ?_⟩⟩
  obtain ⟨_, q1, q2, q3⟩ := q
  rw [hLe] at q1
  have nrd : rd ≠ rt := cj_noa k_rd k_rt
  have nrn : rd ≠ nb := cj_noa k_rd k_nb
  refine ⟨_, q1, Nat.le_of_ble_eq_true rfl, _, cj_up_s, Nat.le_of_ble_eq_true rfl, _, cj_up_s, Nat.le_of_ble_eq_true rfl, ?_⟩
  generalize e3 : cj_up (cj_up (cj_up G1 rd _) rd _) rd _ = G2
  have h2 : G2 rd = some (.inr (3, [.ref rt, .int (nI (ch_L w ct)), .int (nI 0), .ref nb, .int (nI 0), .int (-1)])) := by rw [← e3]; exact cj_up_s
  have f2 : cj_fr [rd] G1 G2 := by rw [← e3]; exact cj_fr.up (cj_fr.up (cj_fr.up cj_fr.rf (by simp)) (by simp)) (by simp)
  have f3 : cj_fr [rd, rt] G G2 := cj_fr.trans q3 (f2.mono (by simp))
  have k2 : G2 rt = some (.inl (1, 90, .inl (fun j => nI (ch_tx w ct g j)))) := f2 _ _ (cj_ni1 (Ne.symm nrd)) q2
  have hin : rd_in G2 rd rt nb (ch_L w ct) (ch_tx w ct g) (-1) [] 0 := ⟨h2, k2, ⟨nf, f3 _ _ (cj_ni2 (Ne.symm nrn) (Ne.symm n2)) k_nb, hnf, fun j hj => absurd hj (Nat.not_lt_zero j)⟩, Nat.le_refl _, Nat.zero_le _, n2⟩
  have hst : rd_st rd rt nb (ch_L w ct) (ch_tx w ct g) (-1) G2 [] 0 [] [] G2 := ⟨by omega, hx, hin, cj_fr.rf, fun x hx => absurd hx List.not_mem_nil, fun x hx => absurd hx List.not_mem_nil, List.nodup_nil, fun a ha => absurd ha List.not_mem_nil⟩
  have hae := ps_all_ae (tx := ch_tx w ct g) (L := ch_L w ct)
  have hb : rd_bg 10 0 (ps_all (ch_tx w ct g) (ch_L w ct)) k n := by
    revert hae
    cases ps_all (ch_tx w ct g) (ch_L w ct) with
    | inl q => intro h; have h9 : q ≤ ch_L w ct := h.2; exact ⟨by show ((20 * (q - 0) + 40 : Nat) : Int) + 10 ≤ k; omega, by show 6 * (((20 * (q - 0) + 40 : Nat) : Int) + 10) ≤ n; omega⟩
    | inr x => intro h; have h9 : x.1 ≤ ch_L w ct := h.2; exact ⟨by show ((20 * (x.1 - 0) : Nat) : Int) + 10 ≤ k; omega, by show 6 * (((20 * (x.1 - 0) : Nat) : Int) + 10) ≤ n; omega⟩
  have hc : rd_cx rd rt nb (ch_L w ct) (ch_tx w ct g) (-1) G2 (fun E9 G' => ∃ (q : Nat) (G0 : cj_G), ps_all (ch_tx w ct g) (ch_L w ct) = .inl q ∧ cj_fr [rd, rt] G G0 ∧ G0 rt = some (.inl (1, 90, .inl (fun j => nI (ch_tx w ct g j)))) ∧ rd_il G0 rd rt nb (ch_L w ct) q E9 G') (ps_all (ch_tx w ct g) (ch_L w ct)) (ps_all (ch_tx w ct g) (ch_L w ct)) [] 0 10 [] [] G2 k n := ⟨rfl, fun q E G' h1 h2 => ⟨q, G2, h1, f3, k2, h2⟩, hb, hst⟩
  refine cx_go (rc_level (m := 6) (by omega) [] 0 (Nat.zero_le _)) (KK := fun p F => if p < ch_L w ct then .inl p else .inr (p, fr_ap F (fr_1 0 0))) hc (by omega) (by omega) (by omega) (ps_ad_ex 6 [] 0 (Nat.zero_le _)) (fun p1 F h1 => ?_) (fun p1 F r W G3 k3 n3 _ h1 h2 hw1 hc3 => cx_g2 hc3 (cx_g1 hc3 ?_))
  · split
    · exact ⟨Nat.le_refl _, h1⟩
    · exact ⟨Nat.le_refl _, h1⟩
  · by_cases hp : p1 < ch_L w ct
    · refine ⟨fun h9 => absurd h9 (nI_ge hp (by omega)), fun _ => cx_refuse (cx_R hc3 (if_pos hp)) (by omega) (by omega)⟩
    · refine ⟨fun _ => cx_add2 (cx_R hc3 (if_neg hp)) (by omega) (by omega) (fun s G4 hc4 => ?_), fun h9 => absurd (nI_le (by omega) (by omega)) h9⟩
      exact ⟨p1, r, _, _, G2, hc4.1, rfl, fr_is_ap hw1 (fr_is_1 (k := 0) (a := 0) (by omega)), f3, hc4.2.2.2⟩
/-- compile -/
theorem t_compile {G : cj_G} {x m pg pa o sk a b c ct : Nat} {w g nf : Nat → Nat} {pf : Nat → Int32} {rl ra rb9 ri ln ht9 acc env at9 hl rs t9 cp9 tn9 : Int32} {k n : Nat} (k_x : G x = some (.inr (6, [.ref wt, .int (nI ct), .ref rd, .ref pg, .ref m]))) (k_rd : G rd = some (.inr (3, [.ref rt, .int rl, .int ra, .ref nb, .int rb9, .int ri]))) (k_rt : G rt = some (.inl (1, 90, .inl (fun j => nI (g j))))) (k_nb : G nb = some (.inl (1, 90, .inl (fun j => nI (nf j))))) (k_wt : G wt = some (.inl (1, 90, .inl (fun j => nI (w j))))) (k_pg : G pg = some (.inr (0, [.ref pa, .int ln]))) (k_pa : G pa = some (.inl (0, 360, .inl pf))) (k_m : G m = some (.inr (2, [.ref pg, .ref o, .ref sk, .int ht9, .int acc, .int env, .int at9, .int hl, .int rs]))) (k_o : G o = some (.inr (1, [.ref a, .ref b, .ref c, .int t9, .int cp9, .int tn9]))) (n1 : rt ≠ wt) (n2 : rt ≠ nb) (n3 : wt ≠ nb) (hct : ct ≤ 90) (hw : ∀ j, w j < 65536) (hg : ∀ j, g j < 65536) (hnf : ∀ j, nf j < 65536) (hk : 20 * ct + 60 ≤ k) (hn : 6 * (20 * ct + 60) ≤ n) (hd : 61 ≤ d) : cj_T mX6_compile d k n [.ref x] G (fun v G' => ∃ F : fr_F, ps_tx (ch_tx w ct g) (ch_L w ct) = .inr F ∧ F.1 ≤ 120 ∧ (F.2 0).length = F.1 ∧ v = some (.int (nI F.1)) ∧ G' x = some (.inr (6, [.ref wt, .int (nI 0), .ref rd, .ref pg, .ref m])) ∧ (∃ rl ra rb9 : Int32, G' rd = some (.inr (3, [.ref rt, .int rl, .int ra, .ref nb, .int rb9, .int (-1)]))) ∧ (∃ g' : Nat → Nat, G' rt = some (.inl (1, 90, .inl (fun j => nI (g' j)))) ∧ ∀ j, g' j < 65536) ∧ (∃ f' : Nat → Nat, G' nb = some (.inl (1, 90, .inl (fun j => nI (f' j)))) ∧ ∀ j, f' j < 65536) ∧ G' pg = some (.inr (0, [.ref pa, .int (nI F.1)])) ∧ G' pa = some (.inl (0, 360, .inl (cd_w (F.2 0) 0 pf))) ∧ G' m = some (.inr (2, [.ref pg, .ref o, .ref sk, .int 0, .int 1, .int 1, .int 0, .int 0, .int 0])) ∧ G' o = some (.inr (1, [.ref a, .ref b, .ref c, .int 0, .int cp9, .int 0])) ∧ cj_fr [x, rd, rt, nb, pg, pa, m, o] G G') (fun E9 G' => ∃ q : Nat, ps_tx (ch_tx w ct g) (ch_L w ct) = .inl q ∧ q ≤ 90 ∧ E9 = "java/lang/IllegalArgumentException" ∧ G' x = some (.inr (6, [.ref wt, .int (nI 0), .ref rd, .ref pg, .ref m])) ∧ (∃ rl ra rb9 : Int32, G' rd = some (.inr (3, [.ref rt, .int rl, .int ra, .ref nb, .int rb9, .int (nI q)]))) ∧ (∃ g' : Nat → Nat, G' rt = some (.inl (1, 90, .inl (fun j => nI (g' j)))) ∧ ∀ j, g' j < 65536) ∧ (∃ f' : Nat → Nat, G' nb = some (.inl (1, 90, .inl (fun j => nI (f' j)))) ∧ ∀ j, f' j < 65536) ∧ cj_fr [x, rd, rt, nb] G G') := by
  refine tq_X6_compile (by omega) ?_
  unfold wq_X6_compile
  have hL : ch_L w ct ≤ ct := by have := (rd_lb_le (w := w) ct 0 (fun _ => 0) 0).2; unfold ch_L; omega
  have hx : ∀ j, ch_tx w ct g j < 65536 := rd_lb_w hw _ _ _ _ hg
  have x_rd : x ≠ rd := cj_noo k_x k_rd (by decide)
  have x_pg : x ≠ pg := cj_noo k_x k_pg (by decide)
  have x_m : x ≠ m := cj_noo k_x k_m (by decide)
  have x_o : x ≠ o := cj_noo k_x k_o (by decide)
  have x_rt : x ≠ rt := cj_noa k_x k_rt
  have x_nb : x ≠ nb := cj_noa k_x k_nb
  have x_wt : x ≠ wt := cj_noa k_x k_wt
  have x_pa : x ≠ pa := cj_noa k_x k_pa
  have rd_pg : rd ≠ pg := cj_noo k_rd k_pg (by decide)
  have rd_m : rd ≠ m := cj_noo k_rd k_m (by decide)
  have rd_o : rd ≠ o := cj_noo k_rd k_o (by decide)
  have rd_rt : rd ≠ rt := cj_noa k_rd k_rt
  have rd_nb : rd ≠ nb := cj_noa k_rd k_nb
  have rd_pa : rd ≠ pa := cj_noa k_rd k_pa
  have pg_m : pg ≠ m := cj_noo k_pg k_m (by decide)
  have pg_o : pg ≠ o := cj_noo k_pg k_o (by decide)
  have pg_rt : pg ≠ rt := cj_noa k_pg k_rt
  have pg_nb : pg ≠ nb := cj_noa k_pg k_nb
  have pg_pa : pg ≠ pa := cj_noa k_pg k_pa
  have m_o : m ≠ o := cj_noo k_m k_o (by decide)
  have m_rt : m ≠ rt := cj_noa k_m k_rt
  have m_nb : m ≠ nb := cj_noa k_m k_nb
  have m_pa : m ≠ pa := cj_noa k_m k_pa
  have o_rt : o ≠ rt := cj_noa k_o k_rt
  have o_nb : o ≠ nb := cj_noa k_o k_nb
  have o_pa : o ≠ pa := cj_noa k_o k_pa
  have pa_rt : pa ≠ rt := cj_naa k_pa k_rt (by decide)
  have pa_nb : pa ≠ nb := cj_naa k_pa k_nb (by decide)
  refine ⟨_, nI ct, k_x, rfl, _, k_x, Nat.le_of_ble_eq_true rfl, ?_⟩
  generalize e3 : cj_up G x _ = G3
  have h3 : G3 x = some (.inr (6, [.ref wt, .int (nI 0), .ref rd, .ref pg, .ref m])) := by rw [← e3]; exact cj_up_s
  have f3 : cj_fr [x] G G3 := by rw [← e3]; exact cj_fr.up cj_fr.rf (by simp)
  have a_rd := f3 _ _ (cj_ni1 (Ne.symm x_rd)) k_rd
  have a_rt := f3 _ _ (cj_ni1 (Ne.symm x_rt)) k_rt
  have a_nb := f3 _ _ (cj_ni1 (Ne.symm x_nb)) k_nb
  have a_wt := f3 _ _ (cj_ni1 (Ne.symm x_wt)) k_wt
  have a_pg := f3 _ _ (cj_ni1 (Ne.symm x_pg)) k_pg
  have a_pa := f3 _ _ (cj_ni1 (Ne.symm x_pa)) k_pa
  have a_m := f3 _ _ (cj_ni1 (Ne.symm x_m)) k_m
  have a_o := f3 _ _ (cj_ni1 (Ne.symm x_o)) k_o
  refine ⟨_, rd, h3, rfl, _, wt, h3, rfl, ⟨_, a_rd⟩, 60, 20 * ct + 50, 6 * (20 * ct + 50), _, _, by omega, by omega, by omega, rc_read (d := 60) a_rd a_rt a_nb a_wt n1 n2 hct hw hg hnf (Nat.le_refl _) (Nat.le_refl _) (Nat.le_refl _), fun E9 G' q => ?_, fun v G9 q => ?_⟩
  · obtain ⟨q, G0, e, f0, r0, i1, ⟨bd, i2⟩, i3, f4⟩ := q
    have hae := ps_all_ae (tx := ch_tx w ct g) (L := ch_L w ct)
    rw [e] at hae
    have h9 : q ≤ ch_L w ct := hae.2
    have f5 : cj_fr [x, rd, rt, nb] G G' := cj_fr.trans (f3.mono (by simp)) (cj_fr.trans (f0.mono (by simp)) (f4.mono (by simp)))
    refine ⟨q, by rw [ps_all_tx, e], by omega, i1, ?_, ⟨_, _, _, i2⟩, ⟨_, f4 _ _ (cj_ni2 (Ne.symm rd_rt) n2) r0, hx⟩, i3, f5⟩
    exact f4 _ _ (cj_ni2 x_rd x_nb) (f0 _ _ (cj_ni2 x_rd x_rt) h3)
  · obtain ⟨p, r, F, W, G0, e, ev, hfr, f0, hst⟩ := q
    have hsz := ps_all_sz (by omega) e
    obtain ⟨s1, s2, s3, s4, s5⟩ := hst
    have hrw : rw_at G9 r W := s5.1 (r, W) List.mem_cons_self
    have hfresh : ∀ y ∈ rw_ad W, G0 y = none := fun y hy => s5.2.2.2 y (by rw [rd_as_c]; exact List.mem_cons_of_mem _ (List.mem_append_left _ hy))
    have b_x := f0 _ _ (cj_ni2 x_rd x_rt) h3
    have b_pg := f0 _ _ (cj_ni2 (Ne.symm rd_pg) pg_rt) a_pg
    have b_pa := f0 _ _ (cj_ni2 (Ne.symm rd_pa) pa_rt) a_pa
    have b_m := f0 _ _ (cj_ni2 (Ne.symm rd_m) m_rt) a_m
    have b_o := f0 _ _ (cj_ni2 (Ne.symm rd_o) o_rt) a_o
    have out : ∀ {y : Nat} {z : cj_E}, G0 y = some z → y ∉ rw_ad W := fun hy h9 => by rw [hfresh _ h9] at hy; cases hy
    have c_x := s4 _ _ (cj_ni2 x_rd x_nb) b_x
    have c_pg := s4 _ _ (cj_ni2 (Ne.symm rd_pg) pg_nb) b_pg
    have c_pa := s4 _ _ (cj_ni2 (Ne.symm rd_pa) pa_nb) b_pa
    have c_m := s4 _ _ (cj_ni2 (Ne.symm rd_m) m_nb) b_m
    have c_o := s4 _ _ (cj_ni2 (Ne.symm rd_o) o_nb) b_o
    have frd : rd ∉ rw_ad W := fun h9 => by obtain ⟨fs, h8⟩ := rw_sg_mem hrw.2.1 rd h9; rw [s3.1] at h8; cases h8
    have frt : rt ∉ rw_ad W := fun h9 => by obtain ⟨fs, h8⟩ := rw_sg_mem hrw.2.1 rt h9; rw [s3.2.1] at h8; cases h8
    obtain ⟨nf9, i5, i6, i7⟩ := s3.2.2.1
    have fnb : nb ∉ rw_ad W := fun h9 => by obtain ⟨fs, h8⟩ := rw_sg_mem hrw.2.1 nb h9; rw [i5] at h8; cases h8
    refine ⟨r, ev, _, pg, c_x, rfl, ⟨_, c_pg⟩, ?_⟩
    by_cases h120 : F.1 ≤ 120
    · have etx : ps_tx (ch_tx w ct g) (ch_L w ct) = .inr F := by
        rw [ps_all_tx, e]; show (if 120 < F.1 then _ else _) = _; rw [if_neg (by omega)]
      obtain ⟨cd1, cd2⟩ := fr_code (pf := pf) hrw hfr
      refine ⟨1, 0, 0, _, _, by omega, Nat.zero_le _, Nat.zero_le _, t_replaceBy_1 hrw hfr.1 (by rw [hfr.2.1]; exact h120) c_pg c_pa, fun _ _ h9 => absurd h9 id, fun v2 G16 z => ⟨1, z.1, fun _ => ?_, fun h9 => absurd h9 (by decide)⟩⟩
      obtain ⟨_, z1, z2, z3⟩ := z
      rw [hfr.2.1] at z1
      rw [cd1] at z2
      have nin : ∀ {y : Nat} {z : cj_E}, G0 y = some z → y ≠ pg → y ≠ pa → y ∉ pg :: pa :: rw_ad W := fun h1 h2 h3 h9 => by
        rcases List.mem_cons.mp h9 with h9 | h9
        · exact h2 h9
        · rcases List.mem_cons.mp h9 with h9 | h9
          · exact h3 h9
          · exact out h1 h9
      have d_x := z3 _ _ (nin b_x x_pg x_pa) c_x
      have d_m := z3 _ _ (nin b_m (Ne.symm pg_m) m_pa) c_m
      have d_o := z3 _ _ (nin b_o (Ne.symm pg_o) o_pa) c_o
      have nin2 : ∀ {y : Nat}, y ∉ rw_ad W → y ≠ pg → y ≠ pa → y ∉ pg :: pa :: rw_ad W := fun h1 h2 h3 h9 => by
        rcases List.mem_cons.mp h9 with h9 | h9
        · exact h2 h9
        · rcases List.mem_cons.mp h9 with h9 | h9
          · exact h3 h9
          · exact h1 h9
      have d_rd := z3 _ _ (nin2 frd rd_pg rd_pa) s3.1
      have d_rt := z3 _ _ (nin2 frt (Ne.symm pg_rt) (Ne.symm pa_rt)) s3.2.1
      have d_nb := z3 _ _ (nin2 fnb (Ne.symm pg_nb) (Ne.symm pa_nb)) i5
      refine ⟨_, m, d_x, rfl, ⟨_, d_m⟩, 1, 0, 0, _, _, by omega, Nat.zero_le _, Nat.zero_le _, t_beginAnew d_m d_o, fun _ _ h9 => absurd h9 id, fun v3 G24 y => ⟨y.1, ?_⟩⟩
      obtain ⟨_, y1, y2, y3⟩ := y
      have g_x := y3 _ _ (cj_ni2 x_m x_o) d_x
      have g_pg := y3 _ _ (cj_ni2 pg_m pg_o) z1
      refine ⟨_, pg, g_x, rfl, _, nI F.1, g_pg, rfl, F, etx, h120, cd2, rfl, g_x, ⟨_, _, _, y3 _ _ (cj_ni2 rd_m rd_o) d_rd⟩, ⟨_, y3 _ _ (cj_ni2 (Ne.symm m_rt) (Ne.symm o_rt)) d_rt, hx⟩, ⟨nf9, y3 _ _ (cj_ni2 (Ne.symm m_nb) (Ne.symm o_nb)) d_nb, i6⟩, g_pg, y3 _ _ (cj_ni2 (Ne.symm m_pa) (Ne.symm o_pa)) z2, y1, y2, ?_⟩
      have k1 : cj_fr [x, rd, rt, nb, pg, pa, m, o] G G9 := cj_fr.trans (f3.mono (by simp)) (cj_fr.trans (f0.mono (by simp)) (s4.mono (by simp)))
      have k0 : cj_fr [x, rd, rt] G G0 := cj_fr.trans (f3.mono (by simp)) (f0.mono (by simp))
      refine cj_fr.trans (k1.cut z3 (fun y hy => ?_)) (y3.mono (by simp))
      rcases List.mem_cons.mp hy with rfl | hy
      · left; simp
      · rcases List.mem_cons.mp hy with rfl | hy
        · left; simp
        · right
          exact cj_fr.none k0 (hfresh y hy) (fun h9 => by
            rcases List.mem_cons.mp h9 with rfl | h9
            · exact out b_x hy
            · rcases List.mem_cons.mp h9 with rfl | h9
              · exact frd hy
              · rw [List.mem_singleton] at h9; subst h9; exact frt hy)
    · have etx : ps_tx (ch_tx w ct g) (ch_L w ct) = .inl p := by
        rw [ps_all_tx, e]; show (if 120 < F.1 then _ else _) = _; rw [if_pos (by omega)]
      refine ⟨1, 0, 0, _, _, by omega, Nat.zero_le _, Nat.zero_le _, t_replaceBy_0 hrw (by rw [hfr.2.1]; exact h120) (by rw [hfr.2.1]; omega), fun _ _ h9 => absurd h9 id, fun v2 G16 z => ⟨0, z.1, fun h9 => absurd rfl h9, fun _ => ?_⟩⟩
      have z3 := z.2
      have d_x := z3 _ _ (out b_x) c_x
      have d_rd := z3 _ _ frd s3.1
      have d_rt := z3 _ _ frt s3.2.1
      have d_nb := z3 _ _ fnb i5
      refine ⟨_, rd, d_x, rfl, ⟨_, d_rd⟩, 6, 1, 6, _, _, by omega, by omega, by omega, t_refuse d_rd, fun E9 G' y => ?_, fun _ _ y => absurd y id⟩
      obtain ⟨y1, y2, y3⟩ := y
      have hpL : p ≤ 90 := by have := hsz.2; omega
      refine ⟨p, etx, hpL, y1, y3 _ _ (cj_ni1 x_rd) d_x, ⟨_, _, _, y2⟩, ⟨_, y3 _ _ (cj_ni1 (Ne.symm rd_rt)) d_rt, hx⟩, ⟨nf9, y3 _ _ (cj_ni1 (Ne.symm rd_nb)) d_nb, i6⟩, ?_⟩
      have k1 : cj_fr [x, rd, rt, nb] G G9 := cj_fr.trans (f3.mono (by simp)) (cj_fr.trans (f0.mono (by simp)) (s4.mono (by simp)))
      have k0 : cj_fr [x, rd, rt] G G0 := cj_fr.trans (f3.mono (by simp)) (f0.mono (by simp))
      refine cj_fr.trans (k1.cut z3 (fun y hy => Or.inr ?_)) (y3.mono (by simp))
      exact cj_fr.none k0 (hfresh y hy) (fun h9 => by
        rcases List.mem_cons.mp h9 with rfl | h9
        · exact out b_x hy
        · rcases List.mem_cons.mp h9 with rfl | h9
          · exact frd hy
          · rw [List.mem_singleton] at h9; subst h9; exact frt hy)
end RR
