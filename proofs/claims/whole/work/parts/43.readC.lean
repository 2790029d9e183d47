/-! THE READER'S METHODS: cases, match, expression -/
theorem ps_ad_bd2 {L p : Nat} {α β : Type} {r : ps_Q α} {k : Nat → α → ps_Q β} (h : ps_ae L p r) (hk : ∀ p1 x, r = .inr (p1, x) → p1 ≤ L → ps_ad L p1 (k p1 x)) : ps_ad L p (ps_bd r k) := by
  cases r with
  | inl q => exact h
  | inr x =>
    obtain ⟨p1, x⟩ := x
    have h1 := hk p1 x rfl h.2
    rw [ps_bd_r]
    exact ps_ad_le h.1 h1
theorem cs_tab_app (A : List (Nat × fr_F)) (x : Nat × fr_F) : ∀ s : Nat, cs_tab (A ++ [x]) s = cs_tab A s ++ [(19, nI x.1, nI (s + cs_len A))] := by
  induction A with
  | nil => intro s; rfl
  | cons y t ih =>
    intro s
    show (19, nI y.1, nI s) :: cs_tab (t ++ [x]) (s + y.2.1 + 1) = (19, nI y.1, nI s) :: (cs_tab t (s + y.2.1 + 1) ++ [(19, nI x.1, nI (s + (y.2.1 + 1 + cs_len t)))])
    rw [ih, show s + (y.2.1 + 1 + cs_len t) = s + y.2.1 + 1 + cs_len t by omega]
theorem cs_bod_app (A : List (Nat × fr_F)) (x : Nat × fr_F) (e : Nat) : ∀ s : Nat, cs_bod (A ++ [x]) s e = cs_bod A s e ++ (x.2.2 (s + cs_len A) ++ [(11, nI e, 0)]) := by
  induction A with
  | nil => intro s; rfl
  | cons y t ih =>
    intro s
    show y.2.2 s ++ (11, nI e, 0) :: cs_bod (t ++ [x]) (s + y.2.1 + 1) e = y.2.2 s ++ (11, nI e, 0) :: cs_bod t (s + y.2.1 + 1) e ++ (x.2.2 (s + (y.2.1 + 1 + cs_len t)) ++ [(11, nI e, 0)])
    rw [ih, show s + (y.2.1 + 1 + cs_len t) = s + y.2.1 + 1 + cs_len t by omega]
    simp only [List.append_assoc, List.cons_append]
theorem cs_len_app (A : List (Nat × fr_F)) (x : Nat × fr_F) : cs_len (A ++ [x]) = cs_len A + (x.2.1 + 1) := by
  induction A with
  | nil => show x.2.1 + 1 + 0 = 0 + (x.2.1 + 1); omega
  | cons y t ih => show y.2.1 + 1 + cs_len (t ++ [x]) = y.2.1 + 1 + cs_len t + (x.2.1 + 1); rw [ih]; omega
/-- the cases so far: T their table, Bd their bodies, en the label behind all -/
def mt_is (T Bd : List rw_I) (cs : List (Nat × fr_F)) (en : Nat) : Prop := rw_cnt T = cs.length ∧ rw_cnt Bd = cs_len cs ∧ (∀ x ∈ T, ∀ g : Nat, x.2.2.2 = some g → g ∈ rw_ad Bd ∧ x.1 ≠ g) ∧ (∀ x ∈ Bd, ∀ g : Nat, x.2.2.2 = some g → (g ∈ rw_ad Bd ∨ g = en) ∧ x.1 ≠ g) ∧ ∀ (pl : Nat → Nat) (b : Nat), rs_p pl Bd b → rs_c pl T = cs_tab cs b ∧ rs_c pl Bd = cs_bod cs b (pl en)
theorem mt_is_0 {en : Nat} : mt_is [] [] [] en := ⟨rfl, rfl, fun x hx => absurd hx List.not_mem_nil, fun x hx => absurd hx List.not_mem_nil, fun _ _ _ => ⟨rfl, rfl⟩⟩
theorem mt_is_1 {T Bd W : List rw_I} {cs : List (Nat × fr_F)} {en q lb j tag : Nat} {F : fr_F} (h : mt_is T Bd cs en) (hw : fr_is W F) (n1 : q ≠ lb) (n2 : j ≠ en) : mt_is (T ++ [(q, 19, nI tag, some lb)]) (Bd ++ [(lb, 21, 0, none)] ++ W ++ [(j, 11, 0, some en)]) (cs ++ [(tag, F)]) en := by
  obtain ⟨h1, h2, h3, h4, h5⟩ := h
  refine ⟨?_, ?_, ?_, ?_, fun pl b hp => ?_⟩
  · rw [rw_cnt_app, h1, List.length_append]
    show cs.length + (rw_n _ + 0) = cs.length + 1
    rw [rw_n_k (by decide)]
  · rw [rw_cnt_app, rw_cnt_app, rw_cnt_app, h2, hw.2.1, cs_len_app]
    show cs_len cs + (rw_n _ + 0) + F.1 + (rw_n _ + 0) = cs_len cs + (F.1 + 1)
    rw [rw_n_21, rw_n_k (by decide)]; omega
  · intro x hx g hg
    rcases List.mem_append.mp hx with hx | hx
    · obtain ⟨a1, a2⟩ := h3 x hx g hg
      refine ⟨?_, a2⟩
      rw [rw_ad_app, rw_ad_app, rw_ad_app]
      exact List.mem_append_left _ (List.mem_append_left _ (List.mem_append_left _ a1))
    · rw [List.mem_singleton] at hx; subst hx; cases hg
      refine ⟨?_, n1⟩
      rw [rw_ad_app, rw_ad_app, rw_ad_app]
      exact List.mem_append_left _ (List.mem_append_left _ (List.mem_append_right _ List.mem_cons_self))
  · intro x hx g hg
    rw [rw_ad_app, rw_ad_app, rw_ad_app]
    rcases List.mem_append.mp hx with hx | hx
    · rcases List.mem_append.mp hx with hx | hx
      · rcases List.mem_append.mp hx with hx | hx
        · obtain ⟨a1, a2⟩ := h4 x hx g hg
          refine ⟨?_, a2⟩
          rcases a1 with a1 | a1
          · exact Or.inl (List.mem_append_left _ (List.mem_append_left _ (List.mem_append_left _ a1)))
          · exact Or.inr a1
        · rw [List.mem_singleton] at hx; subst hx; cases hg
      · obtain ⟨a1, a2⟩ := hw.1 x hx g hg
        exact ⟨Or.inl (List.mem_append_left _ (List.mem_append_right _ a1)), a2⟩
    · rw [List.mem_singleton] at hx; subst hx; cases hg
      exact ⟨Or.inr rfl, n2⟩
  · obtain ⟨p1, p2⟩ := rs_p_app.mp hp
    obtain ⟨p3, p4⟩ := rs_p_app.mp p1
    obtain ⟨p5, p6⟩ := rs_p_app.mp p3
    have e0 : rw_cnt [((lb, 21, 0, none) : rw_I)] = 0 := by show rw_n _ + 0 = 0; rw [rw_n_21]
    rw [rw_cnt_app, h2, e0, Nat.add_zero] at p4
    rw [h2] at p6
    have p7 : pl lb = b + cs_len cs := p6.1
    obtain ⟨a1, a2⟩ := h5 pl b p5
    refine ⟨?_, ?_⟩
    · rw [rs_c_app, a1, cs_tab_app, rs_c_k (x := (q, 19, nI tag, some lb)) (show ¬ (19 : Int32) = 21 by decide)]
      simp only [rs_a, rs_b, if_pos, p7]; rfl
    · rw [rs_c_app, rs_c_app, rs_c_app, a2, cs_bod_app, hw.2.2 pl _ p4, rs_c_21, rs_c_k (x := (j, 11, 0, some en)) (show ¬ (11 : Int32) = 21 by decide), rs_a_t (by decide), rs_b_t (by decide)]
      show cs_bod cs b (pl en) ++ [] ++ F.2 (b + cs_len cs) ++ [(11, nI (pl en), 0)] = _
      rw [List.append_nil, List.append_assoc]
theorem fr_is_ma {C T Bd : List rw_I} {F : fr_F} {cs : List (Nat × fr_F)} {q en : Nat} (hC : fr_is C F) (h : mt_is T Bd cs en) : fr_is (C ++ [(q, 18, nI cs.length, none)] ++ T ++ Bd ++ [(en, 21, 0, none)]) (fr_ma F cs) := by
  obtain ⟨h1, h2, h3, h4, h5⟩ := h
  refine ⟨?_, ?_, fun pl b hp => ?_⟩
  · intro x hx g hg
    rw [rw_ad_app, rw_ad_app, rw_ad_app, rw_ad_app]
    rcases List.mem_append.mp hx with hx | hx
    · rcases List.mem_append.mp hx with hx | hx
      · rcases List.mem_append.mp hx with hx | hx
        · rcases List.mem_append.mp hx with hx | hx
          · obtain ⟨a1, a2⟩ := hC.1 x hx g hg
            exact ⟨List.mem_append_left _ (List.mem_append_left _ (List.mem_append_left _ (List.mem_append_left _ a1))), a2⟩
          · rw [List.mem_singleton] at hx; subst hx; cases hg
        · obtain ⟨a1, a2⟩ := h3 x hx g hg
          exact ⟨List.mem_append_left _ (List.mem_append_right _ a1), a2⟩
      · obtain ⟨a1, a2⟩ := h4 x hx g hg
        refine ⟨?_, a2⟩
        rcases a1 with a1 | a1
        · exact List.mem_append_left _ (List.mem_append_right _ a1)
        · subst a1; exact List.mem_append_right _ List.mem_cons_self
    · rw [List.mem_singleton] at hx; subst hx; cases hg
  · rw [rw_cnt_app, rw_cnt_app, rw_cnt_app, rw_cnt_app, h1, h2, hC.2.1]
    show F.1 + (rw_n _ + 0) + cs.length + cs_len cs + (rw_n _ + 0) = F.1 + 1 + cs.length + cs_len cs
    rw [rw_n_21, rw_n_k (by decide)]; omega
  · obtain ⟨p1, p2⟩ := rs_p_app.mp hp
    obtain ⟨p3, p4⟩ := rs_p_app.mp p1
    obtain ⟨p5, p6⟩ := rs_p_app.mp p3
    obtain ⟨p7, p8⟩ := rs_p_app.mp p5
    have e0 : rw_cnt [((q, 18, nI cs.length, none) : rw_I)] = 1 := by show rw_n _ + 0 = 1; rw [rw_n_k (by decide)]
    rw [rw_cnt_app, rw_cnt_app, h1, e0, hC.2.1] at p4
    rw [rw_cnt_app, rw_cnt_app, rw_cnt_app, h1, h2, e0, hC.2.1] at p2
    have p9 : pl en = b + (F.1 + 1 + cs.length + cs_len cs) := p2.1
    obtain ⟨a1, a2⟩ := h5 pl _ p4
    rw [rs_c_app, rs_c_app, rs_c_app, rs_c_app, hC.2.2 pl b p7, a1, a2, p9, rs_c_21, rs_c_k (x := (q, 18, nI cs.length, none)) (show ¬ (18 : Int32) = 21 by decide)]
    show F.2 b ++ [(18, nI cs.length, 0)] ++ cs_tab cs (b + (F.1 + 1 + cs.length)) ++ cs_bod cs (b + (F.1 + 1 + cs.length)) (b + (F.1 + 1 + cs.length + cs_len cs)) ++ [] = F.2 b ++ (18, nI cs.length, 0) :: (cs_tab cs (b + F.1 + 1 + cs.length) ++ cs_bod cs (b + F.1 + 1 + cs.length) (b + F.1 + 1 + cs.length + cs_len cs))
    rw [show b + (F.1 + 1 + cs.length) = b + F.1 + 1 + cs.length by omega, show b + (F.1 + 1 + cs.length + cs_len cs) = b + F.1 + 1 + cs.length + cs_len cs by omega]
    simp only [List.append_nil, List.append_assoc, List.cons_append, List.nil_append]
/-- the number of a step that stands in a row is written anew -/
theorem rw_sg_set {G : cj_G} {A T : List rw_I} {q : Nat} {kd a v : Int32} {e : Option Nat} (h : rw_sg G (A ++ [(q, kd, a, none)] ++ T) e) (hn : (rw_ad (A ++ [(q, kd, a, none)] ++ T)).Nodup) : rw_sg (cj_up G q (rw_c (q, kd, v, none) (rw_nx T e))) (A ++ [(q, kd, v, none)] ++ T) e := by
  rw [rw_sg_app, rw_sg_app] at h ⊢
  rw [rw_ad_app, rw_ad_app] at hn
  obtain ⟨n1, n2, n3⟩ := List.nodup_append.mp hn
  obtain ⟨n4, n5, n6⟩ := List.nodup_append.mp n1
  have hf : cj_fr [q] G (cj_up G q (rw_c (q, kd, v, none) (rw_nx T e))) := cj_fr.up cj_fr.rf (by simp)
  refine ⟨⟨rw_sg_fr hf (fun x hx => cj_ni1 (n6 x hx q List.mem_cons_self)) h.1.1, cj_up_s, trivial⟩, rw_sg_fr hf (fun x hx => cj_ni1 (Ne.symm (n3 q (List.mem_append_right _ List.mem_cons_self) x hx))) h.2⟩
theorem nI_bit {s c : Nat} (hc : c < 8) : nI s ||| ((1 : Int32) <<< (nI c &&& 31)) = nI (s ||| 2 ^ c) := by
  have h1 : (1 : Int32) <<< (nI c &&& 31) = nI (2 ^ c) := by
    match c, hc with
    | 0, _ => decide
    | 1, _ => decide
    | 2, _ => decide
    | 3, _ => decide
    | 4, _ => decide
    | 5, _ => decide
    | 6, _ => decide
    | 7, _ => decide
    | n + 8, h => omega
  rw [h1]
  refine Int32.toBitVec_inj.mp ?_
  rw [Int32.toBitVec_or]
  show BitVec.ofNat 32 s ||| BitVec.ofNat 32 (2 ^ c) = BitVec.ofNat 32 (s ||| 2 ^ c)
  rw [BitVec.ofNat_or]
section RC
variable {rd rt nb L : Nat} {tx : Nat → Nat} {ill : Int32} {d d0 : Nat} {dp : Int32} {E : List Nat → Nat → ps_Q fr_F}
theorem l_names {G0 : cj_G} {Qr : Option Value → cj_G → Prop} {Qx : String → cj_G → Prop} {β : Type} {R0 : ps_Q β} {l : List (Nat × List rw_I)} {ls : List rw_I} {K : Int32 → cj_G → Nat → Nat → Prop} {KK : Nat → List Nat → ps_Q β} {a1 a3 f : Nat} {a2 : Int32} {sc0 : List Nat} (hd : 9 ≤ d) (hf : f < 4) (hKK : ∀ (p1 : Nat) (x : List Nat), p1 ≤ L → ps_ae L p1 (KK p1 x)) (kk : ∀ (p : Nat) (ys : List Nat) (i : Int32) (G : cj_G) (k n : Nat) (t : Int), -2 ≤ t → rd_cx rd rt nb L tx ill G0 Qx R0 (KK p (sc0 ++ ys)) (sc0 ++ ys) p t l ls G k n → K i G k n) : ∀ (r i p : Nat) (ys : List Nat) (t : Int) (G : cj_G) (k n : Nat), i + r = f → -2 ≤ t → ys.length = i → rd_cx rd rt nb L tx ill G0 Qx R0 (ps_bd (ps_nm tx L r i (sc0 ++ ys) p) KK) (sc0 ++ ys) p t l ls G k n → wk_X3_caseBody_15 d rd a1 a2 a3 dp (nI f) (nI sc0.length) Qr Qx K (r + 1) (nI i) G k n := by
  intro r
  induction r with
  | zero =>
    intro i p ys t G k n hi ht hs hc
    unfold wk_X3_caseBody_15
    have e : i = f := by omega
    subst e
    exact ⟨fun _ => kk p ys _ G k n t ht hc, fun h => absurd (nI_le (Nat.le_refl i) (by omega)) h⟩
  | succ r ih =>
    intro i p ys t G k n hi ht hs hc
    unfold wk_X3_caseBody_15
    have hL := cx_L hc
    have hq := cx_p hc
    have hch := cx_ch hc p
    have hl : (sc0 ++ ys).length = sc0.length + i := by rw [List.length_append, hs]
    have next : ¬ ps_in (sc0 ++ ys) i (rd_ch tx L p) = true → (sk_V G rd 3 ∧ sk_c_i mX3_takeName d k n [.ref rd] G Qx (fun x G1 k1 n1 => sk_V G1 rd 3 ∧ sk_c_v mX3_bind d k1 n1 [.ref rd, .int x] G1 Qx (fun G2 k2 n2 => wk_X3_caseBody_15 d rd a1 a2 a3 dp (nI f) (nI sc0.length) Qr Qx K (r + 1) (nI i + 1) G2 k2 n2))) := by
      intro hn
      have e : ps_bd (ps_nm tx L (r + 1) i (sc0 ++ ys) p) KK = if 97 ≤ rd_ch tx L p ∧ rd_ch tx L p ≤ 122 then ps_bd (ps_nm tx L r (i + 1) (sc0 ++ ys ++ [rd_ch tx L p]) (p + 1)) KK else .inl p := by
        simp only [ps_nm, if_neg hn]; split <;> rfl
      refine cx_name (cx_R hc e) hd (by omega) (fun h1 => ps_ae_bd (ps_ae_nm _ _ _ _ h1) (fun p2 y _ h3 => hKK p2 y h3)) (fun G1 _ _ hc1 => cx_bind _ hc1 hd hch (by omega) (fun G2 hc2 => ?_))
      rw [nI_1]
      rw [List.append_assoc] at hc2
      exact ih (i + 1) (p + 1) _ _ G2 _ _ (by omega) (by omega) (by rw [List.length_append, hs]; rfl) hc2
    refine ⟨fun h => absurd h (nI_ge (by omega) (by omega)), fun _ => cx_peek hc hd (cx_fur hc hd _ hch ?_)⟩
    cases e : ps_fo (sc0 ++ ys) (rd_ch tx L p) with
    | none =>
      refine ⟨fun _ => next (by unfold ps_in; rw [e]; simp), fun h9 => absurd rfl h9⟩
    | some j =>
      have hj := ps_fo_lt e
      refine ⟨fun h9 => ?_, fun _ => cx_g4 hc ?_⟩
      · have h8 := congrArg Int32.toInt h9
        rw [rd_foI_s, nI_toInt (by omega)] at h8
        have : (-1 : Int32).toInt = -1 := by decide
        omega
      · have e5 : nI (sc0 ++ ys).length - nI sc0.length = nI i := by
          rw [hl, ← nI_add, Int32.add_comm, Int32.add_sub_cancel]
        rw [e5, rd_foI_s]
        refine ⟨fun h9 => next ?_, fun h9 => ?_⟩
        · have h7 := (nI_leI (by omega) (by omega)).mp h9
          unfold ps_in; rw [e]; simp; omega
        · have h7 : ¬ i ≤ j := fun h => h9 ((nI_leI (by omega) (by omega)).mpr h)
          have e2 : ps_bd (ps_nm tx L (r + 1) i (sc0 ++ ys) p) KK = .inl p := by
            have : ps_in (sc0 ++ ys) i (rd_ch tx L p) = true := by unfold ps_in; rw [e]; simp; omega
            simp only [ps_nm, if_pos this]; rfl
          exact cx_refuse (cx_R hc e2) hd (by omega)
def ps_cb2 (tx : Nat → Nat) (L : Nat) (E : List Nat → Nat → ps_Q fr_F) (f p1 : Nat) (sc1 : List Nat) : ps_Q fr_F := ps_xp tx L 58 p1 (fun p2 => ps_bd (E sc1 p2) (fun p3 F => ps_xp tx L 59 p3 (fun p4 => .inr (p4, fr_cb f F))))
theorem ps_ad_cb2 (hE : ∀ sc p, p ≤ L → ps_ad L p (E sc p)) {f p1 : Nat} {sc1 : List Nat} (hp : p1 ≤ L) : ps_ad L p1 (ps_cb2 tx L E f p1 sc1) := ps_ad_xp (by omega) hp (fun h1 => ps_ae_of (ps_ad_bd (hE _ _ h1) (fun p3 x _ h3 => ps_ae_of (ps_ad_xp (by omega) h3 (fun h4 => ⟨Nat.le_refl _, h4⟩)))))
theorem ps_ad_cbd (hE : ∀ sc p, p ≤ L → ps_ad L p (E sc p)) {sc : List Nat} {tag p : Nat} (hp : p ≤ L) : ps_ad L p (ps_cb tx L E sc tag p) := ps_ad_bd2 (ps_ae_nm _ _ _ _ hp) (fun p1 x _ h1 => ps_ad_cb2 (f := tag % 4) hE h1)
def rd_finC (rd rt nb L : Nat) (tx : Nat → Nat) (ill : Int32) (G0 : cj_G) (sc : List Nat) (a1 a3 : Nat) (A : List rw_I) (l : List (Nat × List rw_I)) (ls : List rw_I) (p' : Nat) (F : fr_F) (G' : cj_G) : Prop := ∃ (W : List rw_I) (j : Nat), fr_is W F ∧ j ≠ a3 ∧ rd_st rd rt nb L tx ill G0 sc p' ((a1, A ++ W ++ [(j, 11, 0, some a3)]) :: l) ls G'
theorem rc_caseBody (hX : rd_CM rd rt nb L tx ill mX3_expression E [.int (dp + 1)] d0 (-2)) (hE : ∀ sc p, p ≤ L → ps_ad L p (E sc p)) {sc : List Nat} {p a1 a3 tag : Nat} (hd : 11 ≤ d) (hd0 : d0 + 1 ≤ d) (htg : tag < 8) {G0 : cj_G} {A : List rw_I} {l : List (Nat × List rw_I)} {ls : List rw_I} {G : cj_G} (h3 : a3 ∈ rw_ad ls) (hst : rd_st rd rt nb L tx ill G0 sc p ((a1, A) :: l) ls G) : ∀ k n : Nat, rd_bg (-2) p (ps_cb tx L E sc tag p) k n → cj_T mX3_caseBody d k n [.ref rd, .ref a1, .int (nI tag), .ref a3, .int dp] G (fun v G' => v = none ∧ ∃ (p1 : Nat) (F : fr_F), ps_cb tx L E sc tag p = .inr (p1, F) ∧ rd_finC rd rt nb L tx ill G0 sc a1 a3 A l ls p1 F G') (rd_bad rd rt nb L G0 (ps_cb tx L E sc tag p)) := by
  intro k n hb
  refine tq_X3_caseBody (by omega) ?_
  unfold wq_X3_caseBody
  have hc := cx_begin hst hb
  refine sk_pureN t_fieldsOf (by omega) ?_
  rw [nI_tag htg]
  have hf4 : tag % 4 < 4 := Nat.mod_lt _ (by omega)
  have hl0 : sc.length ≤ 90 := by have := cx_p hc; have := cx_L hc; omega
  have e0 : ps_cb tx L E sc tag p = ps_bd (ps_nm tx L (tag % 4) 0 (sc ++ []) p) (fun p1 sc1 => ps_cb2 tx L E (tag % 4) p1 sc1) := by rw [List.append_nil]; rfl
  have hc0 := cx_R hc e0
  have e1 : sc = sc ++ [] := (List.append_nil sc).symm
  have hc1 : rd_cx rd rt nb L tx ill G0 (rd_bad rd rt nb L G0 (ps_cb tx L E sc tag p)) (ps_cb tx L E sc tag p) (ps_bd (ps_nm tx L (tag % 4) 0 (sc ++ []) p) (fun p1 sc1 => ps_cb2 tx L E (tag % 4) p1 sc1)) (sc ++ []) p (-2) ((a1, A) :: l) ls G k n := by
    rw [List.append_nil] at hc0 ⊢; exact hc0
  refine cx_g4 hc ⟨tag % 4 + 1, ?_⟩
  refine l_names (by omega) hf4 (fun p1 x h1 => ps_ae_of (ps_ad_cb2 hE h1)) (fun p1 ys i G1 k1 n1 t ht hc2 => ?_) (tag % 4) 0 p [] (-2) G k n (by omega) (by omega) rfl hc1
  refine cx_expect 58 hc2 (by omega) (by omega) (by omega) (by omega) (fun h1 => ps_ae_of (ps_ad_bd (hE _ _ h1) (fun p3 x _ h3 => ps_ae_of (ps_ad_xp (by omega) h3 (fun h4 => ⟨Nat.le_refl _, h4⟩))))) (fun G2 _ hp2 hc3 => ?_)
  have hK : ∀ p3 F, p3 ≤ L → ps_ae L p3 (ps_xp tx L 59 p3 (fun p4 => .inr (p4, fr_cb (tag % 4) F)) : ps_Q fr_F) := fun p3 F h3 => ps_ae_of (ps_ad_xp (by omega) h3 (fun h4 => ⟨Nat.le_refl _, h4⟩))
  have htk : (sc ++ ys).take sc.length = sc := List.take_left' rfl
  by_cases hf : tag % 4 = 0
  · rw [hf] at hc3 ⊢
    refine ⟨fun _ => ?_, fun h9 => absurd (nI_le (a := 0) (b := 0) (by omega) (by omega)) h9⟩
    refine cx_go (hX _ _ hp2) hc3 (by omega) (by omega) (by omega) (hE _ _ hp2) (fun p3 F h3 => by have := hK p3 F h3; rw [hf] at this; exact this) (fun p3 F r W G4 k4 n4 _ _ _ hw hc4 => ?_)
    refine cx_append (cx_perm hc4 (List.Perm.swap _ _ _)) (by omega) (fun G5 hc5 => ⟨fun _ => ?_, fun h9 => absurd (nI_le (a := 0) (b := 0) (by omega) (by omega)) h9⟩)
    refine cx_step hc5 (by omega) (by omega) (fun j G6 w6 hc6 => cx_add hc6 (by omega) (fun G7 hc7 => ?_))
    refine cx_expect 59 hc7 (by omega) (by omega) (by omega) (by omega) (fun h4 => ⟨Nat.le_refl _, h4⟩) (fun G8 _ _ hc8 => ?_)
    refine cx_p4 sc.length hc8 (by rw [List.length_append]; omega) (fun G9 hc9 => ?_)
    rw [htk] at hc9
    refine ⟨rfl, p3 + 1, F, ?_, W, j, hw, fun e9 => w6 (by rw [e9]; exact List.mem_append_right _ h3), hc9.2.2.2⟩
    have := hc9.1
    rw [this]; unfold fr_cb; rw [if_pos rfl]
  · refine ⟨fun h9 => absurd h9 (nI_nle (by omega) (by omega)), fun _ => cx_add2 hc3 (by omega) (by omega) (fun s1 Ga hca => ?_)⟩
    refine cx_go (hX _ _ hp2) hca (by omega) (by omega) (by omega) (hE _ _ hp2) hK (fun p3 F r W G4 k4 n4 _ _ _ hw hc4 => ?_)
    refine cx_append (cx_perm hc4 (List.Perm.swap _ _ _)) (by omega) (fun G5 hc5 => ⟨fun h9 => absurd h9 (nI_nle (by omega) (by omega)), fun _ => cx_add2 hc5 (by omega) (by omega) (fun s2 Gb hcb => ?_)⟩)
    refine cx_step hcb (by omega) (by omega) (fun j G6 w6 hc6 => cx_add hc6 (by omega) (fun G7 hc7 => ?_))
    refine cx_expect 59 hc7 (by omega) (by omega) (by omega) (by omega) (fun h4 => ⟨Nat.le_refl _, h4⟩) (fun G8 _ _ hc8 => ?_)
    refine cx_p4 sc.length hc8 (by rw [List.length_append]; omega) (fun G9 hc9 => ?_)
    rw [htk] at hc9
    have hst9 := hc9.2.2.2
    have hfr : fr_is ([(s1, 20, nI (tag % 4), none)] ++ W ++ [(s2, 15, nI (tag % 4), none)]) (fr_cb (tag % 4) F) := by
      unfold fr_cb; rw [if_neg hf]
      exact fr_is_ap (fr_is_ap (fr_is_1 (k := 20) (by omega)) hw) (fr_is_1 (k := 15) (by omega))
    refine ⟨rfl, p3 + 1, _, hc9.1, _, j, hfr, fun e9 => w6 (by rw [e9]; exact List.mem_append_right _ h3), ?_⟩
    simp only [List.append_assoc] at hst9 ⊢
    exact hst9
theorem rw_la_ad (A : List rw_I) : rw_la A = (rw_ad A).getLast? := by unfold rw_la rw_ad; rw [List.getLast?_map]
theorem cx_set {G0 G : cj_G} {Qx : String → cj_G → Prop} {β : Type} {R0 R : ps_Q β} {sc : List Nat} {p : Nat} {t : Int} {l : List (Nat × List rw_I)} {ls : List rw_I} {k n r q : Nat} {A T : List rw_I} {kd a v : Int32} (hc : rd_cx rd rt nb L tx ill G0 Qx R0 R sc p t ((r, A ++ [(q, kd, a, none)] ++ T) :: l) ls G k n) {K : cj_G → Prop} (h : ∀ G' : cj_G, rd_cx rd rt nb L tx ill G0 Qx R0 R sc p t ((r, A ++ [(q, kd, v, none)] ++ T) :: l) ls G' k n → K G') : sk_pt G q 5 1 (.int v) K := by
  obtain ⟨a1, a2, a3⟩ := own_fact (cx_o hc)
  have had : rw_ad (A ++ [(q, kd, v, none)] ++ T) = rw_ad (A ++ [(q, kd, a, none)] ++ T) := by simp [rw_ad]
  have hmem : q ∈ rw_ad (A ++ [(q, kd, a, none)] ++ T) := by simp [rw_ad]
  have hsg := rw_sg_app.mp a1.2.1
  have hsg2 := rw_sg_app.mp hsg.1
  have hq : G q = some (rw_c (q, kd, a, none) (rw_nx T none)) := hsg2.2.1
  refine ⟨_, hq, Nat.le_of_ble_eq_true rfl, h _ ?_⟩
  have hf : cj_fr [q] G (cj_up G q (rw_c (q, kd, v, none) (rw_nx T none))) := cj_fr.up cj_fr.rf (by simp)
  have hrq : r ≠ q := fun e => a1.ndr (e ▸ hmem)
  have hat : rw_at (cj_up G q (rw_c (q, kd, v, none) (rw_nx T none))) r (A ++ [(q, kd, v, none)] ++ T) := by
    refine ⟨?_, rw_sg_set a1.2.1 a1.2.2, by rw [had]; exact a1.2.2⟩
    rw [hf _ _ (cj_ni1 hrq) a1.1, rw_la_ad, rw_la_ad, had]
    have : rw_nx (A ++ [(q, kd, a, none)] ++ T) none = rw_nx (A ++ [(q, kd, v, none)] ++ T) none := by cases A <;> rfl
    rw [this]
  refine cx_st hc (st_op hc.2.2.2 hf (fun x hx => ?_) (own_head (own_tail (cx_o hc)) hf (fun x hx h9 => ?_) hat (fun x hx => ?_) (fun x hx => ?_))) (by omega) (by omega)
  · rw [List.mem_singleton] at hx; subst hx
    rw [rd_as_c]; exact List.mem_cons_of_mem _ (List.mem_append_left _ hmem)
  · rw [List.mem_singleton] at h9; subst h9
    exact a3 _ (List.mem_cons_of_mem _ hmem) hx
  · rw [had] at hx; exact a2 x hx
  · rw [had] at hx; exact a3 x hx
theorem l_cases {G0 : cj_G} {Qr : Option Value → cj_G → Prop} {Qx : String → cj_G → Prop} {R0 : ps_Q fr_F} {sc : List Nat} {l : List (Nat × List rw_I)} {ls : List rw_I} {K : Int32 → Int32 → cj_G → Nat → Nat → Prop} {KK : Nat → List (Nat × fr_F) → ps_Q fr_F} {x8 q13 q25 en : Nat} {C : List rw_I} (hX : rd_CM rd rt nb L tx ill mX3_expression E [.int (dp + 1)] d0 (-2)) (hE : ∀ sc p, p ≤ L → ps_ad L p (E sc p)) (hd : 12 ≤ d) (hd0 : d0 + 2 ≤ d) (hKK : ∀ (p1 : Nat) (x : List (Nat × fr_F)), p1 ≤ L → ps_ae L p1 (KK p1 x)) (kk : ∀ (p : Nat) (cs : List (Nat × fr_F)) (T Bd : List rw_I) (s : Int32) (G : cj_G) (k n : Nat) (t : Int), cs.length ≤ 8 → 5 ≤ t → mt_is T Bd cs en → rd_cx rd rt nb L tx ill G0 Qx R0 (KK p cs) sc p t ((x8, C ++ [(q13, 18, 0, none)] ++ T) :: (q25, Bd) :: l) ((en, 21, 0, none) :: ls) G k n → K s (nI cs.length) G k n) : ∀ (r m seen p : Nat) (cs : List (Nat × fr_F)) (T Bd : List rw_I) (t : Int) (G : cj_G) (k n : Nat), m + r = 8 → cs.length = m → seen < 256 → 5 ≤ t → mt_is T Bd cs en → rd_cx rd rt nb L tx ill G0 Qx R0 (ps_bd (ps_cs tx L E sc r m seen p cs) KK) sc p t ((x8, C ++ [(q13, 18, 0, none)] ++ T) :: (q25, Bd) :: l) ((en, 21, 0, none) :: ls) G k n → wk_X3_match_59 d rd dp x8 q13 q25 en Qr Qx K (r + 1) (nI seen) (nI m) G k n := by
  intro r
  induction r with
  | zero =>
    intro m seen p cs T Bd t G k n hm hl hs ht hw hc
    unfold wk_X3_match_59
    have e : m = 8 := by omega
    subst e
    refine ⟨fun _ => ?_, fun h => absurd (nI_le (a := 8) (b := 8) (by omega) (by omega)) h⟩
    have := kk p cs T Bd (nI seen) G k n t (by omega) ht hw hc
    rw [hl] at this; exact this
  | succ r ih =>
    intro m seen p cs T Bd t G k n hm hl hs ht hw hc
    unfold wk_X3_match_59
    have hch := cx_ch hc p
    have q125 : nI (rd_ch tx L p) = 125 ↔ rd_ch tx L p = 125 := nI_eq (b := 125) (by omega) (by omega)
    have next : (m = 0 ∨ ¬ rd_ch tx L p = 125) → (sk_V G rd 3 ∧ sk_c_i mX3_takeTagNotIn d k n [.ref rd, .int (nI seen)] G Qx (fun x44 G41 k42 n43 => (sk_c_r mX3_label d k42 n43 [] G41 Qx (fun x49 G46 k47 n48 => sk_new G46 k47 n48 5 5 [.int 0, .int 0, .null, .int 0, .null] (fun q50 G51 k52 n53 => (sk_n_v mX5_init d k52 n53 [.ref q50, .int 19, .int x44, .ref x49] G51 (fun G55 k56 n57 => (sk_V G55 x8 4 ∧ sk_c_v mX4_add d k56 n57 [.ref x8, .ref q50] G55 Qx (fun G59 k60 n61 => (sk_V G59 q25 4 ∧ sk_c_v mX4_add d k60 n61 [.ref q25, .ref x49] G59 Qx (fun G63 k64 n65 => (sk_V G63 rd 3 ∧ sk_c_v mX3_caseBody d k64 n65 [.ref rd, .ref q25, .int x44, .ref en, .int dp] G63 Qx (fun G67 k68 n69 => wk_X3_match_59 d rd dp x8 q13 q25 en Qr Qx K (r + 1) (nI seen ||| ((1 : Int32) <<< (x44 &&& 31))) (nI m + 1) G67 k68 n69))))))))))))) := by
      intro hn
      have e : ps_bd (ps_cs tx L E sc (r + 1) m seen p cs) KK = if (65 ≤ rd_ch tx L p ∧ rd_ch tx L p ≤ 72) ∧ ¬ seen.testBit (rd_ch tx L p - 65) = true then ps_bd (ps_cb tx L E sc (rd_ch tx L p - 65) (p + 1)) (fun p1 B => ps_bd (ps_cs tx L E sc r (m + 1) (seen ||| 2 ^ (rd_ch tx L p - 65)) p1 (cs ++ [(rd_ch tx L p - 65, B)])) KK) else .inl p := by
        simp only [ps_cs, if_pos hn]; split
        · rw [ps_bd_a]
        · rfl
      have hKc : ∀ (p1 : Nat) (B : fr_F), p1 ≤ L → ps_ae L p1 (ps_bd (ps_cs tx L E sc r (m + 1) (seen ||| 2 ^ (rd_ch tx L p - 65)) p1 (cs ++ [(rd_ch tx L p - 65, B)])) KK) := fun p1 B h1 => ps_ae_bd (ps_ae_cs hE sc _ _ _ _ _ h1) (fun p2 y _ h3 => hKK p2 y h3)
      refine cx_tag seen hs (cx_R hc e) (by omega) (by omega) (fun h1 => ps_ae_of (ps_ad_bd (ps_ad_cbd hE h1) (fun p1 x _ h2 => hKc p1 x h2))) (fun G1 hy hp1 hc1 => ?_)
      refine cx_label hc1 (by omega) (by omega) (fun lb G2 hc2 => cx_step hc2 (by omega) (by omega) (fun q G3 w3 hc3 => ?_))
      have n1 : q ≠ lb := fun e9 => w3 (by rw [e9]; exact as_l (x := (lb, 21, 0, none)))
      refine cx_add hc3 (by omega) (fun G4 hc4 => ?_)
      refine cx_add (x := (lb, 21, 0, none)) (cx_perm hc4 (List.Perm.swap _ _ _)) (by omega) (fun G5 hc5 => ⟨⟨_, (cx_i hc5).1⟩, ?_⟩)
      have htg : rd_ch tx L p - 65 < 8 := by omega
      refine cx_call (d0 := d - 1) (s := 2) (rc_caseBody (d := d - 1) hX hE (by omega) (by omega) htg List.mem_cons_self hc5.2.2.2) hc5 (by omega) (by omega) (by omega) (ps_ad_cbd hE hp1) hKc (fun p1 F G6 k6 n6 _ h1 h2 z hz => ?_)
      obtain ⟨W, j, hwF, n2, hst⟩ := z
      have hc6 := cx_perm (hz _ _ _ hst) (List.Perm.swap _ _ _)
      rw [nI_bit htg, nI_1]
      rw [List.append_assoc (C ++ [(q13, 18, 0, none)])] at hc6
      have h256 : seen ||| 2 ^ (rd_ch tx L p - 65) < 256 := by
        have h9 : 2 ^ (rd_ch tx L p - 65) < 2 ^ 8 := Nat.pow_lt_pow_right (by omega) htg
        exact Nat.or_lt_two_pow (n := 8) hs h9
      exact ih (m + 1) _ p1 _ _ _ _ G6 _ _ (by omega) (by rw [List.length_append, hl]; rfl) h256 (by omega) (mt_is_1 hw hwF n1 n2) hc6
    refine ⟨fun h => absurd h (nI_ge (a := m) (b := 8) (by omega) (by omega)), fun _ => ⟨fun h0 => ?_, fun h0 => ?_⟩⟩
    · have : m = 0 := (nI_eq (b := 0) (by omega) (by omega)).mp h0
      exact next (Or.inl this)
    · have hm0 : ¬ m = 0 := fun h => h0 (by rw [h]; rfl)
      refine cx_peek hc (by omega) ⟨fun h1 => ?_, fun h1 => next (Or.inr (fun h => h1 (q125.mpr h)))⟩
      have h2 := q125.mp h1
      have e : ps_bd (ps_cs tx L E sc (r + 1) m seen p cs) KK = KK p cs := by
        simp only [ps_cs, if_neg (fun h9 => h9.elim hm0 (fun h => h h2) : ¬ (m = 0 ∨ ¬ rd_ch tx L p = 125))]; rfl
      have := kk p cs T Bd (nI seen) G k n t (by omega) ht hw (cx_R hc e)
      rw [hl] at this; exact this
theorem rc_match (hX : rd_CM rd rt nb L tx ill mX3_expression E [.int (dp + 1)] d0 (-2)) (hE : ∀ sc p, p ≤ L → ps_ad L p (E sc p)) {d1 : Nat} (hM : rd_CM rd rt nb L tx ill mX3_comparison (ps_cm tx L E) [.int dp] d1 9) {sc : List Nat} {p : Nat} (hd : 12 ≤ d) (hd0 : d0 + 2 ≤ d) (hd1 : d1 + 1 ≤ d) (hp : p < L) : rd_C1 rd rt nb L tx ill mX3_match (ps_ma tx L E sc p) sc p [.int dp] d 9 := by
  intro G0 l ls G k n hst hb
  refine tq_X3_match (by omega) ?_
  unfold wq_X3_match
  have hc := cx_begin hst hb
  have hK3 : ∀ (F : fr_F) (p3 : Nat) (cs : List (Nat × fr_F)), p3 ≤ L → ps_ae L p3 (ps_xp tx L 125 p3 (fun p4 => .inr (p4, fr_ma F cs)) : ps_Q fr_F) := fun F p3 cs h3 => ps_ae_of (ps_ad_xp (by omega) h3 (fun h4 => ⟨Nat.le_refl _, h4⟩))
  have hK2 : ∀ (F : fr_F) (p2 : Nat), p2 ≤ L → ps_ae L p2 (ps_bd (ps_cs tx L E sc 8 0 0 p2 []) (fun p3 cs => ps_xp tx L 125 p3 (fun p4 => .inr (p4, fr_ma F cs))) : ps_Q fr_F) := fun F p2 h2 => ps_ae_bd (ps_ae_cs hE sc _ _ _ _ _ h2) (fun p3 cs _ h3 => hK3 F p3 cs h3)
  have hK1 : ∀ (p1 : Nat) (F : fr_F), p1 ≤ L → ps_ae L p1 (ps_xp tx L 123 p1 (fun p2 => ps_bd (ps_cs tx L E sc 8 0 0 p2 []) (fun p3 cs => ps_xp tx L 125 p3 (fun p4 => .inr (p4, fr_ma F cs)))) : ps_Q fr_F) := fun p1 F h1 => ps_ae_of (ps_ad_xp (by omega) h1 (fun h2 => hK2 F _ h2))
  refine cx_inc hc hp (ps_ae_of (ps_ad_bd (ps_ad_cm hE hp) (fun p1 F _ h1 => hK1 p1 F h1))) (fun G1 hc1 => ?_)
  refine cx_go (hM sc (p + 1) hp) (KK := fun p1 F => ps_xp tx L 123 p1 (fun p2 => ps_bd (ps_cs tx L E sc 8 0 0 p2 []) (fun p3 cs => ps_xp tx L 125 p3 (fun p4 => .inr (p4, fr_ma F cs))))) hc1 (by omega) (by omega) (by omega) (ps_ad_cm hE hp) hK1 (fun p1 F x8 C G2 k2 n2 _ h1 h2 hw hc2 => ?_)
  refine cx_expect 123 hc2 (by omega) (by omega) (by omega) (by omega) (fun h3 => hK2 F _ h3) (fun G3 _ hp3 hc3 => ?_)
  refine cx_stepN hc3 (by omega) (by omega) (fun q13 G4 hc4 => cx_add hc4 (by omega) (fun G5 hc5 => cx_newrow hc5 (by omega) (by omega) (fun q25 G6 hc6 => cx_label hc6 (by omega) (by omega) (fun en G7 hc7 => ⟨9, ?_⟩))))
  have hc8 := cx_perm hc7 (List.Perm.swap _ _ _)
  rw [← List.append_nil (C ++ [(q13, 18, 0, none)])] at hc8
  refine l_cases hX hE hd hd0 (hK3 F) (fun p3 cs T Bd s G8 k8 n8 t hl ht hm hc9 => ?_) 8 0 0 (p1 + 1) [] [] [] _ G7 _ _ (by omega) rfl (by omega) (by omega) mt_is_0 hc8
  refine cx_expect 125 hc9 (by omega) (by omega) (by omega) (by omega) (fun h4 => ⟨Nat.le_refl _, h4⟩) (fun G9 _ _ hca => cx_set hca (fun Ga hcb => ?_))
  refine cx_append hcb (by omega) (fun Gb hcc => cx_add (x := (en, 21, 0, none)) hcc (by omega) (fun Gc hcd => cx_fin hcd (fr_is_ma hw hm)))
theorem cx_head {G0 G : cj_G} {Qx : String → cj_G → Prop} {β : Type} {R0 R : ps_Q β} {sc : List Nat} {p : Nat} {t : Int} {l : List (Nat × List rw_I)} {ls : List rw_I} {k n : Nat} (hc : rd_cx rd rt nb L tx ill G0 Qx R0 R sc p t l ls G k n) (hd : 9 ≤ d) {K : Int32 → cj_G → Nat → Nat → Prop} (h : K (ch_b (rd_hd tx L p = true)) G k n) : sk_V G rd 3 ∧ sk_c_i mX3_beginsHead d k n [.ref rd] G Qx K := by
  have h1 := cx_p hc
  have h2 := cx_L hc
  exact ⟨⟨_, (cx_i hc).1⟩, sk_pure (t_beginsHead (cx_i hc).1 (cx_i hc).2.1 h2 (by omega) (cx_x hc)) (by omega) h⟩
theorem ps_ad_hb (hE : ∀ sc p, p ≤ L → ps_ad L p (E sc p)) {sc : List Nat} {p : Nat} {W : fr_F → fr_F} (hp : p ≤ L) : ps_ad L p (ps_bd (ps_bo tx L E sc p) (fun p1 F => .inr (p1, W F)) : ps_Q fr_F) := ps_ad_bd (ps_ad_bo hE hp) (fun p1 F _ h1 => ⟨Nat.le_refl _, h1⟩)
theorem l_heads {G0 : cj_G} {Qr : Option Value → cj_G → Prop} {Qx : String → cj_G → Prop} {R0 : ps_Q fr_F} {sc0 : List Nat} {l : List (Nat × List rw_I)} {ls : List rw_I} {K : Int32 → cj_G → Nat → Nat → Prop} {x2 : Int32} {q4 q12 : Nat} (hX : rd_CM rd rt nb L tx ill mX3_expression E [.int (dp + 1)] d0 (-2)) (hE : ∀ sc p, p ≤ L → ps_ad L p (E sc p)) (hd : 13 ≤ d) (hd0 : d0 + 3 ≤ d) (kk : ∀ (p : Nat) (ys : List Nat) (A B : List rw_I) (W : fr_F → fr_F) (i : Int32) (G : cj_G) (k n : Nat) (t : Int), 0 ≤ t → fw_is A B W → rd_cx rd rt nb L tx ill G0 Qx R0 (ps_bd (ps_bo tx L E (sc0 ++ ys) p) (fun p1 F => .inr (p1, W F))) (sc0 ++ ys) p t ((q4, A) :: (q12, B) :: l) ls G k n → K i G k n) : ∀ (r h p : Nat) (ys : List Nat) (A B : List rw_I) (W : fr_F → fr_F) (t : Int) (G : cj_G) (k n : Nat), h + r = L → 0 ≤ t → fw_is A B W → rd_cx rd rt nb L tx ill G0 Qx R0 (ps_hs tx L E r (sc0 ++ ys) p W) (sc0 ++ ys) p t ((q4, A) :: (q12, B) :: l) ls G k n → wk_X3_expression_34 d rd dp x2 q4 q12 Qr Qx K (r + 1) (nI h) G k n := by
  intro r
  induction r with
  | zero =>
    intro h p ys A B W t G k n hh ht hw hc
    unfold wk_X3_expression_34
    have hL := cx_L hc
    exact cx_g1 hc ⟨fun _ => kk p ys A B W _ G k n t ht hw hc, fun h9 => absurd (nI_le (by omega) (by omega)) h9⟩
  | succ r ih =>
    intro h p ys A B W t G k n hh ht hw hc
    unfold wk_X3_expression_34
    have hL := cx_L hc
    refine cx_g1 hc ⟨fun h9 => absurd h9 (nI_ge (by omega) (by omega)), fun _ => cx_head hc (by omega) ⟨fun h0 => ?_, fun h1 => ?_⟩⟩
    · have n0 := ch_b0.mp h0
      exact kk p ys A B W _ G k n t ht hw (cx_R hc (by simp only [ps_hs, if_neg n0]))
    · have y0 : rd_hd tx L p = true := Classical.byContradiction (fun h9 => h1 (ch_b0.mpr h9))
      have e : ps_hs tx L E (r + 1) (sc0 ++ ys) p W = ps_bd (ps_h1 tx L E (sc0 ++ ys) p) (fun p1 x => ps_hs tx L E r x.1 p1 (fun F => W (x.2 F))) := by simp only [ps_hs, if_pos y0]
      have hh9 := rc_head (a1 := q4) (a2 := q12) (sc := sc0 ++ ys) (d := d - 2) hX hE (by omega) (by omega) y0 G0 A B l ls G hc.2.2.2
      rw [show d - 2 + 1 = d - 1 by omega] at hh9
      refine ⟨⟨_, (cx_i hc).1⟩, cx_call (d0 := d - 1) (s := 10) hh9 (cx_R hc e) (by omega) (by omega) (by omega) (ps_ad_h1 hE y0) (fun p1 x h3 => ps_ae_of (ps_ad_hs hE r x.1 p1 _ h3)) (fun p1 x G6 k6 n6 _ h1 h2 z hz => ?_)⟩
      obtain ⟨X, Y, zs, hwx, hsx, hst⟩ := z
      have hc6 := hz _ _ _ hst
      rw [hsx, List.append_assoc] at hc6
      rw [nI_1]
      exact ih (h + 1) p1 (ys ++ zs) _ _ _ _ G6 _ _ (by omega) (by omega) (fw_is_co hw hwx) hc6
theorem rc_expression {dep d1 : Nat} (hdep : dep ≤ 5) (hX : rd_CM rd rt nb L tx ill mX3_expression E [.int (nI dep + 1)] d0 (-2)) (hE : ∀ sc p, p ≤ L → ps_ad L p (E sc p)) (hM : rd_CM rd rt nb L tx ill mX3_comparison (ps_cm tx L E) [.int (nI dep)] d1 9) (hd : 13 ≤ d) (hd0 : d0 + 3 ≤ d) (hd1 : d1 + 2 ≤ d) : rd_CM rd rt nb L tx ill mX3_expression (ps_e1 tx L E) [.int (nI dep)] d (-2) := by
  intro sc p hp G0 l ls G k n hst hb
  refine tq_X3_expression (by omega) ?_
  unfold wq_X3_expression
  have hc := cx_begin hst hb
  refine ⟨fun _ => cx_g4 hc (cx_newrow hc (by omega) (by omega) (fun q4 G1 hc1 => cx_newrow hc1 (by omega) (by omega) (fun q12 G2 hc2 => ⟨L + 1, ?_⟩))), fun h9 => absurd (nI_le (b := 5) hdep (by omega)) h9⟩
  have hc3 := cx_perm hc2 (List.Perm.swap _ _ _)
  have hc4 : rd_cx rd rt nb L tx ill G0 (rd_bad rd rt nb L G0 (ps_e1 tx L E sc p)) (ps_e1 tx L E sc p) (ps_hs tx L E L (sc ++ []) p id) (sc ++ []) p (- -2 - 1 - 1) ((q4, []) :: (q12, []) :: l) ls G2 (k - 1 - 1) (n - 2 - 2) := by
    rw [List.append_nil]; exact hc3
  refine l_heads hX hE hd hd0 (fun p1 ys A B W i G3 k3 n3 t ht hw hc5 => ?_) L 0 p [] [] [] id _ G2 _ _ (by omega) (by omega) fw_is_id hc4
  have hch := cx_ch hc5 p1
  have hp1 := (cx_p hc5).2
  have q63 : nI (rd_ch tx L p1) = 63 ↔ rd_ch tx L p1 = 63 := nI_eq (b := 63) (by omega) (by omega)
  have htk : (sc ++ ys).take sc.length = sc := List.take_left' rfl
  have last : ∀ (p2 : Nat) (F : fr_F) (r : Nat) (M : List rw_I) (G4 : cj_G) (k4 n4 : Nat) (t : Int), fr_is M F → rd_cx rd rt nb L tx ill G0 (rd_bad rd rt nb L G0 (ps_e1 tx L E sc p)) (ps_e1 tx L E sc p) (.inr (p2, W F)) (sc ++ ys) p2 t ((r, M) :: (q4, A) :: (q12, B) :: l) ls G4 k4 n4 → (sk_V G4 q4 4 ∧ sk_c_v mX4_append d k4 n4 [.ref q4, .ref r] G4 (rd_bad rd rt nb L G0 (ps_e1 tx L E sc p)) (fun G49 k50 n51 => (sk_V G49 q4 4 ∧ sk_c_v mX4_append d k50 n51 [.ref q4, .ref q12] G49 (rd_bad rd rt nb L G0 (ps_e1 tx L E sc p)) (fun G53 k54 n55 => sk_pt G53 rd 3 4 (.int (nI sc.length)) (fun G56 => rd_fin rd rt nb L tx ill G0 sc (ps_e1 tx L E sc p) l ls (some (.ref q4)) G56))))) := by
    intro p2 F r M G4 k4 n4 t hM hc6
    refine cx_append (cx_perm hc6 (List.Perm.swap _ _ _)) (by omega) (fun G5 hc7 => cx_append hc7 (by omega) (fun G6 hc8 => cx_p4 sc.length hc8 (by rw [List.length_append]; omega) (fun G7 hc9 => ?_)))
    rw [htk] at hc9
    exact cx_fin hc9 (hw M F hM)
  have hK : ∀ (p2 : Nat) (F : fr_F), p2 ≤ L → ps_ae L p2 (.inr (p2, W F) : ps_Q fr_F) := fun p2 F h2 => ⟨Nat.le_refl _, h2⟩
  refine cx_peek hc5 (by omega) ⟨fun h1 => ?_, fun h1 => ?_⟩
  · have n1 : ¬ rd_ch tx L p1 = 63 := fun h => h1 (q63.mpr h)
    have e : ps_bo tx L E (sc ++ ys) p1 = ps_cm tx L E (sc ++ ys) p1 := by unfold ps_bo; rw [if_neg n1]
    rw [e] at hc5
    exact cx_go (hM (sc ++ ys) p1 hp1) hc5 (by omega) (by omega) (by omega) (ps_ad_cm hE hp1) hK (fun p2 F r M G4 k4 n4 _ _ _ hM4 hc6 => last p2 F r M G4 k4 n4 _ hM4 hc6)
  · have n1 : rd_ch tx L p1 = 63 := q63.mp h1
    have hpl : p1 < L := rd_ch_in (tx := tx) (by omega)
    have e : ps_bo tx L E (sc ++ ys) p1 = ps_ma tx L E (sc ++ ys) p1 := by unfold ps_bo; rw [if_pos n1]
    rw [e] at hc5
    exact cx_go (rc_match (d := d - 1) hX hE hM (by omega) (by omega) (by omega) hpl) hc5 (by omega) (by omega) (by omega) (ps_ad_ma hE hpl) hK (fun p2 F r M G4 k4 n4 _ _ _ hM4 hc6 => last p2 F r M G4 k4 n4 _ hM4 hc6)
theorem rc_refuse (hd : 9 ≤ d) : rd_CM rd rt nb L tx ill mX3_expression (ps_ex tx L 0) [.int (nI 6)] d (-2) := by
  intro sc p hp G0 l ls G k n hst hb
  refine tq_X3_expression (by omega) ?_
  unfold wq_X3_expression
  have hc := cx_begin hst hb
  exact ⟨fun h9 => absurd h9 (nI_ge (a := 5) (b := 6) (by omega) (by omega)), fun _ => cx_refuse hc hd (by omega)⟩
/-- expression(depth), all levels -/
theorem rc_level : ∀ m : Nat, m ≤ 6 → rd_CM rd rt nb L tx ill mX3_expression (ps_ex tx L m) [.int (nI (6 - m))] (10 + 8 * m) (-2) := by
  intro m
  induction m with
  | zero => intro _; exact rc_refuse (by omega)
  | succ m ih =>
    intro hm
    have hX : rd_CM rd rt nb L tx ill mX3_expression (ps_ex tx L m) [.int (nI (6 - (m + 1)) + 1)] (10 + 8 * m) (-2) := by
      rw [nI_1, show 6 - (m + 1) + 1 = 6 - m by omega]; exact ih (by omega)
    have hE : ∀ sc p, p ≤ L → ps_ad L p (ps_ex tx L m sc p) := fun sc p hp => ps_ad_ex m sc p hp
    have h1 := rc_atom (d := 11 + 8 * m) hX hE (by omega) (by omega)
    have h2 := rc_application (d := 13 + 8 * m) h1 hE (by omega) (by omega)
    have h3 := rc_product (d := 14 + 8 * m) h2 hE (by omega) (by omega)
    have h4 := rc_sum (d := 15 + 8 * m) h3 hE (by omega) (by omega)
    have h5 := rc_comparison (d := 16 + 8 * m) h4 hE (by omega) (by omega)
    have h6 := rc_expression (d := 18 + 8 * m) (by omega) hX hE h5 (by omega) (by omega) (by omega)
    rw [show 10 + 8 * (m + 1) = 18 + 8 * m by omega]
    exact h6
end RC
