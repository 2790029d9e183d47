/-! ROWS AND CODES: rs_c the instructions of a row by the places of its steps; the Reader's state rd_in; what a method of the Reader leaves behind -/
def rs_a (pl : Nat → Nat) (x : rw_I) : Int32 := match x.2.2.2 with
  | none => x.2.2.1
  | some g => if x.2.1 = 19 then x.2.2.1 else nI (pl g)
def rs_b (pl : Nat → Nat) (x : rw_I) : Int32 := match x.2.2.2 with
  | none => 0
  | some g => if x.2.1 = 19 then nI (pl g) else 0
def rs_c (pl : Nat → Nat) : List rw_I → List fr_C
  | [] => []
  | x :: t => if x.2.1 = 21 then rs_c pl t else (x.2.1, rs_a pl x, rs_b pl x) :: rs_c pl t
def rs_p (pl : Nat → Nat) : List rw_I → Nat → Prop
  | [], _ => True
  | x :: t, b => pl x.1 = b ∧ rs_p pl t (b + rw_n x)
theorem rs_c_app (pl : Nat → Nat) (A B : List rw_I) : rs_c pl (A ++ B) = rs_c pl A ++ rs_c pl B := by
  induction A with
  | nil => rfl
  | cons x t ih =>
    simp only [List.cons_append, rs_c, ih]
    split <;> rfl
theorem rw_cnt_app (A B : List rw_I) : rw_cnt (A ++ B) = rw_cnt A + rw_cnt B := by
  induction A with
  | nil => simp [rw_cnt]
  | cons x t ih => simp only [List.cons_append, rw_cnt, ih]; omega
theorem rs_p_app {pl : Nat → Nat} {A B : List rw_I} : ∀ {b : Nat}, rs_p pl (A ++ B) b ↔ rs_p pl A b ∧ rs_p pl B (b + rw_cnt A) := by
  induction A with
  | nil => intro b; simp [rs_p, rw_cnt]
  | cons x t ih =>
    intro b
    simp only [List.cons_append, rs_p, rw_cnt, ih, Nat.add_assoc, and_assoc]
def fr_is (R : List rw_I) (F : fr_F) : Prop := rw_cl R ∧ rw_cnt R = F.1 ∧ ∀ (pl : Nat → Nat) (b : Nat), rs_p pl R b → rs_c pl R = F.2 b
theorem fr_is_0 : fr_is [] fr_0 := ⟨fun x hx => absurd hx List.not_mem_nil, rfl, fun _ _ _ => rfl⟩
theorem rw_n_1 {s k : Nat} {a : Int32} {o : Option Nat} (hk : k < 21) : rw_n (s, nI k, a, o) = 1 := by
  unfold rw_n
  rw [if_neg]
  intro h
  have h2 := congrArg Int32.toInt (show nI k = nI 21 from h)
  rw [nI_toInt (by omega), nI_toInt (by omega)] at h2
  omega
theorem rw_k_ne {k : Nat} (hk : k < 21) : ¬ nI k = 21 := by
  intro h
  have h2 := congrArg Int32.toInt (show nI k = nI 21 from h)
  rw [nI_toInt (by omega), nI_toInt (by omega)] at h2
  omega
theorem fr_is_1 {s k a : Nat} (hk : k < 21) : fr_is [(s, nI k, nI a, none)] (fr_1 k a) := by
  refine ⟨fun x hx g hg => ?_, ?_, fun pl b _ => ?_⟩
  · rw [List.mem_singleton] at hx; subst hx; cases hg
  · show rw_n _ + 0 = 1
    rw [rw_n_1 hk]
  · show rs_c pl [(s, nI k, nI a, none)] = [(nI k, nI a, 0)]
    simp only [rs_c, rs_a, rs_b, if_neg (rw_k_ne hk)]
theorem rw_cl_app {A B : List rw_I} (h1 : rw_cl A) (h2 : rw_cl B) : rw_cl (A ++ B) := by
  intro x hx g hg
  rw [rw_ad_app]
  rcases List.mem_append.mp hx with h | h
  · obtain ⟨h3, h4⟩ := h1 x h g hg; exact ⟨List.mem_append_left _ h3, h4⟩
  · obtain ⟨h3, h4⟩ := h2 x h g hg; exact ⟨List.mem_append_right _ h3, h4⟩
theorem fr_is_ap {A B : List rw_I} {F H : fr_F} (h1 : fr_is A F) (h2 : fr_is B H) : fr_is (A ++ B) (fr_ap F H) := by
  refine ⟨rw_cl_app h1.1 h2.1, ?_, fun pl b hp => ?_⟩
  · rw [rw_cnt_app, h1.2.1, h2.2.1]; rfl
  · obtain ⟨p1, p2⟩ := rs_p_app.mp hp
    rw [rs_c_app, h1.2.2 pl b p1, h2.2.2 pl _ p2, h1.2.1]; rfl
/-! the Reader's state -/
def rd_in (G : cj_G) (rd rt nb L : Nat) (tx : Nat → Nat) (ill : Int32) (sc : List Nat) (p : Nat) : Prop :=
  G rd = some (.inr (3, [.ref rt, .int (nI L), .int (nI p), .ref nb, .int (nI sc.length), .int ill])) ∧ G rt = some (.inl (1, 90, .inl (fun j => nI (tx j)))) ∧ (∃ nf : Nat → Nat, G nb = some (.inl (1, 90, .inl (fun j => nI (nf j)))) ∧ (∀ j, nf j < 65536) ∧ ∀ j, j < sc.length → nf j = sc.getD j 0) ∧ sc.length ≤ p ∧ p ≤ L ∧ rt ≠ nb
def rd_il (G : cj_G) (rd rt nb L q : Nat) : String → cj_G → Prop := fun E G' => E = "java/lang/IllegalArgumentException" ∧ (∃ bd : Nat, G' rd = some (.inr (3, [.ref rt, .int (nI L), .int (nI q), .ref nb, .int (nI bd), .int (nI q)]))) ∧ (∃ nf : Nat → Nat, G' nb = some (.inl (1, 90, .inl (fun j => nI (nf j)))) ∧ ∀ j, nf j < 65536) ∧ cj_fr [rd, nb] G G'
def rd_ill (G : cj_G) (rd rt nb L : Nat) {α : Type} (R : ps_Q α) : String → cj_G → Prop := fun E G' => ∃ q : Nat, R = .inl q ∧ rd_il G rd rt nb L q E G'
def rd_row (G0 G : cj_G) (r : Nat) (R : List rw_I) (F : fr_F) : Prop := rw_at G r R ∧ fr_is R F ∧ G0 r = none ∧ ∀ x ∈ rw_ad R, G0 x = none
def rd_ok (G : cj_G) (rd rt nb L : Nat) (tx : Nat → Nat) (ill : Int32) (sc : List Nat) (R : ps_Q fr_F) : Option Value → cj_G → Prop := fun v G' => ∃ (p' : Nat) (F : fr_F) (r : Nat) (W : List rw_I), R = .inr (p', F) ∧ v = some (.ref r) ∧ rd_row G G' r W F ∧ rd_in G' rd rt nb L tx ill sc p' ∧ cj_fr [rd, nb] G G'
theorem cj_fr.cut {S S' : List Nat} {G0 G G' : cj_G} (h : cj_fr S G0 G) (h2 : cj_fr S' G G') (hs : ∀ a ∈ S', a ∈ S ∨ G0 a = Option.none) : cj_fr S G0 G' := by
  intro q y hq hy
  refine h2 q y (fun h9 => ?_) (h q y hq hy)
  rcases hs q h9 with h3 | h3
  · exact hq h3
  · rw [h3] at hy; cases hy
section RK
variable {rd rt nb L : Nat} {tx : Nat → Nat} {ill : Int32} {sc : List Nat} {p d k n : Nat} {G G0 G' : cj_G} {Qx : String → cj_G → Prop}
theorem rd_il.back {q : Nat} {E : String} (hf : cj_fr [rd, nb] G0 G) (h : rd_il G rd rt nb L q E G') : rd_il G0 rd rt nb L q E G' := ⟨h.1, h.2.1, h.2.2.1, cj_fr.trans hf h.2.2.2⟩
theorem rd_in.ne (hi : rd_in G rd rt nb L tx ill sc p) {a ci : Nat} {fs : List Value} (ha : G a = some (.inr (ci, fs))) (hc : ci ≠ 3) : a ∉ [rd, nb] := by
  obtain ⟨nf, hn, _⟩ := hi.2.2.1
  exact cj_ni2 (cj_noo ha hi.1 hc) (cj_noa ha hn)
theorem rd_in.nn (hi : rd_in G rd rt nb L tx ill sc p) {a : Nat} (ha : G a = none) : a ∉ [rd, nb] := by
  obtain ⟨nf, hn, _⟩ := hi.2.2.1
  exact cj_ni2 (Ne.symm (cj_nn hi.1 ha)) (Ne.symm (cj_nn hn ha))
/-- what wasn't there when we began -/
theorem rd_in.old (hi : rd_in G rd rt nb L tx ill sc p) (hf : cj_fr [rd, nb] G0 G) {a : Nat} (ha : G a = none) : G0 a = none := cj_fr.none hf ha (hi.nn ha)
theorem rd_in.keep (hi : rd_in G rd rt nb L tx ill sc p) {S : List Nat} (hf : cj_fr S G G') (hS : ∀ a ∈ S, ∃ (ci : Nat) (fs : List Value), G a = some (.inr (ci, fs)) ∧ ci ≠ 3) : rd_in G' rd rt nb L tx ill sc p := by
  obtain ⟨h1, h2, ⟨nf, h3, h4⟩, h5⟩ := hi
  refine ⟨hf _ _ (fun h9 => ?_) h1, hf _ _ (fun h9 => ?_) h2, ⟨nf, hf _ _ (fun h9 => ?_) h3, h4⟩, h5⟩
  all_goals (obtain ⟨ci, fs, h6, h7⟩ := hS _ h9)
  · rw [h1] at h6; exact h7 (Prod.mk.inj (Sum.inr.inj (Option.some.inj h6))).1.symm
  · rw [h2] at h6; cases h6
  · rw [h3] at h6; cases h6
theorem rw_at.own {r : Nat} {R : List rw_I} (h : rw_at G r R) : ∀ a ∈ r :: rw_ad R, ∃ (ci : Nat) (fs : List Value), G a = some (.inr (ci, fs)) ∧ ci ≠ 3 := by
  intro a ha
  rcases List.mem_cons.mp ha with rfl | ha
  · exact ⟨4, _, h.1, by decide⟩
  · obtain ⟨fs, hf⟩ := rw_sg_mem h.2.1 a ha; exact ⟨5, fs, hf, by decide⟩
theorem rw_at.keep {r : Nat} {R : List rw_I} (h : rw_at G r R) (hi : rd_in G rd rt nb L tx ill sc p) (hf : cj_fr [rd, nb] G G') : rw_at G' r R := by
  refine h.fr hf (hi.ne h.1 (by decide)) (fun x hx => ?_)
  obtain ⟨ci, fs, h1, h2⟩ := h.own x (List.mem_cons_of_mem _ hx)
  exact hi.ne h1 h2
theorem rd_row.keep {r : Nat} {R : List rw_I} {F : fr_F} (h : rd_row G0 G r R F) (hi : rd_in G rd rt nb L tx ill sc p) (hf : cj_fr [rd, nb] G G') : rd_row G0 G' r R F := ⟨h.1.keep hi hf, h.2⟩
theorem rd_row.old {r : Nat} {R : List rw_I} {F : fr_F} (h : rd_row G G' r R F) (hi : rd_in G rd rt nb L tx ill sc p) (hf : cj_fr [rd, nb] G0 G) : rd_row G0 G' r R F := ⟨h.1, h.2.1, hi.old hf h.2.2.1, fun x hx => hi.old hf (h.2.2.2 x hx)⟩
/-- a row that is new stands apart from one that was there -/
theorem rd_row.apart {r q : Nat} {R S : List rw_I} {F : fr_F} (h : rd_row G G' q S F) (hr : rw_at G r R) : r ≠ q ∧ ∀ x ∈ rw_ad R, x ∉ rw_ad S := by
  refine ⟨cj_nn hr.1 h.2.2.1, fun x hx hs => ?_⟩
  obtain ⟨fs, h1⟩ := rw_sg_mem hr.2.1 x hx
  rw [h.2.2.2 x hs] at h1; cases h1
theorem cj_fr.one {a b : Nat} (h : cj_fr [a] G G') : cj_fr [a, b] G G' := h.mono (by simp)
theorem cj_fr.emp {S : List Nat} (h : cj_fr [] G G') : cj_fr S G G' := h.mono (fun q hq => absurd hq List.not_mem_nil)
theorem rd_in.v (hi : rd_in G rd rt nb L tx ill sc p) : sk_V G rd 3 := ⟨_, hi.1⟩
theorem rd_fo_eq {nf g : Nat → Nat} {x : Nat} : ∀ (i k : Nat), (∀ j, j < i → nf j = g j) → rd_fo nf x i k = rd_fo g x i k := by
  intro i
  induction i with
  | zero => intro k _; rfl
  | succ i ih =>
    intro k h
    unfold rd_fo
    rw [h i (Nat.lt_succ_self i), ih (k + 1) (fun j hj => h j (Nat.lt_succ_of_lt hj))]
theorem rk_peek (hL : L ≤ 90) (hx : ∀ j, tx j < 65536) (hi : rd_in G rd rt nb L tx ill sc p) (hd : 9 ≤ d) {K : Int32 → cj_G → Nat → Nat → Prop} (h : K (nI (rd_ch tx L p)) G k n) : sk_V G rd 3 ∧ sk_c_i mX3_peek d k n [.ref rd] G Qx K := by
  have hp := hi.2.2.2.2.1
  refine ⟨hi.v, 1, 0, 0, _, _, by omega, Nat.zero_le _, Nat.zero_le _, t_peek hi.1 hi.2.1 hL (by omega) hx, fun _ _ h => absurd h id, fun v G' q => ⟨_, q.1, ?_⟩⟩
  rw [q.2]; exact h
theorem rk_refuse (hi : rd_in G rd rt nb L tx ill sc p) (hd : 9 ≤ d) (hk : 1 ≤ k) (hn : 6 ≤ n) {K : cj_G → Nat → Nat → Prop} (h : ∀ E G', rd_il G rd rt nb L p E G' → Qx E G') : sk_V G rd 3 ∧ sk_c_v mX3_refuse d k n [.ref rd] G Qx K := by
  obtain ⟨nf, hn1, hn2, _⟩ := hi.2.2.1
  refine ⟨hi.v, 6, 1, 6, _, _, by omega, hk, hn, t_refuse hi.1, fun E G' q => h E G' ⟨q.1, ⟨_, q.2.1⟩, ⟨nf, q.2.2 _ _ (cj_ni1 (Ne.symm (cj_noa hi.1 hn1))) hn1, hn2⟩, q.2.2.one⟩, fun v G' q => absurd q id⟩
theorem rd_in.step (hi : rd_in G rd rt nb L tx ill sc p) (hp : p < L) (h1 : G' rd = some (.inr (3, [.ref rt, .int (nI L), .int (nI (p + 1)), .ref nb, .int (nI sc.length), .int ill]))) (hf : cj_fr [rd] G G') : rd_in G' rd rt nb L tx ill sc (p + 1) := by
  obtain ⟨nf, hn1, hn2⟩ := hi.2.2.1
  exact ⟨h1, hf _ _ (cj_ni1 (Ne.symm (cj_noa hi.1 hi.2.1))) hi.2.1, ⟨nf, hf _ _ (cj_ni1 (Ne.symm (cj_noa hi.1 hn1))) hn1, hn2⟩, Nat.le_succ_of_le hi.2.2.2.1, hp, hi.2.2.2.2.2⟩
theorem rd_no_il (hi : rd_in G rd rt nb L tx ill sc p) {E : String} (q : rd_no G rd rt nb L p sc.length E G') : rd_il G rd rt nb L p E G' := by
  obtain ⟨nf, hn1, hn2, _⟩ := hi.2.2.1
  exact ⟨q.1, ⟨_, q.2.1⟩, ⟨nf, q.2.2 _ _ (cj_ni1 (Ne.symm (cj_noa hi.1 hn1))) hn1, hn2⟩, q.2.2.one⟩
theorem rk_expect (hL : L ≤ 90) (hx : ∀ j, tx j < 65536) (hi : rd_in G rd rt nb L tx ill sc p) (hd : 9 ≤ d) (c : Nat) (hc : c < 65536) (hc0 : ¬ c = 0) {K : cj_G → Nat → Nat → Prop} (h1 : rd_ch tx L p = c → ∀ G', rd_in G' rd rt nb L tx ill sc (p + 1) → cj_fr [rd, nb] G G' → K G' k n) (h0 : ¬ rd_ch tx L p = c → 1 ≤ k ∧ 6 ≤ n ∧ ∀ E G', rd_il G rd rt nb L p E G' → Qx E G') : sk_V G rd 3 ∧ sk_c_v mX3_expect d k n [.ref rd, .int (nI c)] G Qx K := by
  have hp := hi.2.2.2.2.1
  refine ⟨hi.v, ?_⟩
  by_cases he : rd_ch tx L p = c
  · have hpl : p < L := rd_ch_in (tx := tx) (by rw [he]; exact hc0)
    refine ⟨2, 0, 0, _, _, by omega, Nat.zero_le _, Nat.zero_le _, t_expect_1 hi.1 hi.2.1 hL (by omega) hx hc he, fun _ _ h => absurd h id, fun v G' q => ⟨q.1, h1 he G' (hi.step hpl q.2.1 q.2.2) q.2.2.one⟩⟩
  · obtain ⟨a1, a2, a3⟩ := h0 he
    refine ⟨7, 1, 6, _, _, by omega, a1, a2, t_expect_0 hi.1 hi.2.1 hL (by omega) hx hc he, fun E G' q => a3 E G' (rd_no_il hi q), fun v G' q => absurd q id⟩
theorem rk_name (hL : L ≤ 90) (hx : ∀ j, tx j < 65536) (hi : rd_in G rd rt nb L tx ill sc p) (hd : 9 ≤ d) {K : Int32 → cj_G → Nat → Nat → Prop} (h1 : 97 ≤ rd_ch tx L p ∧ rd_ch tx L p ≤ 122 → ∀ G', rd_in G' rd rt nb L tx ill sc (p + 1) → cj_fr [rd, nb] G G' → K (nI (rd_ch tx L p)) G' k n) (h0 : ¬ (97 ≤ rd_ch tx L p ∧ rd_ch tx L p ≤ 122) → 1 ≤ k ∧ 6 ≤ n ∧ ∀ E G', rd_il G rd rt nb L p E G' → Qx E G') : sk_V G rd 3 ∧ sk_c_i mX3_takeName d k n [.ref rd] G Qx K := by
  have hp := hi.2.2.2.2.1
  refine ⟨hi.v, ?_⟩
  by_cases he : 97 ≤ rd_ch tx L p ∧ rd_ch tx L p ≤ 122
  · have hpl : p < L := rd_ch_in (tx := tx) (by omega)
    refine ⟨2, 0, 0, _, _, by omega, Nat.zero_le _, Nat.zero_le _, t_takeName_1 hi.1 hi.2.1 hL (by omega) hx he, fun _ _ h => absurd h id, fun v G' q => ⟨_, q.1, h1 he G' (hi.step hpl q.2.1 q.2.2) q.2.2.one⟩⟩
  · obtain ⟨a1, a2, a3⟩ := h0 he
    refine ⟨7, 1, 6, _, _, by omega, a1, a2, t_takeName_0 hi.1 hi.2.1 hL (by omega) hx he, fun E G' q => a3 E G' (rd_no_il hi q), fun v G' q => absurd q id⟩
theorem rk_tag (hL : L ≤ 90) (hx : ∀ j, tx j < 65536) (hi : rd_in G rd rt nb L tx ill sc p) (hd : 9 ≤ d) (seen : Nat) (hs : seen < 256) {K : Int32 → cj_G → Nat → Nat → Prop} (h1 : (65 ≤ rd_ch tx L p ∧ rd_ch tx L p ≤ 72) ∧ ¬ seen.testBit (rd_ch tx L p - 65) = true → ∀ G', rd_in G' rd rt nb L tx ill sc (p + 1) → cj_fr [rd, nb] G G' → K (nI (rd_ch tx L p - 65)) G' k n) (h0 : ¬ ((65 ≤ rd_ch tx L p ∧ rd_ch tx L p ≤ 72) ∧ ¬ seen.testBit (rd_ch tx L p - 65) = true) → 1 ≤ k ∧ 6 ≤ n ∧ ∀ E G', rd_il G rd rt nb L p E G' → Qx E G') : sk_V G rd 3 ∧ sk_c_i mX3_takeTagNotIn d k n [.ref rd, .int (nI seen)] G Qx K := by
  have hp := hi.2.2.2.2.1
  refine ⟨hi.v, ?_⟩
  by_cases he : 65 ≤ rd_ch tx L p ∧ rd_ch tx L p ≤ 72
  · have hpl : p < L := rd_ch_in (tx := tx) (by omega)
    by_cases hb : seen.testBit (rd_ch tx L p - 65) = true
    · obtain ⟨a1, a2, a3⟩ := h0 (fun h9 => h9.2 hb)
      refine ⟨7, 1, 6, _, _, by omega, a1, a2, t_takeTag_0 hi.1 hi.2.1 hL (by omega) hx hs he hb, fun E G' q => a3 E G' (rd_no_il hi q), fun v G' q => absurd q id⟩
    · refine ⟨2, 0, 0, _, _, by omega, Nat.zero_le _, Nat.zero_le _, t_takeTag_1 hi.1 hi.2.1 hL (by omega) hx hs he hb, fun _ _ h => absurd h id, fun v G' q => ⟨_, q.1, h1 ⟨he, hb⟩ G' (hi.step hpl q.2.1 q.2.2) q.2.2.one⟩⟩
  · obtain ⟨a1, a2, a3⟩ := h0 (fun h9 => he h9.1)
    refine ⟨7, 1, 6, _, _, by omega, a1, a2, t_takeTag_n hi.1 hi.2.1 hL (by omega) hx hs he, fun E G' q => a3 E G' (rd_no_il hi q), fun v G' q => absurd q id⟩
theorem rk_bind (hL : L ≤ 90) (hi : rd_in G rd rt nb L tx ill sc p) (hd : 9 ≤ d) (c : Nat) (hc : c < 65536) (hs : sc.length < p) {K : cj_G → Nat → Nat → Prop} (h1 : ∀ G', rd_in G' rd rt nb L tx ill (sc ++ [c]) p → cj_fr [rd, nb] G G' → K G' k n) : sk_V G rd 3 ∧ sk_c_v mX3_bind d k n [.ref rd, .int (nI c)] G Qx K := by
  obtain ⟨nf, hn1, hn2, hn3⟩ := hi.2.2.1
  have hp := hi.2.2.2.2.1
  refine ⟨hi.v, 0, 0, 0, _, _, by omega, Nat.zero_le _, Nat.zero_le _, t_rbind hi.1 hn1 (by omega) hc, fun _ _ h => absurd h id, fun v G' q => ⟨q.1, h1 G' ⟨?_, ?_, ⟨_, q.2.2.1, ?_, ?_⟩, ?_, hp, hi.2.2.2.2.2⟩ q.2.2.2⟩⟩
  · rw [q.2.1, List.length_append]; rfl
  · exact q.2.2.2 _ _ (cj_ni2 (Ne.symm (cj_noa hi.1 hi.2.1)) hi.2.2.2.2.2) hi.2.1
  · intro j; unfold rd_up; split
    · exact hc
    · exact hn2 j
  · intro j hj
    rw [List.length_append] at hj
    unfold rd_up
    by_cases h9 : j = sc.length
    · subst h9; rw [if_pos rfl]; simp
    · rw [if_neg h9, hn3 j (by simp at hj; omega)]
      simp only [List.getD_eq_getElem?_getD]
      rw [List.getElem?_append_left (by simp at hj; omega)]
  · rw [List.length_append]; simp; omega
theorem rk_fur (hi : rd_in G rd rt nb L tx ill sc p) (hL : L ≤ 90) (hd : 9 ≤ d) (c : Nat) (hc : c < 65536) {K : Int32 → cj_G → Nat → Nat → Prop} (h : K (rd_foI (ps_fo sc c)) G k n) : sk_V G rd 3 ∧ sk_c_i mX3_furtherOn d k n [.ref rd, .int (nI c)] G Qx K := by
  obtain ⟨nf, hn1, hn2, hn3⟩ := hi.2.2.1
  have hp := hi.2.2.2.2.1
  have hs := hi.2.2.2.1
  have he : rd_fo nf c sc.length 0 = ps_fo sc c := rd_fo_eq _ _ hn3
  refine ⟨hi.v, 0, 0, 0, _, _, by omega, Nat.zero_le _, Nat.zero_le _, t_rfurther hi.1 hn1 (by omega) hc hn2, fun _ _ h => absurd h id, fun v G' q => ⟨_, q.1, ?_⟩⟩
  rw [q.2, he]; exact h
theorem rk_rowOf (hd : 9 ≤ d) {kd av : Int32} (hk : 2 ≤ k) (hn : 7 ≤ n) {K : Nat → cj_G → Nat → Nat → Prop} (h : ∀ (r s : Nat) (G' : cj_G), G r = none → G s = none → rw_at G' r [(s, kd, av, none)] → cj_fr [] G G' → K r G' (k - 2) (n - 7)) : sk_c_r mX3_rowOf d k n [.int kd, .int av] G Qx K := by
  refine ⟨3, 2, 7, _, _, by omega, hk, hn, t_rowOf, fun _ _ h => absurd h id, fun v G' q => ?_⟩
  obtain ⟨r, s, h1, h2, h3, h4, h5⟩ := q
  exact ⟨r, h1, h r s G' h2 h3 h4 h5⟩
theorem rk_label (hd : 9 ≤ d) (hk : 1 ≤ k) (hn : 5 ≤ n) {K : Nat → cj_G → Nat → Nat → Prop} (h : ∀ (s : Nat) (G' : cj_G), G s = none → G' s = some (rw_c (s, 21, 0, none) none) → cj_fr [] G G' → K s G' (k - 1) (n - 5)) : sk_c_r mX3_label d k n [] G Qx K := by
  refine ⟨2, 1, 5, _, _, by omega, hk, hn, t_label, fun _ _ h => absurd h id, fun v G' q => ?_⟩
  obtain ⟨s, h1, h2, h3, h4⟩ := q
  exact ⟨s, h1, h s G' h2 h3 h4⟩
theorem rk_append (hd : 9 ≤ d) {r q : Nat} {A B : List rw_I} (h1 : rw_at G r A) (h2 : rw_at G q B) (hrq : r ≠ q) (hab : ∀ x ∈ rw_ad A, x ∉ rw_ad B) {K : cj_G → Nat → Nat → Prop} (h : ∀ G' : cj_G, rw_at G' r (A ++ B) → cj_fr (r :: rw_ad A) G G' → K G' k n) : sk_V G r 4 ∧ sk_c_v mX4_append d k n [.ref r, .ref q] G Qx K :=
  ⟨⟨_, h1.1⟩, 0, 0, 0, _, _, by omega, Nat.zero_le _, Nat.zero_le _, t_Rappend h1 h2 hrq hab, fun _ _ h => absurd h id, fun _ G' z => ⟨z.1, h G' z.2.1 z.2.2⟩⟩
theorem rk_add (hd : 9 ≤ d) {r : Nat} {A : List rw_I} {x : rw_I} (h1 : rw_at G r A) (h2 : G x.1 = some (rw_c x none)) (hx : x.1 ∉ rw_ad A) {K : cj_G → Nat → Nat → Prop} (h : ∀ G' : cj_G, rw_at G' r (A ++ [x]) → cj_fr (r :: rw_ad A) G G' → K G' k n) : sk_V G r 4 ∧ sk_c_v mX4_add d k n [.ref r, .ref x.1] G Qx K :=
  ⟨⟨_, h1.1⟩, 0, 0, 0, _, _, by omega, Nat.zero_le _, Nat.zero_le _, t_Radd h1 h2 hx, fun _ _ h => absurd h id, fun _ G' z => ⟨z.1, h G' z.2.1 z.2.2⟩⟩
theorem rk_add2 (hd : 9 ≤ d) {r : Nat} {A : List rw_I} {kd av : Int32} (hk : 1 ≤ k) (hn : 5 ≤ n) (h1 : rw_at G r A) {K : cj_G → Nat → Nat → Prop} (h : ∀ (s : Nat) (G' : cj_G), G s = none → rw_at G' r (A ++ [(s, kd, av, none)]) → cj_fr (r :: rw_ad A) G G' → K G' (k - 1) (n - 5)) : sk_V G r 4 ∧ sk_c_v mX4_add_ d k n [.ref r, .int kd, .int av] G Qx K :=
  ⟨⟨_, h1.1⟩, 2, 1, 5, _, _, by omega, hk, hn, t_Radd2 h1, fun _ _ h => absurd h id, fun _ G' z => by obtain ⟨z1, s, z2, z3, z4⟩ := z; exact ⟨z1, h s G' z2 z3 z4⟩⟩
theorem rk_addFirst (hd : 9 ≤ d) {r : Nat} {A : List rw_I} {x : rw_I} (h1 : rw_at G r A) (h2 : G x.1 = some (rw_c x none)) (hx : x.1 ∉ rw_ad A) {K : cj_G → Nat → Nat → Prop} (h : ∀ G' : cj_G, rw_at G' r (x :: A) → cj_fr [r, x.1] G G' → K G' k n) : sk_V G r 4 ∧ sk_c_v mX4_addFirst d k n [.ref r, .ref x.1] G Qx K :=
  ⟨⟨_, h1.1⟩, 0, 0, 0, _, _, by omega, Nat.zero_le _, Nat.zero_le _, t_RaddFirst h1 h2 hx, fun _ _ h => absurd h id, fun _ G' z => ⟨z.1, h G' z.2.1 z.2.2⟩⟩
theorem rk_operate (hd : 9 ≤ d) {r q : Nat} {A B : List rw_I} {kd : Int32} (hk : 2 ≤ k) (hn : 10 ≤ n) (h1 : rw_at G r A) (h2 : rw_at G q B) (hrq : r ≠ q) (hab : ∀ x ∈ rw_ad A, x ∉ rw_ad B) {K : cj_G → Nat → Nat → Prop} (h : ∀ (s1 s2 : Nat) (G' : cj_G), G s1 = none → G s2 = none → rw_at G' r (A ++ [(s1, 3, 0, none)] ++ B ++ [(s2, kd, 0, none)]) → cj_fr (r :: (rw_ad A ++ rw_ad B)) G G' → K G' (k - 2) (n - 10)) : sk_V G r 4 ∧ sk_c_v mX4_operate d k n [.ref r, .int kd, .ref q] G Qx K :=
  ⟨⟨_, h1.1⟩, 3, 2, 10, _, _, by omega, hk, hn, t_Roperate h1 h2 hrq hab, fun _ _ h => absurd h id, fun _ G' z => by obtain ⟨z1, s1, s2, z2, z3, z4, z5⟩ := z; exact ⟨z1, h s1 s2 G' z2 z3 z4 z5⟩⟩
/-- new Row() -/
theorem rk_row (hd : 9 ≤ d) {q : Nat} (hq : G q = none) {K : cj_G → Nat → Nat → Prop} (h : ∀ G' : cj_G, rw_at G' q [] → cj_fr [] G G' → K G' k n) : sk_n_v mX4_init d k n [.ref q] (cj_up G q (.inr (4, [.null, .null]))) K := by
  refine ⟨1, 0, 0, _, by omega, Nat.zero_le _, Nat.zero_le _, t_Row cj_up_s, fun _ G' z => ⟨z.1, h G' ⟨z.2.1, trivial, List.nodup_nil⟩ (fun a y _ hy => z.2.2 a y (cj_ni1 (cj_nn hy hq)) (cj_up_ne hy hq))⟩⟩
/-- new Step(kd, av, target) -/
theorem rk_step (hd : 9 ≤ d) {q : Nat} (hq : G q = none) {kd av : Int32} {tg : Nat} {K : cj_G → Nat → Nat → Prop} (h : ∀ G' : cj_G, G' q = some (rw_c (q, kd, av, some tg) none) → cj_fr [] G G' → K G' k n) : sk_n_v mX5_init d k n [.ref q, .int kd, .int av, .ref tg] (cj_up G q (.inr (5, [.int 0, .int 0, .null, .int 0, .null]))) K := by
  refine ⟨1, 0, 0, _, by omega, Nat.zero_le _, Nat.zero_le _, t_Step_ref cj_up_s, fun _ G' z => ⟨z.1, h G' z.2.1 (fun a y _ hy => z.2.2 a y (cj_ni1 (cj_nn hy hq)) (cj_up_ne hy hq))⟩⟩
theorem rk_stepN (hd : 9 ≤ d) {q : Nat} (hq : G q = none) {kd av : Int32} {K : cj_G → Nat → Nat → Prop} (h : ∀ G' : cj_G, G' q = some (rw_c (q, kd, av, none) none) → cj_fr [] G G' → K G' k n) : sk_n_v mX5_init d k n [.ref q, .int kd, .int av, .null] (cj_up G q (.inr (5, [.int 0, .int 0, .null, .int 0, .null]))) K := by
  refine ⟨1, 0, 0, _, by omega, Nat.zero_le _, Nat.zero_le _, t_Step_null cj_up_s, fun _ G' z => ⟨z.1, h G' z.2.1 (fun a y _ hy => z.2.2 a y (cj_ni1 (cj_nn hy hq)) (cj_up_ne hy hq))⟩⟩
/-- at++ -/
theorem rk_inc (hi : rd_in G rd rt nb L tx ill sc p) (hp : p < L) {K : cj_G → Prop} (h : ∀ G' : cj_G, rd_in G' rd rt nb L tx ill sc (p + 1) → cj_fr [rd, nb] G G' → K G') : sk_gi G rd 3 2 (fun x => sk_pt G rd 3 2 (.int (x + 1)) K) := by
  refine ⟨_, nI p, hi.1, rfl, _, hi.1, Nat.le_of_ble_eq_true rfl, ?_⟩
  have hf : cj_fr [rd] G (cj_up G rd (.inr (3, [.ref rt, .int (nI L), .int (nI p + 1), .ref nb, .int (nI sc.length), .int ill]))) := cj_fr.up cj_fr.rf (by simp)
  refine h _ (hi.step hp ?_ hf) hf.one
  rw [← nI_1]; exact cj_up_s
end RK
