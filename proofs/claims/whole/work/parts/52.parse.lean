/-! THE CODE MAKER AS A WHOLE -/
theorem mk_code {S : rm_S} {N : Nat → nd_T} {m lo hi v w : Nat} {F : fr_F} (h : ns_at N m S) (h34 : S.1 34 = nI v) (hg : gen_is N lo hi v F w) (hi9 : hi ≤ m) (hw : w ≤ 598) : (F.1 + 1 ≤ 120 → ∃ S' : rm_S, (∀ Q : rm_S → Prop, Q S' → wp_makeCode S Q) ∧ gk (rm_pf (rm_pf S 35 0) 39 0) S' ∧ S'.1 35 = nI (F.1 + 1) ∧ cd_l (S'.2 36) ((fr_ap F (fr_1 0 0)).2 0)) ∧ (120 < F.1 + 1 → ∃ S' : rm_S, (∀ Q : rm_S → Prop, Q S' → wp_makeCode S Q) ∧ ovr (rm_pf (rm_pf S 35 0) 39 0) S') := by
  have c0 : cg_at (rm_pf (rm_pf S 35 0) 39 0) N m [] [] (rm_pf (rm_pf S 35 0) 39 0) := ⟨⟨fun _ _ _ => rfl, fun _ _ => rfl⟩, h, rfl, by decide, trivial, rfl, by decide, fun i hi _ => absurd hi (Nat.not_lt_zero i)⟩
  obtain ⟨S1, q1, c1⟩ := rg_todo (w := 1) (a := 0) (b := 0) c0 (by decide)
  have h341 : S1.1 34 = nI v := by rw [c1.1.1 34 (by decide) (by decide)]; exact h34
  obtain ⟨S2, q2, c2⟩ := rg_todo (w := 0) (a := S1.1 34) (b := 0) c1 (by decide)
  rw [h341] at c2
  have s1 : seg N (iv_r lo hi) [(0, nI v, 0), (1, nI 0, nI 0)] (fr_ap F (fr_ap (fr_1 0 0) fr_0)) (w + 2) := seg_c (iv2 := fun _ => False) hg.2.2 (seg_ce seg_nil (by simp)) (fun i _ h => h) (by simp) (fun i h => h) (fun i h => absurd h id)
  rw [fr_ap_0] at s1
  obtain ⟨a1, a2⟩ := s1.2 _ N m [] [] S2 (fun i h9 => ⟨nq.rf, by have := h9.2; omega⟩) c2 (by decide) (by simp; omega)
  have top : ∀ S' : rm_S, GTs S2 S' → (∀ Q K : rm_S → Prop, K S' → ∃ n : Nat, wl_makeCode_24 Q K n S') → ∀ Q : rm_S → Prop, Q S' → wp_makeCode S Q := by
    intro S' h1 h2 Q hQ
    refine q1 _ (q2 _ ?_)
    exact h1 Q (fun S9 => Q S9) (h2 Q _ hQ)
  refine ⟨fun h9 => ?_, fun h9 => ?_⟩
  · obtain ⟨S3, N2, b1, _, b3⟩ := a1 (by show 0 + (F.1 + 1) ≤ 120; omega)
    have hl : (([] : List fr_C) ++ (fr_ap F (fr_1 0 0)).2 ([] : List fr_C).length).length = F.1 + 1 := by
      rw [List.nil_append]; exact s1.1 _
    refine ⟨S3, top S3 b1 (fun Q K hK => ⟨1, fun _ => hK, fun h8 => absurd ?_ h8⟩), b3.1, ?_, ?_⟩
    · rw [b3.2.2.1]; decide
    · rw [b3.2.2.2.2.2.1, hl]
    · have := b3.2.2.2.2.2.2.2; rw [List.nil_append] at this; exact this
  · obtain ⟨S3, b1, b2⟩ := a2 (by show 120 < 0 + (F.1 + 1); omega)
    obtain ⟨b, e1, e2, e3⟩ := b2.2
    refine ⟨S3, top S3 b1 (fun Q K hK => ⟨1, fun _ => hK, fun _ => ⟨fun _ => hK, fun h8 => absurd ?_ h8⟩⟩), b2⟩
    rw [e1]; exact nI_lt (a := 120) e2 (by omega)
/-! THE REFERENCE READS: the state as lists (stacks: the top first) -/
abbrev rf_T : Type := Nat × Int32 × Nat × Nat × Nat × Int32 × Int32 × Int32
def fq (a18 a22 a19 a20 a21 a23 a24 a25 : Nat → Int32) : List rf_T → Prop
  | [] => True
  | x :: t => (a18 t.length = nI x.1 ∧ a22 t.length = x.2.1 ∧ a19 t.length = nI x.2.2.1 ∧ a20 t.length = nI x.2.2.2.1 ∧ a21 t.length = nI x.2.2.2.2.1 ∧ a23 t.length = x.2.2.2.2.2.1 ∧ a24 t.length = x.2.2.2.2.2.2.1 ∧ a25 t.length = x.2.2.2.2.2.2.2) ∧ fq a18 a22 a19 a20 a21 a23 a24 a25 t
def lq (a : Nat → Int32) : List Int32 → Prop
  | [] => True
  | x :: t => a t.length = x ∧ lq a t
def rx_s : List Nat := [0, 1, 3, 7, 35, 37, 39, 43, 45, 46, 47, 49, 50, 51, 53, 54, 55]
def rx_a : List Nat := [2, 4, 36, 38, 40, 41, 42, 44, 48, 52]
def rx_ok (S0 S : rm_S) : Prop := (∀ k ∈ rx_s, S.1 k = S0.1 k) ∧ ∀ k ∈ rx_a, S.2 k = S0.2 k
def rt_ok (S0 : rm_S) (L : Nat) (tx : Nat → Nat) : Prop := S0.1 3 = nI L ∧ L ≤ 90 ∧ (∀ j, j < L → S0.2 4 j = nI (tx j)) ∧ ∀ j, tx j < 65536
def sc_at (sc : List Nat) (S : rm_S) : Prop := S.1 15 = nI sc.length ∧ (∀ j, j < sc.length → S.2 16 j = nI (sc.getD j 0)) ∧ ∀ c ∈ sc, c < 65536
def fr_at (FR : List rf_T) (S : rm_S) : Prop := S.1 17 = nI FR.length ∧ FR.length ≤ 6 ∧ fq (S.2 18) (S.2 22) (S.2 19) (S.2 20) (S.2 21) (S.2 23) (S.2 24) (S.2 25) FR
def hd_at (HD : List (Int32 × Int32)) (S : rm_S) : Prop := S.1 26 = nI HD.length ∧ lq (S.2 27) (HD.map (fun x => x.1)) ∧ lq (S.2 28) (HD.map (fun x => x.2))
def vs_at (VS : List Nat) (S : rm_S) : Prop := S.1 29 = nI VS.length ∧ lq (S.2 30) (VS.map nI)
def sg_at (SG : List Nat) (S : rm_S) : Prop := S.1 31 = nI SG.length ∧ lq (S.2 32) (SG.map nI)
def rp (S0 : rm_S) (p : Nat) (N : Nat → nd_T) (m : Nat) (sc : List Nat) (FR : List rf_T) (HD : List (Int32 × Int32)) (VS SG : List Nat) (md en : Int32) (S : rm_S) : Prop := rx_ok S0 S ∧ S.1 5 = nI p ∧ S.1 6 = 0 ∧ ns_at N m S ∧ sc_at sc S ∧ fr_at FR S ∧ hd_at HD S ∧ vs_at VS S ∧ sg_at SG S ∧ S.1 33 = md ∧ S.1 56 = en
/-- ill at q -/
def rp_il (S0 : rm_S) (q : Nat) (S : rm_S) : Prop := rx_ok S0 S ∧ S.1 5 = nI q ∧ ¬ S.1 6 = 0
theorem lq_up {a b : Nat → Int32} : ∀ {l : List Int32}, (∀ j, j < l.length → b j = a j) → lq a l → lq b l := by
  intro l
  induction l with
  | nil => intro _ _; trivial
  | cons x t ih => intro h hl; exact ⟨(h t.length (Nat.lt_succ_self _)).trans hl.1, ih (fun j hj => h j (Nat.lt_succ_of_lt hj)) hl.2⟩
theorem lq_push {a : Nat → Int32} {l : List Int32} {v : Int32} (h : lq a l) : lq (upd a l.length v) (v :: l) := ⟨upd_s, lq_up (fun j hj => upd_n (by omega)) h⟩
theorem fq_up {a1 a2 a3 a4 a5 a6 a7 a8 b1 b2 b3 b4 b5 b6 b7 b8 : Nat → Int32} : ∀ {l : List rf_T}, (∀ j, j < l.length → b1 j = a1 j ∧ b2 j = a2 j ∧ b3 j = a3 j ∧ b4 j = a4 j ∧ b5 j = a5 j ∧ b6 j = a6 j ∧ b7 j = a7 j ∧ b8 j = a8 j) → fq a1 a2 a3 a4 a5 a6 a7 a8 l → fq b1 b2 b3 b4 b5 b6 b7 b8 l := by
  intro l
  induction l with
  | nil => intro _ _; trivial
  | cons x t ih =>
    intro h hl
    obtain ⟨e1, e2, e3, e4, e5, e6, e7, e8⟩ := h t.length (Nat.lt_succ_self _)
    obtain ⟨⟨d1, d2, d3, d4, d5, d6, d7, d8⟩, d9⟩ := hl
    exact ⟨⟨e1.trans d1, e2.trans d2, e3.trans d3, e4.trans d4, e5.trans d5, e6.trans d6, e7.trans d7, e8.trans d8⟩, ih (fun j hj => h j (Nat.lt_succ_of_lt hj)) d9⟩
section RP
variable {S0 S S' : rm_S} {L p m : Nat} {tx : Nat → Nat} {N : Nat → nd_T} {sc : List Nat} {FR : List rf_T} {HD : List (Int32 × Int32)} {VS SG : List Nat} {md en : Int32}
theorem rx_pf {k : Nat} {v : Int32} (h : rx_ok S0 S) (hk : k ∉ rx_s) : rx_ok S0 (rm_pf S k v) := by
  refine ⟨fun j hj => ?_, h.2⟩
  show (if j = k then v else S.1 j) = S0.1 j
  rw [if_neg (show ¬ j = k from fun e => hk (by rw [← e]; exact hj))]; exact h.1 j hj
theorem rx_pa {k i : Nat} {v : Int32} (h : rx_ok S0 S) (hk : k ∉ rx_a) : rx_ok S0 (rm_pa S k i v) := by
  refine ⟨h.1, fun j hj => ?_⟩
  show (if j = k then upd (S.2 k) i v else S.2 j) = S0.2 j
  rw [if_neg (show ¬ j = k from fun e => hk (by rw [← e]; exact hj))]; exact h.2 j hj
theorem rx_only {l : List Nat} (h : rx_ok S0 S) (ho : rm_only l S S') (hl : ∀ k ∈ rx_a, k ∉ l) : rx_ok S0 S' := ⟨fun k hk => by rw [ho.1]; exact h.1 k hk, fun k hk => by rw [ho.2 k (hl k hk)]; exact h.2 k hk⟩
theorem rm_c_n {c : Nat} (h : c < 65536) : rm_c (nI c) := (pk_charN h).1
/-- look() -/
theorem rp_look (ht : rt_ok S0 L tx) (hx : rx_ok S0 S) (h5 : S.1 5 = nI p) (hp : p ≤ L) {Q : Int32 → rm_S → Prop} (hQ : Q (nI (rd_ch tx L p)) S) : wp_look S Q := by
  have h3 : S.1 3 = nI L := (hx.1 3 (by decide)).trans ht.1
  have h4 : S.2 4 = S0.2 4 := hx.2 4 (by decide)
  have hL := ht.2.1
  unfold wp_look
  rw [h3, h5, h4]
  refine ⟨fun h9 => ?_, fun h9 => ?_⟩
  · have h8 := (nI_leI (by omega) (by omega)).mp h9
    have e : rd_ch tx L p = 0 := by unfold rd_ch; rw [if_neg (by omega)]
    rw [e] at hQ; exact hQ
  · have h8 : p < L := Nat.lt_of_not_le (fun h => h9 (nI_le h (by omega)))
    have e : rd_ch tx L p = tx p := by unfold rd_ch; rw [if_pos h8]
    rw [nI_clamp (by omega), ht.2.2.1 p h8]
    rw [e] at hQ
    exact ⟨nI_vp (by omega) (by omega), rm_c_n (ht.2.2.2 p), hQ⟩
theorem rp_behind (ht : rt_ok S0 L tx) (hx : rx_ok S0 S) (h5 : S.1 5 = nI p) (hp : p ≤ L) {Q : Int32 → rm_S → Prop} (hQ : Q (nI (rd_ch tx L (p + 1))) S) : wp_behind S Q := by
  have h3 : S.1 3 = nI L := (hx.1 3 (by decide)).trans ht.1
  have h4 : S.2 4 = S0.2 4 := hx.2 4 (by decide)
  have hL := ht.2.1
  unfold wp_behind
  rw [h3, h5, h4, nI_1]
  refine ⟨fun h9 => ?_, fun h9 => ?_⟩
  · have h8 := (nI_leI (by omega) (by omega)).mp h9
    have e : rd_ch tx L (p + 1) = 0 := by unfold rd_ch; rw [if_neg (by omega)]
    rw [e] at hQ; exact hQ
  · have h8 : p + 1 < L := Nat.lt_of_not_le (fun h => h9 (nI_le h (by omega)))
    have e : rd_ch tx L (p + 1) = tx (p + 1) := by unfold rd_ch; rw [if_pos h8]
    rw [nI_clamp (by omega), ht.2.2.1 _ h8]
    rw [e] at hQ
    exact ⟨nI_vp (by omega) (by omega), rm_c_n (ht.2.2.2 _), hQ⟩
theorem rt_ch (ht : rt_ok S0 L tx) (q : Nat) : rd_ch tx L q < 65536 := by
  have := ht.2.2.2 q
  unfold rd_ch; split <;> omega
theorem w_isName {c : Nat} (hc : c < 65536) {Q : Int32 → Prop} (hQ : Q (ch_b (97 ≤ c ∧ c ≤ 122))) : wp_isName (nI c) Q := by
  unfold wp_isName
  have a1 : nI c < 97 ↔ c < 97 := by rw [Int32.lt_iff_toInt_lt, nI_toInt (by omega), show (97 : Int32).toInt = 97 from by decide]; omega
  have a2 : 122 < nI c ↔ 122 < c := by rw [Int32.lt_iff_toInt_lt, nI_toInt (by omega), show (122 : Int32).toInt = 122 from by decide]; omega
  rw [a1, a2]
  refine ⟨fun h => ?_, fun h => ⟨fun h2 => ?_, fun h2 => ?_⟩⟩
  · rw [ch_b0.mpr (by omega)] at hQ; exact hQ
  · rw [ch_b0.mpr (by omega)] at hQ; exact hQ
  · rw [ch_b1.mpr (by omega)] at hQ; exact hQ
theorem w_isDigit {c : Nat} (hc : c < 65536) {Q : Int32 → Prop} (hQ : Q (ch_b (48 ≤ c ∧ c ≤ 57))) : wp_isDigit (nI c) Q := by
  unfold wp_isDigit
  have a1 : nI c < 48 ↔ c < 48 := by rw [Int32.lt_iff_toInt_lt, nI_toInt (by omega), show (48 : Int32).toInt = 48 from by decide]; omega
  have a2 : 57 < nI c ↔ 57 < c := by rw [Int32.lt_iff_toInt_lt, nI_toInt (by omega), show (57 : Int32).toInt = 57 from by decide]; omega
  rw [a1, a2]
  refine ⟨fun h => ?_, fun h => ⟨fun h2 => ?_, fun h2 => ?_⟩⟩
  · rw [ch_b0.mpr (by omega)] at hQ; exact hQ
  · rw [ch_b0.mpr (by omega)] at hQ; exact hQ
  · rw [ch_b1.mpr (by omega)] at hQ; exact hQ
theorem w_isCons {c : Nat} (hc : c < 65536) {Q : Int32 → Prop} (hQ : Q (ch_b (65 ≤ c ∧ c ≤ 72))) : wp_isConstructor (nI c) Q := by
  unfold wp_isConstructor
  have a1 : nI c < 65 ↔ c < 65 := by rw [Int32.lt_iff_toInt_lt, nI_toInt (by omega), show (65 : Int32).toInt = 65 from by decide]; omega
  have a2 : 72 < nI c ↔ 72 < c := by rw [Int32.lt_iff_toInt_lt, nI_toInt (by omega), show (72 : Int32).toInt = 72 from by decide]; omega
  rw [a1, a2]
  refine ⟨fun h => ?_, fun h => ⟨fun h2 => ?_, fun h2 => ?_⟩⟩
  · rw [ch_b0.mpr (by omega)] at hQ; exact hQ
  · rw [ch_b0.mpr (by omega)] at hQ; exact hQ
  · rw [ch_b1.mpr (by omega)] at hQ; exact hQ
theorem w_atomb {c : Nat} (hc : c < 65536) {Q : Int32 → Prop} (hQ : Q (ch_b (rd_atomb c = true))) : wp_beginsAtom (nI c) Q := by
  have e : rd_atomb c = true ↔ (97 ≤ c ∧ c ≤ 122) ∨ (48 ≤ c ∧ c ≤ 57) ∨ (65 ≤ c ∧ c ≤ 72) ∨ c = 40 := by
    unfold rd_atomb; simp only [Bool.or_eq_true, decide_eq_true_eq]; omega
  have a40 : nI c = 40 ↔ c = 40 := nI_eq (b := 40) (by omega) (by omega)
  unfold wp_beginsAtom
  refine w_isName hc ⟨fun h1 => ?_, fun h1 => w_isDigit hc ⟨fun h2 => ?_, fun h2 => w_isCons hc ⟨fun h3 => ?_, fun h3 => ⟨fun h4 => ?_, fun h4 => ?_⟩⟩⟩⟩
  · have : 97 ≤ c ∧ c ≤ 122 := Classical.byContradiction (fun h9 => h1 (ch_b0.mpr h9))
    rw [ch_b1.mpr (e.mpr (Or.inl this))] at hQ; exact hQ
  · have : 48 ≤ c ∧ c ≤ 57 := Classical.byContradiction (fun h9 => h2 (ch_b0.mpr h9))
    rw [ch_b1.mpr (e.mpr (Or.inr (Or.inl this)))] at hQ; exact hQ
  · have : 65 ≤ c ∧ c ≤ 72 := Classical.byContradiction (fun h9 => h3 (ch_b0.mpr h9))
    rw [ch_b1.mpr (e.mpr (Or.inr (Or.inr (Or.inl this))))] at hQ; exact hQ
  · rw [ch_b0.mpr (fun h9 => ?_)] at hQ
    · exact hQ
    · rcases e.mp h9 with h | h | h | h
      · exact ch_b0.mp h1 h
      · exact ch_b0.mp h2 h
      · exact ch_b0.mp h3 h
      · exact h4 (a40.mpr h)
  · rw [ch_b1.mpr (e.mpr (Or.inr (Or.inr (Or.inr (a40.mp h4)))))] at hQ; exact hQ
end RP
