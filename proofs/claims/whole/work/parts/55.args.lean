/-! APPLICATIONS: av: a value to which k arguments have been given -/
def av (N : Nat → nd_T) (lo hi n k : Nat) (A B : fr_F) (w : Nat) : Prop := (k = 0 ∧ B = fr_0 ∧ gen_is N lo hi n A w ∧ 1 ≤ w ∧ ((N n).1 = 3 → (N n).2.2.2.1 = true)) ∨ (0 < k ∧ lo ≤ n ∧ n < hi ∧ ∃ (g : Nat) (cs : List Nat) (ivA ivB : Nat → Prop) (wa wb : Nat), (N n).1 = 3 ∧ (N n).2.2.1 = g :: cs ∧ (N n).2.2.2.1 = false ∧ cs.length = k ∧ seg N ivA [(0, nI g, 0)] A wa ∧ seg N ivB (argU cs []) B wb ∧ (∀ i, ivB i → ivA i → False) ∧ (∀ i, ivA i → lo ≤ i ∧ i < hi ∧ i ≠ n) ∧ (∀ i, ivB i → lo ≤ i ∧ i < hi ∧ i ≠ n) ∧ wa + k ≤ w ∧ wb + 1 + k ≤ w ∧ 3 * k + 1 ≤ w)
theorem nd_eta (x : nd_T) {k v : Int32} {l : List Nat} (h1 : x.1 = k) (h2 : x.2.1 = v) (h3 : x.2.2.1 = l) : x = (k, v, l, x.2.2.2) := by
  obtain ⟨a, b, c, d⟩ := x
  simp only at h1 h2 h3
  subst h1; subst h2; subst h3; rfl
section AV
variable {N N' : Nat → nd_T} {lo hi n k w m : Nat} {A B D : fr_F}
theorem av_gen (h : av N lo hi n k A B w) : gen_is N lo hi n (fr_ap (fr_ap B A) (fr_rp k)) w := by
  rcases h with ⟨rfl, rfl, h, _, _⟩ | ⟨hk, h1, h2, g, cs, ivA, ivB, wa, wb, c1, c2, c3, rfl, c5, c6, c7, c8, c9, d1, d2, d3⟩
  · have : fr_ap (fr_ap fr_0 A) (fr_rp 0) = A := by
      rw [fr_0_ap]; exact fr_ap_0
    rw [this]; exact h
  · exact gen_app (nd_eta _ c1 rfl c2) c5 c6 c7 (fun i hi => ⟨(c8 i hi).1, (c8 i hi).2.1⟩) (fun i hi => ⟨(c9 i hi).1, (c9 i hi).2.1⟩) h1 h2 d1 d2 d3
theorem av_N {hi2 w2 : Nat} (h : av N lo hi n k A B w) (hN : ∀ i, i < hi → N' i = N i) (h2 : hi ≤ hi2) (hw : w ≤ w2) : av N' lo hi2 n k A B w2 := by
  rcases h with ⟨hk, hB, h, hw1, hc⟩ | ⟨hk, h1, h3, g, cs, ivA, ivB, wa, wb, c1, c2, c3, c4, c5, c6, c7, c8, c9, d1, d2, d3⟩
  · refine Or.inl ⟨hk, hB, gen_up (gen_N h (fun i _ h9 => by rw [hN i h9]; exact nq.rf)) (Nat.le_refl _) h2 hw, by omega, ?_⟩
    rw [hN n h.2.1]; exact hc
  · refine Or.inr ⟨hk, h1, by omega, g, cs, ivA, ivB, wa, wb, ?_, ?_, ?_, c4, seg_N c5 (fun i h9 => by rw [hN i (c8 i h9).2.1]; exact nq.rf), seg_N c6 (fun i h9 => by rw [hN i (c9 i h9).2.1]; exact nq.rf), c7, fun i h9 => ⟨(c8 i h9).1, by have := (c8 i h9).2.1; omega, (c8 i h9).2.2⟩, fun i h9 => ⟨(c9 i h9).1, by have := (c9 i h9).2.1; omega, (c9 i h9).2.2⟩, by omega, by omega, by omega⟩
    · rw [hN n h3]; exact c1
    · rw [hN n h3]; exact c2
    · rw [hN n h3]; exact c3
theorem nq_add {c i : Nat} (h : i ≠ n) : nq (nd_add N n c i) (N i) := by
  by_cases hc : c = n
  · subst hc
    rw [nd_add_o h h]; exact nq.rf
  · exact ⟨nd_add_k, nd_add_v, by rw [nd_add_ch hc, if_neg h]⟩
/-- a first argument: a new node -/
theorem av_1 {m1 b wd w2 : Nat} (h : av N lo m1 n 0 A B w) (hb : gen_is N m1 m b D wd) (hw : w + wd + 3 ≤ w2) : av (nd_add (nd_add (nd_new N m 3 0) m n) m b) lo (m + 1) m 1 A (fr_ap (fr_ap D (fr_1 3 0)) B) w2 := by
  rcases h with ⟨_, rfl, h, hw1, _⟩ | ⟨hk, _⟩
  · have a1 := h.1
    have a2 := h.2.1
    have b1 := hb.1
    have b2 := hb.2.1
    have hq : ∀ i, i < m → nq (nd_add (nd_add (nd_new N m 3 0) m n) m b i) (N i) := fun i hi9 => (nq_add (by omega)).tr ((nq_add (by omega)).tr (by rw [nd_new_n (by omega)]; exact nq.rf))
    have hcm : (nd_add (nd_add (nd_new N m 3 0) m n) m b m).2.2.1 = [n, b] := by
      rw [nd_add_ch (by omega), if_pos rfl, nd_add_ch (by omega), if_pos rfl, nd_new_s]; rfl
    refine Or.inr ⟨by omega, by omega, by omega, n, [b], iv_r lo m1, iv_r m1 m, w, wd + 2, ?_, hcm, ?_, rfl, seg_N h.2.2 (fun i h9 => hq i (by have := h9.2; omega)), ?_, fun i h8 h9 => by have := h8.1; have := h9.2; omega, fun i h9 => ⟨h9.1, by have := h9.2; omega, by have := h9.2; omega⟩, fun i h9 => ⟨by have := h9.1; omega, by have := h9.2; omega, by have := h9.2; omega⟩, by omega, by omega, by omega⟩
    · rw [nd_add_k, nd_add_k, nd_new_s]
    · rw [nd_add_cl, nd_add_cl, nd_new_s]
    · show seg _ (iv_r m1 m) [(0, nI b, 0), (1, nI 3, nI 0)] _ _
      rw [fr_ap_as]
      exact seg_c (iv2 := fun _ => False) (seg_N hb.2.2 (fun i h9 => hq i h9.2)) (seg_ce seg_nil (by simp)) (fun i _ h => h) (by simp) (fun i h => h) (fun i h => absurd h id)
  · omega
/-- a further one -/
theorem av_2 {m1 b wd w2 : Nat} (h : av N lo m1 n k A B w) (hk : 0 < k) (hb : gen_is N m1 m b D wd) (hw : w + wd + 3 ≤ w2) : av (nd_add N n b) lo m n (k + 1) A (fr_ap (fr_ap D (fr_1 3 0)) B) w2 := by
  rcases h with ⟨hk0, _⟩ | ⟨_, h1, h3, g, cs, ivA, ivB, wa, wb, c1, c2, c3, c4, c5, c6, c7, c8, c9, d1, d2, d3⟩
  · omega
  · have b1 := hb.1
    have b2 := hb.2.1
    have hbn : b ≠ n := by omega
    refine Or.inr ⟨by omega, h1, by omega, g, cs ++ [b], ivA, (fun i => iv_r m1 m i ∨ ivB i), wa, max (wd + 1 + 2 * k) wb, ?_, ?_, ?_, ?_, seg_N c5 (fun i h9 => nq_add (c8 i h9).2.2), ?_, ?_, fun i h9 => ⟨(c8 i h9).1, by have := (c8 i h9).2.1; omega, (c8 i h9).2.2⟩, ?_, by omega, by omega, by omega⟩
    · rw [nd_add_k]; exact c1
    · rw [nd_add_ch hbn, if_pos rfl, c2]; rfl
    · rw [nd_add_cl]; exact c3
    · rw [List.length_append, c4]; rfl
    · rw [argU_c, fr_ap_as]
      have hl : (argU cs []).length = 2 * k := by rw [argU_len, c4]; rfl
      refine seg_c (seg_N hb.2.2 (fun i h9 => nq_add (by have := h9.1; omega))) (seg_ce (k := 3) (a := 0) (seg_iv (seg_N c6 (fun i h9 => nq_add (c9 i h9).2.2)) (fun i h => h) (by omega)) (by omega)) (fun i h8 h9 => by have := (c9 i h9).2.1; have := h8.1; omega) (by rw [List.length_cons, hl]; omega) (fun i h => Or.inl h) (fun i h => Or.inr h)
    · intro i h8 h9
      rcases h8 with h8 | h8
      · have := (c8 i h9).2.1; have := h8.1; omega
      · exact c7 i h8 h9
    · intro i h9
      rcases h9 with h9 | h9
      · exact ⟨by have := h9.1; omega, h9.2, by have := h9.1; omega⟩
      · exact ⟨(c9 i h9).1, by have := (c9 i h9).2.1; omega, (c9 i h9).2.2⟩
end AV
/-! what is settled in the end: pd; S stands at p behind what was read, from p0 on, with nodes from lo on -/
def fc (f : rf_T) (c : Int32) : rf_T := (f.1, f.2.1, f.2.2.1, f.2.2.2.1, f.2.2.2.2.1, f.2.2.2.2.2.1, c, f.2.2.2.2.2.2.2)
def pd (S0 : rm_S) (p0 p : Nat) (sc : List Nat) (f : rf_T) (FR : List rf_T) (HD : List (Int32 × Int32)) (VS SG : List Nat) (lo : Nat) (N0 : Nat → nd_T) (lv : Nat) (P : (Nat → nd_T) → Nat → Nat → Prop) (S : rm_S) : Prop := (∃ (Nr : Nat → nd_T) (mr : Nat) (VSr SGr : List Nat), rp S0 p Nr mr sc (f :: FR) HD VSr SGr 2 0 S) ∧ ∀ c : Int32, ∃ (S' : rm_S) (N' : Nat → nd_T) (m' v : Nat), (∀ least : Nat, 1 ≤ least → least ≤ lv → STs (nI least) (rm_pa S 24 FR.length c) S') ∧ rp S0 p N' m' sc (fc f c :: FR) HD (v :: VS) SG 2 0 S' ∧ (∀ i, i < lo → N' i = N0 i) ∧ (N' v).2.2.2.2 = false ∧ lo ≤ v ∧ v < m' ∧ m' + 1 + 2 * p0 ≤ lo + 2 * p ∧ P N' m' v
theorem rm_pa_id {S : rm_S} {k i : Nat} {v : Int32} (h : S.2 k i = v) : rm_pa S k i v = S := by
  refine Prod.ext rfl (funext fun j => ?_)
  show (if j = k then upd (S.2 k) i v else S.2 j) = S.2 j
  by_cases e : j = k
  · subst e
    rw [if_pos rfl]
    funext x
    by_cases e2 : x = i
    · subst e2; rw [upd_s, h]
    · rw [upd_n e2]
  · rw [if_neg e]
def bd_ok (p m : Nat) (sc : List Nat) (HD : List (Int32 × Int32)) (VS SG : List Nat) (s : Nat) : Prop := m + SG.length + HD.length ≤ 2 * p + s ∧ VS.length ≤ p ∧ SG.length ≤ VS.length ∧ 2 * HD.length ≤ p ∧ sc.length ≤ p
def out {α : Type} (R : ps_Q α) (P1 : Nat → Prop) (P2 : Nat → α → Prop) : Prop := match R with
  | .inl q => P1 q
  | .inr x => P2 x.1 x.2
theorem out_bd {α β : Type} {r : ps_Q α} {k : Nat → α → ps_Q β} {P1 : Nat → Prop} {P2 : Nat → β → Prop} (h : out r P1 (fun p x => r = .inr (p, x) → out (k p x) P1 P2)) : out (ps_bd r k) P1 P2 := by
  cases r with
  | inl q => exact h
  | inr x => exact h rfl
theorem out_mono {α : Type} {R : ps_Q α} {P1 P1' : Nat → Prop} {P2 P2' : Nat → α → Prop} (h : out R P1 P2) (h1 : ∀ q, P1 q → P1' q) (h2 : ∀ p x, R = .inr (p, x) → P2 p x → P2' p x) : out R P1' P2' := by
  cases R with
  | inl q => exact h1 q h
  | inr x => exact h2 x.1 x.2 rfl h
def ILL (S0 S : rm_S) (q : Nat) : Prop := ∃ S' : rm_S, RTs S S' ∧ rp_il S0 q S'
/-- an atom is read -/
def SA (S0 : rm_S) (L : Nat) (tx : Nat → Nat) (E : List Nat → Nat → ps_Q fr_F) (fl : Nat) : Prop := ∀ (p : Nat) (N : Nat → nd_T) (m : Nat) (sc : List Nat) (f : rf_T) (FR : List rf_T) (HD : List (Int32 × Int32)) (VS SG : List Nat) (S : rm_S), FR.length = fl → rp S0 p N m sc (f :: FR) HD VS SG 1 0 S → p ≤ L → bd_ok p m sc HD VS SG 1 → out (ps_at tx L E sc p) (ILL S0 S) (fun p1 F => ∃ (S' : rm_S) (N' : Nat → nd_T) (m' v w : Nat), RTs S S' ∧ rp S0 p1 N' m' sc (f :: FR) HD (v :: VS) SG 2 0 S' ∧ (∀ i, i < m → N' i = N i) ∧ gen_is N' m m' v F w ∧ (N' v).2.2.2.2 = false ∧ ((N' v).1 = 3 → (N' v).2.2.2.1 = true) ∧ m' + 1 + 2 * p ≤ m + 2 * p1 ∧ w + 3 + 6 * p ≤ 6 * p1)
def sg_low (f : rf_T) (SG : List Nat) (r : Nat) : Prop := f.2.2.2.2.1 ≤ SG.length ∧ (SG.length = f.2.2.2.2.1 ∨ ∃ (s : Nat) (t : List Nat), SG = s :: t ∧ s < 65536 ∧ sg_rk s < r)
section PD
variable {S0 S : rm_S} {L p p0 m lo lv : Nat} {tx : Nat → Nat} {N : Nat → nd_T} {sc : List Nat} {f : rf_T} {FR : List rf_T} {HD : List (Int32 × Int32)} {VS SG : List Nat} {P P' : (Nat → nd_T) → Nat → Nat → Prop}
theorem pd_mono {lv2 : Nat} (h : pd S0 p0 p sc f FR HD VS SG lo N lv P S) (hl : lv2 ≤ lv) (hP : ∀ N m v, P N m v → P' N m v) : pd S0 p0 p sc f FR HD VS SG lo N lv2 P' S := by
  refine ⟨h.1, fun c => ?_⟩
  obtain ⟨S', N', m', v, h1, h2, h3, h4, h5, h6, h7, h8⟩ := h.2 c
  exact ⟨S', N', m', v, fun l a1 a2 => h1 l a1 (by omega), h2, h3, h4, h5, h6, h7, hP _ _ _ h8⟩
def rs_join (S : rm_S) (n s q : Nat) : rm_S := rm_pf (rm_pf (rm_pf (rm_pa S 32 n (nI s)) 31 (nI (n + 1))) 5 (nI q)) 33 1
theorem rp_join {md en : Int32} {s q : Nat} (h : rp S0 p N m sc FR HD VS SG md en S) : rp S0 q N m sc FR HD VS (s :: SG) 1 en (rs_join S SG.length s q) := by
  obtain ⟨h1, h2, h3, h4, h5, h6, h7, h8, h9, ha, hb⟩ := h
  refine ⟨rx_pf (rx_pf (rx_pf (rx_pa h1 (by decide)) (by decide)) (by decide)) (by decide), rfl, h3, h4, h5, h6, h7, h8, ⟨rfl, ?_⟩, rfl, hb⟩
  have := lq_push (v := nI s) h9.2; rw [List.length_map] at this; exact this
/-- join(s, r): what is pending is settled down to one value, and the sign s goes on the stack -/
theorem pd_joinc {s r q : Nat} (c : Int32) (h : pd S0 p0 p sc f FR HD VS SG lo N lv P S) (hs : s < 65536) (hr : 1 ≤ r) (hr2 : r ≤ lv) (hr3 : r < 100) (hlow : sg_low f SG r) (hg : SG.length < 100) (hq : (s = 32 ∧ q = p) ∨ (¬ s = 32 ∧ q = p + 1)) : ∃ (S2 : rm_S) (N' : Nat → nd_T) (m' v : Nat), (∀ Q : rm_S → Prop, Q S2 → wp_join (rm_pa S 24 FR.length c) (nI s) (nI r) Q) ∧ rp S0 q N' m' sc (fc f c :: FR) HD (v :: VS) (s :: SG) 1 0 S2 ∧ (∀ i, i < lo → N' i = N i) ∧ (N' v).2.2.2.2 = false ∧ lo ≤ v ∧ v < m' ∧ m' + 1 + 2 * p0 ≤ lo + 2 * p ∧ P N' m' v := by
  obtain ⟨S', N', m', v, h1, h2, h3, h4, h5, h6, h7, h8⟩ := h.2 c
  refine ⟨rs_join S' SG.length s q, N', m', v, fun Q hQ => ?_, rp_join h2, h3, h4, h5, h6, h7, h8⟩
  unfold wp_join wp_settle
  refine h1 r hr hr2 _ _ (st_end h2 hlow.1 hr3 (by omega) hlow.2 ?_)
  have e31 : S'.1 31 = nI SG.length := h2.2.2.2.2.2.2.2.2.1.1
  have e5 : S'.1 5 = nI p := h2.2.1
  show vp_in (S'.1 31) 100 ∧ (nI s = 32 → Q (rm_pf (rm_pf (rm_pa S' 32 (S'.1 31).toNatClampNeg (vp_nar .char (nI s))) 31 (S'.1 31 + 1)) 33 1)) ∧ (¬ nI s = 32 → Q (rm_pf (rm_pf (rm_pf (rm_pa S' 32 (S'.1 31).toNatClampNeg (vp_nar .char (nI s))) 31 (S'.1 31 + 1)) 5 (S'.1 5 + 1)) 33 1))
  rw [e31, nI_clamp (by omega), nI_1, rd_nar hs]
  refine ⟨nI_vp hg (by omega), fun h9 => ?_, fun h9 => ?_⟩
  · have h8 := (nI_eq (b := 32) (by omega) (by omega)).mp h9
    rcases hq with ⟨_, hq⟩ | ⟨hq, _⟩
    · subst hq
      have : rs_join S' SG.length s q = rm_pf (rm_pf (rm_pa S' 32 SG.length (nI s)) 31 (nI (SG.length + 1))) 33 1 := by
        unfold rs_join
        refine Prod.ext (funext fun j => ?_) rfl
        show (if j = 33 then _ else if j = 5 then _ else if j = 31 then _ else S'.1 j) = (if j = 33 then _ else if j = 31 then _ else S'.1 j)
        by_cases e : j = 5
        · subst e; exact e5.symm
        · rw [if_neg e]
      rw [← this]; exact hQ
    · exact absurd h8 hq
  · have h8 : ¬ s = 32 := fun e => h9 ((nI_eq (b := 32) (by omega) (by omega)).mpr e)
    rcases hq with ⟨hq, _⟩ | ⟨_, hq⟩
    · exact absurd hq h8
    · rw [e5, nI_1, ← hq]; exact hQ
theorem pd_join {s r q : Nat} (h : pd S0 p0 p sc f FR HD VS SG lo N lv P S) (hs : s < 65536) (hr : 1 ≤ r) (hr2 : r ≤ lv) (hr3 : r < 100) (hlow : sg_low f SG r) (hg : SG.length < 100) (hq : (s = 32 ∧ q = p) ∨ (¬ s = 32 ∧ q = p + 1)) : ∃ (S2 : rm_S) (N' : Nat → nd_T) (m' v : Nat), (∀ Q : rm_S → Prop, Q S2 → wp_join S (nI s) (nI r) Q) ∧ rp S0 q N' m' sc (f :: FR) HD (v :: VS) (s :: SG) 1 0 S2 ∧ (∀ i, i < lo → N' i = N i) ∧ (N' v).2.2.2.2 = false ∧ lo ≤ v ∧ v < m' ∧ m' + 1 + 2 * p0 ≤ lo + 2 * p ∧ P N' m' v := by
  have h9 := pd_joinc f.2.2.2.2.2.2.1 h hs hr hr2 hr3 hlow hg hq
  obtain ⟨Nr, mr, VSr, SGr, hraw⟩ := h.1
  rw [rm_pa_id (rp_top hraw).2.2.2.2.2.2.2.2.2.1] at h9
  exact h9
variable {E : List Nat → Nat → ps_Q fr_F}
theorem sim_args {A : fr_F} (hA : SA S0 L tx E FR.length) (hE : ∀ sc p, p ≤ L → ps_ad L p (E sc p)) (ht : rt_ok S0 L tx) (hp0 : p0 ≤ L) (hb : bd_ok p0 lo sc HD VS SG 1) (hlow : sg_low f SG 4) : ∀ (r k p : Nat) (B : fr_F) (S : rm_S), L ≤ p + r → p ≤ L → pd S0 p0 p sc f FR HD VS SG lo N 4 (fun N' m' v => ∃ w : Nat, av N' lo m' v k A B w ∧ w + 3 + 6 * p0 ≤ 6 * p) S → out (ps_ag tx L E sc r p k B) (ILL S0 S) (fun p2 x => ∃ S2 : rm_S, RTs S S2 ∧ pd S0 p0 p2 sc f FR HD VS SG lo N 4 (fun N' m' v => ∃ w : Nat, av N' lo m' v x.1 A x.2 w ∧ w + 3 + 6 * p0 ≤ 6 * p2) S2 ∧ ¬ rd_atomb (rd_ch tx L p2) = true) := by
  have hL := ht.2.1
  obtain ⟨g1, g2, g3, g4, g5⟩ := hb
  intro r
  induction r with
  | zero =>
    intro k p B S hr hp h
    refine ⟨S, RTs.rf, h, ?_⟩
    have : rd_ch tx L p = 0 := by unfold rd_ch; rw [if_neg (by omega)]
    rw [this]; decide
  | succ r ih =>
    intro k p B S hr hp h
    simp only [ps_ag]
    by_cases ha : rd_atomb (rd_ch tx L p) = true
    · rw [if_pos ha]
      obtain ⟨S2, N', m', v, q1, c1, c2, c3, c4, c5, c6, w, c7, c8⟩ := pd_join (s := 32) (r := 4) (q := p) h (by omega) (by omega) (by omega) (by omega) hlow (by omega) (Or.inl ⟨rfl, rfl⟩)
      obtain ⟨⟨Nr, mr, VSr, SGr, hraw⟩, _⟩ := h
      have s1 : RTs S S2 := rt_2 hraw (fun Q hQ => rp_lk ht hraw hp (w_atomb (rt_ch ht p) ⟨fun h9 => absurd ha (ch_b0.mp h9), fun _ => q1 Q hQ⟩))
      have hpp : p0 + 1 ≤ p := by omega
      have hbd : bd_ok p m' sc HD (v :: VS) (32 :: SG) 1 := ⟨by simp only [List.length_cons]; omega, by simp only [List.length_cons]; omega, by simp only [List.length_cons]; omega, by omega, by omega⟩
      refine out_bd (out_mono (hA p N' m' sc f FR HD (v :: VS) (32 :: SG) S2 rfl c1 hp hbd) (fun q hq => ?_) (fun p1 D e hq _ => ?_))
      · obtain ⟨S3, a1, a2⟩ := hq; exact ⟨S3, s1.tr a1, a2⟩
      · obtain ⟨S3, N3, m3, b, wd, a1, a2, a3, a4, a5, a6, a7, a8⟩ := hq
        have hadv := ps_ad_at (tx := tx) (sc := sc) hE hp
        rw [e] at hadv
        have hp1 : p < p1 := hadv.1
        have hp1L : p1 ≤ L := hadv.2
        have b1 := a4.1
        have b2 := a4.2.1
        have hvN : N3 v = N' v := a3 v c5
        have key : pd S0 p0 p1 sc f FR HD VS SG lo N 4 (fun N' m' v => ∃ w : Nat, av N' lo m' v (k + 1) A (fr_ap (fr_ap D (fr_1 3 0)) B) w ∧ w + 3 + 6 * p0 ≤ 6 * p1) S3 := by
          have hav : av N3 lo m' v k A B w := av_N c7 (fun i hi9 => a3 i hi9) (Nat.le_refl _) (Nat.le_refl _)
          refine ⟨⟨N3, m3, _, _, a2⟩, fun c => ?_⟩
          have a2 := rp_f24 (v := c) a2
          have c7' := c7
          rcases c7' with ⟨hk0, _, _, _, hcl⟩ | ⟨hk0, _, _, g, cs, _, _, _, _, d1, d2, d3, _⟩
          · obtain ⟨S4, t1, t2⟩ := st_node (kd := 3) (k := 0) a2 (by omega) (by omega) hlow.1 (Or.inr (Or.inr (Or.inr (Or.inr (Or.inr ⟨rfl, rfl, rfl, by rw [hvN]; exact hcl⟩))))) (by omega) (by omega) (by omega) (by omega) (by rw [hvN]; exact c3) a5
            have hav2 := av_1 (w2 := w + wd + 3) (hk0 ▸ hav) a4 (Nat.le_refl _)
            refine ⟨S4, _, _, m3, fun l l1 l2 => t1 l l2, t2, fun i hi9 => ?_, ?_, by omega, by omega, by omega, w + wd + 3, by rw [hk0]; exact hav2, by omega⟩
            · rw [nd_add_o (by omega) (by omega), nd_add_o (by omega) (by omega), nd_new_n (by omega), a3 i (by omega), c2 i hi9]
            · rw [nd_add_fl (by omega), if_neg (by omega), nd_add_fl (by omega), if_neg (by omega), nd_new_s]
          · obtain ⟨S4, t1, t2⟩ := st_goes a2 (by omega) (by omega) hlow.1 (by rw [hvN]; exact d1) (by rw [hvN]; exact d3) (by omega) (by omega) (by omega) a5
            have hav2 := av_2 (w2 := w + wd + 3) hav hk0 a4 (Nat.le_refl _)
            refine ⟨S4, _, _, v, fun l l1 l2 => t1 l l2, t2, fun i hi9 => ?_, ?_, c4, by omega, by omega, w + wd + 3, hav2, by omega⟩
            · rw [nd_add_o (by omega) (by omega), a3 i (by omega), c2 i hi9]
            · rw [nd_add_fl (by omega), if_neg (by omega), hvN]; exact c3
        refine out_mono (ih (k + 1) p1 _ S3 (by omega) hp1L key) (fun q hq => ?_) (fun p2 x _ hq => ?_)
        · obtain ⟨S5, d1, d2⟩ := hq; exact ⟨S5, s1.tr (a1.tr d1), d2⟩
        · obtain ⟨S5, d1, d2, d3⟩ := hq; exact ⟨S5, s1.tr (a1.tr d1), d2, d3⟩
    · rw [if_neg ha]
      exact ⟨S, RTs.rf, h, ha⟩
/-- what is read from p on leaves F pending, to be settled down to the rank lv -/
def pdF (S0 : rm_S) (p0 p : Nat) (sc : List Nat) (f : rf_T) (FR : List rf_T) (HD : List (Int32 × Int32)) (VS SG : List Nat) (lo : Nat) (N0 : Nat → nd_T) (lv : Nat) (F : fr_F) (S : rm_S) : Prop := pd S0 p0 p sc f FR HD VS SG lo N0 lv (fun N' m' v => ∃ w : Nat, gen_is N' lo m' v F w ∧ w + 3 + 6 * p0 ≤ 6 * p) S
theorem sim_ap (hA : SA S0 L tx E FR.length) (hE : ∀ sc p, p ≤ L → ps_ad L p (E sc p)) (ht : rt_ok S0 L tx) (h : rp S0 p N m sc (f :: FR) HD VS SG 1 0 S) (hp : p ≤ L) (hb : bd_ok p m sc HD VS SG 1) (hlow : sg_low f SG 4) : out (ps_ap tx L E sc p) (ILL S0 S) (fun p2 F => ∃ S2 : rm_S, RTs S S2 ∧ pdF S0 p p2 sc f FR HD VS SG m N 4 F S2 ∧ ¬ rd_atomb (rd_ch tx L p2) = true) := by
  unfold ps_ap
  refine out_bd (out_mono (hA p N m sc f FR HD VS SG S rfl h hp hb) (fun q hq => hq) (fun p1 A e hq _ => ?_))
  obtain ⟨S3, N3, m3, v, wd, a1, a2, a3, a4, a5, a6, a7, a8⟩ := hq
  have hadv := ps_ad_at (tx := tx) (sc := sc) hE hp
  rw [e] at hadv
  have hp1L : p1 ≤ L := hadv.2
  have hp1 : p < p1 := hadv.1
  have key : pd S0 p p1 sc f FR HD VS SG m N 4 (fun N' m' v => ∃ w : Nat, av N' m m' v 0 A fr_0 w ∧ w + 3 + 6 * p ≤ 6 * p1) S3 := ⟨⟨N3, m3, _, _, a2⟩, fun c => ⟨_, N3, m3, v, fun _ _ _ => STs.rf, rp_f24 (v := c) a2, a3, a5, a4.1, a4.2.1, a7, 6 * p1 - (6 * p + 3), Or.inl ⟨rfl, rfl, gen_up a4 (Nat.le_refl _) (Nat.le_refl _) (by omega), by omega, a6⟩, by omega⟩⟩
  refine out_bd (out_mono (sim_args hA hE ht hp hb hlow L 0 p1 fr_0 S3 (by omega) hp1L key) (fun q hq => ?_) (fun p2 x _ hq _ => ?_))
  · obtain ⟨S5, d1, d2⟩ := hq; exact ⟨S5, a1.tr d1, d2⟩
  · obtain ⟨S5, d1, d2, d3⟩ := hq
    refine ⟨S5, a1.tr d1, pd_mono d2 (Nat.le_refl _) (fun N' m' v hw => ?_), d3⟩
    obtain ⟨w, w1, w2⟩ := hw
    exact ⟨w, av_gen w1, w2⟩
end PD
