/-! THE REFERENCE'S NODES: a node: kind, number, children, closed, is a child -/
abbrev nd_T : Type := Int32 × Int32 × List Nat × Bool × Bool
def nd_hd : List Nat → Int32
  | [] => -1
  | c :: _ => nI c
def nd_ln (nx : Nat → Int32) : List Nat → Prop
  | [] => True
  | c :: t => nx c = nd_hd t ∧ nd_ln nx t
def nd_1 (N : Nat → nd_T) (m i : Nat) (a9 a10 a11 a12 a13 a14 : Nat → Int32) : Prop := a9 i = (N i).1 ∧ a10 i = (N i).2.1 ∧ a11 i = nd_hd (N i).2.2.1 ∧ nd_ln a12 (N i).2.2.1 ∧ a13 i = nI (N i).2.2.1.length ∧ a14 i = (if (N i).2.2.2.1 = true then 1 else 0) ∧ ((N i).2.2.2.2 = false → a12 i = -1) ∧ (N i).2.2.1.Nodup ∧ ∀ c ∈ (N i).2.2.1, c < m ∧ (N c).2.2.2.2 = true
def ns_ok (N : Nat → nd_T) (m : Nat) (c8 : Int32) (a9 a10 a11 a12 a13 a14 : Nat → Int32) : Prop := c8 = nI m ∧ m ≤ 300 ∧ (∀ i, i < m → nd_1 N m i a9 a10 a11 a12 a13 a14) ∧ ∀ i j c, i < m → j < m → c ∈ (N i).2.2.1 → c ∈ (N j).2.2.1 → i = j
def ns_at (N : Nat → nd_T) (m : Nat) (S : rm_S) : Prop := ns_ok N m (S.1 8) (S.2 9) (S.2 10) (S.2 11) (S.2 12) (S.2 13) (S.2 14)
theorem upd_s {f : Nat → Int32} {k : Nat} {x : Int32} : upd f k x k = x := by unfold upd; rw [if_pos rfl]
theorem upd_n {f : Nat → Int32} {k j : Nat} {x : Int32} (h : j ≠ k) : upd f k x j = f j := by unfold upd; rw [if_neg h]
theorem nI_vp {c N : Nat} (h : c < N) (hN : N < 2 ^ 31) : vp_in (nI c) N := nI_in h hN
theorem nd_pig : ∀ (m : Nat) (l : List Nat), l.Nodup → (∀ c ∈ l, c < m) → l.length ≤ m := by
  intro m
  induction m with
  | zero =>
    intro l _ h
    cases l with
    | nil => exact Nat.le_refl _
    | cons x t => exact absurd (h x List.mem_cons_self) (Nat.not_lt_zero x)
  | succ m ih =>
    intro l hn h
    by_cases hm : m ∈ l
    · have h1 := ih (l.erase m) (hn.erase m) (fun c hc => by
        have h2 := h c (List.mem_of_mem_erase hc)
        have h3 : c ≠ m := fun e => by subst e; exact (List.Nodup.not_mem_erase hn) hc
        omega)
      rw [List.length_erase_of_mem hm] at h1
      omega
    · have h1 := ih l hn (fun c hc => by
        have h2 := h c hc
        have h3 : c ≠ m := fun e => by subst e; exact hm hc
        omega)
      omega
theorem nd_ln_up {nx : Nat → Int32} {k : Nat} {v : Int32} : ∀ {l : List Nat}, k ∉ l → nd_ln nx l → nd_ln (upd nx k v) l := by
  intro l
  induction l with
  | nil => intro _ _; trivial
  | cons c t ih =>
    intro hk h
    have h1 : c ≠ k := fun e => hk (e ▸ List.mem_cons_self)
    exact ⟨by rw [upd_n h1]; exact h.1, ih (fun h9 => hk (List.mem_cons_of_mem _ h9)) h.2⟩
theorem nd_ln_add {nx : Nat → Int32} {c : Nat} (hc : nx c = -1) : ∀ {l : List Nat} {x : Nat}, (l ++ [x]).Nodup → c ∉ l ++ [x] → nd_ln nx (l ++ [x]) → nd_ln (upd nx x (nI c)) (l ++ [x] ++ [c]) := by
  intro l
  induction l with
  | nil =>
    intro x _ hx _
    have h1 : c ≠ x := fun e => hx (by simp [e])
    exact ⟨upd_s, by show upd nx x (nI c) c = -1; rw [upd_n h1]; exact hc, trivial⟩
  | cons y t ih =>
    intro x hn hx h
    obtain ⟨n1, n2⟩ := List.nodup_cons.mp (show (y :: (t ++ [x])).Nodup from hn)
    have h1 : y ≠ x := fun e => n1 (by simp [e])
    refine ⟨?_, ih n2 (fun h9 => hx (List.mem_cons_of_mem _ h9)) h.2⟩
    show upd nx x (nI c) y = _
    rw [upd_n h1, h.1]
    cases t <;> rfl
section NS
variable {N : Nat → nd_T} {m : Nat} {S : rm_S}
theorem ns_len (h : ns_at N m S) {i : Nat} (hi : i < m) : (N i).2.2.1.length ≤ 300 := by
  have h1 := h.2.2.1 i hi
  have := nd_pig m _ h1.2.2.2.2.2.2.2.1 (fun c hc => (h1.2.2.2.2.2.2.2.2 c hc).1)
  have := h.2.1
  omega
/-- node(k, v) -/
def nd_new (N : Nat → nd_T) (m : Nat) (k v : Int32) : Nat → nd_T := fun i => if i = m then (k, v, [], false, false) else N i
def rs_node (S : rm_S) (k v : Int32) : rm_S := rm_pa (rm_pa (rm_pa (rm_pa (rm_pa (rm_pa (rm_pf S 8 ((S.1 8) + 1)) 9 ((S.1 8).toNatClampNeg) k) 10 ((S.1 8).toNatClampNeg) v) 11 ((S.1 8).toNatClampNeg) (-1)) 12 ((S.1 8).toNatClampNeg) (-1)) 13 ((S.1 8).toNatClampNeg) 0) 14 ((S.1 8).toNatClampNeg) 0
theorem nd_new_s {k v : Int32} : nd_new N m k v m = (k, v, [], false, false) := by unfold nd_new; rw [if_pos rfl]
theorem nd_new_n {k v : Int32} {i : Nat} (h : i ≠ m) : nd_new N m k v i = N i := by unfold nd_new; rw [if_neg h]
theorem rn_node {k v : Int32} (h : ns_at N m S) (hm : m < 300) : (∀ Q : Int32 → rm_S → Prop, Q (nI m) (rs_node S k v) → wp_node S k v Q) ∧ ns_at (nd_new N m k v) (m + 1) (rs_node S k v) := by
  have h8 : S.1 8 = nI m := h.1
  have hv : vp_in (S.1 8) 300 := by rw [h8]; exact nI_vp hm (by omega)
  have ht : (S.1 8).toNatClampNeg = m := by rw [h8]; exact nI_clamp (by omega)
  refine ⟨fun Q hQ => ?_, ?_⟩
  · unfold wp_node
    refine ⟨hv, hv, hv, hv, hv, hv, ?_⟩
    have : Q (S.1 8) (rs_node S k v) := by rw [h8]; exact hQ
    exact this
  · refine ⟨?_, by omega, fun i hi => ?_, fun i j c hi hj h1 h2 => ?_⟩
    · show S.1 8 + 1 = nI (m + 1); rw [h8, nI_1]
    · show nd_1 (nd_new N m k v) (m + 1) i (upd (S.2 9) _ k) (upd (S.2 10) _ v) (upd (S.2 11) _ (-1)) (upd (S.2 12) _ (-1)) (upd (S.2 13) _ 0) (upd (S.2 14) _ 0)
      rw [ht]
      by_cases e : i = m
      · subst e
        unfold nd_1
        rw [nd_new_s]
        exact ⟨upd_s, upd_s, upd_s, trivial, upd_s, upd_s, fun _ => upd_s, List.nodup_nil, fun c hc => absurd hc List.not_mem_nil⟩
      · have hi2 : i < m := by omega
        obtain ⟨b1, b2, b3, b4, b5, b6, b7, b8, b9⟩ := h.2.2.1 i hi2
        unfold nd_1
        rw [nd_new_n e, upd_n e, upd_n e, upd_n e, upd_n e, upd_n e, upd_n e]
        refine ⟨b1, b2, b3, nd_ln_up (fun h9 => absurd (b9 m h9).1 (Nat.lt_irrefl m)) b4, b5, b6, b7, b8, fun c hc => ?_⟩
        have h3 := b9 c hc
        exact ⟨by omega, by rw [nd_new_n (by omega)]; exact h3.2⟩
    · by_cases e1 : i = m
      · subst e1; rw [nd_new_s] at h1; exact absurd h1 List.not_mem_nil
      · by_cases e2 : j = m
        · subst e2; rw [nd_new_s] at h2; exact absurd h2 List.not_mem_nil
        · rw [nd_new_n e1] at h1; rw [nd_new_n e2] at h2
          exact h.2.2.2 i j c (by omega) (by omega) h1 h2
/-- addChild(n, c) -/
def nd_add (N : Nat → nd_T) (n c : Nat) : Nat → nd_T := fun i => if i = n then ((N n).1, (N n).2.1, (N n).2.2.1 ++ [c], (N n).2.2.2.1, (N n).2.2.2.2) else if i = c then ((N c).1, (N c).2.1, (N c).2.2.1, (N c).2.2.2.1, true) else N i
theorem nd_add_n {n c : Nat} : nd_add N n c n = ((N n).1, (N n).2.1, (N n).2.2.1 ++ [c], (N n).2.2.2.1, (N n).2.2.2.2) := by unfold nd_add; rw [if_pos rfl]
theorem nd_add_c {n c : Nat} (h : c ≠ n) : nd_add N n c c = ((N c).1, (N c).2.1, (N c).2.2.1, (N c).2.2.2.1, true) := by unfold nd_add; rw [if_neg h, if_pos rfl]
theorem nd_add_o {n c i : Nat} (h : i ≠ n) (h2 : i ≠ c) : nd_add N n c i = N i := by unfold nd_add; rw [if_neg h, if_neg h2]
theorem nd_add_ch {n c i : Nat} (hc : c ≠ n) : (nd_add N n c i).2.2.1 = if i = n then (N n).2.2.1 ++ [c] else (N i).2.2.1 := by
  by_cases e : i = n
  · subst e; rw [nd_add_n, if_pos rfl]
  · rw [if_neg e]
    by_cases e2 : i = c
    · subst e2; rw [nd_add_c hc]
    · rw [nd_add_o e e2]
theorem nd_add_fl {n c i : Nat} (hc : c ≠ n) : (nd_add N n c i).2.2.2.2 = if i = c then true else (N i).2.2.2.2 := by
  by_cases e : i = n
  · subst e; rw [nd_add_n, if_neg (Ne.symm hc)]
  · by_cases e2 : i = c
    · subst e2; rw [nd_add_c hc, if_pos rfl]
    · rw [nd_add_o e e2, if_neg e2]
theorem nd_add_k {n c i : Nat} : (nd_add N n c i).1 = (N i).1 := by
  unfold nd_add
  split
  · next e => rw [e]
  · split
    · next e => rw [e]
    · rfl
theorem nd_add_v {n c i : Nat} : (nd_add N n c i).2.1 = (N i).2.1 := by
  unfold nd_add
  split
  · next e => rw [e]
  · split
    · next e => rw [e]
    · rfl
theorem nd_add_cl {n c i : Nat} : (nd_add N n c i).2.2.2.1 = (N i).2.2.2.1 := by
  unfold nd_add
  split
  · next e => rw [e]
  · split
    · next e => rw [e]
    · rfl
def rm_only (l : List Nat) (S S' : rm_S) : Prop := S'.1 = S.1 ∧ ∀ k, k ∉ l → S'.2 k = S.2 k
theorem l_addChild {Q : rm_S → Prop} {n c : Nat} {K : Int32 → rm_S → Prop} (hm : ∀ i ∈ (N n).2.2.1, i < 300) : ∀ (l : List Nat) (x : Nat), (∀ i ∈ l ++ [x], i < 300) → nd_ln (S.2 12) (l ++ [x]) → K (nI x) S → wl_addChild_26 (nI n) (nI c) Q K (l.length + 1) (nd_hd (l ++ [x])) S := by
  intro l
  induction l with
  | nil =>
    intro x hx h hk
    have h3 := hx x (by simp)
    refine ⟨nI_vp h3 (by omega), fun _ => hk, fun h9 => absurd ?_ h9⟩
    show S.2 12 (nI x).toNatClampNeg < 0
    rw [nI_clamp (by omega), h.1]; decide
  | cons y t ih =>
    intro x hx h hk
    have h3 := hx y (by simp)
    have h4 : nd_hd (t ++ [x]) = nI (if t = [] then x else t.headD 0) := by cases t <;> rfl
    have h5 : (if t = [] then x else t.headD 0) < 300 := by
      cases t with
      | nil => exact hx x (by simp)
      | cons z t => exact hx z (by simp)
    refine ⟨nI_vp h3 (by omega), fun h9 => ?_, fun _ => ⟨nI_vp h3 (by omega), ?_⟩⟩
    · have h9 : S.2 12 (nI y).toNatClampNeg < 0 := h9
      rw [nI_clamp (by omega), h.1] at h9
      have h8 : nI (if t = [] then x else t.headD 0) < 0 := by rw [← h4]; exact h9
      exact absurd h8 (nI_pos (by omega))
    · show wl_addChild_26 (nI n) (nI c) Q K (t.length + 1) (S.2 12 (nI y).toNatClampNeg) S
      rw [nI_clamp (by omega), h.1]
      exact ih x (fun i hi => hx i (List.mem_cons_of_mem _ hi)) h.2 hk
theorem rn_add {n c : Nat} (h : ns_at N m S) (hn : n < m) (hc : c < m) (hcn : c ≠ n) (hf : (N c).2.2.2.2 = false) : ∃ S' : rm_S, (∀ Q : rm_S → Prop, Q S' → wp_addChild S (nI n) (nI c) Q) ∧ rm_only [11, 12, 13] S S' ∧ ns_at (nd_add N n c) m S' := by
  have hm := h.2.1
  obtain ⟨b1, b2, b3, b4, b5, b6, b7, b8, b9⟩ := h.2.2.1 n hn
  have hl := ns_len h hn
  have hvn : vp_in (nI n) 300 := nI_vp (by omega) (by omega)
  have htn : (nI n).toNatClampNeg = n := nI_clamp (by omega)
  have hcm : ∀ i, i < m → c ∉ (N i).2.2.1 := fun i hi h9 => by
    have := ((h.2.2.1 i hi).2.2.2.2.2.2.2.2 c h9).2
    rw [hf] at this; cases this
  have hcx : S.2 12 c = -1 := (h.2.2.1 c hc).2.2.2.2.2.2.1 hf
  have huniq : ∀ i j d, i < m → j < m → d ∈ (nd_add N n c i).2.2.1 → d ∈ (nd_add N n c j).2.2.1 → i = j := by
    intro i j d hi hj h1 h2
    rw [nd_add_ch hcn] at h1 h2
    by_cases e1 : i = n
    · by_cases e2 : j = n
      · rw [e1, e2]
      · rw [if_pos e1] at h1; rw [if_neg e2] at h2
        rcases List.mem_append.mp h1 with h1 | h1
        · exact e1.trans (h.2.2.2 n j d hn hj h1 h2)
        · rw [List.mem_singleton] at h1; subst h1; exact absurd h2 (hcm j hj)
    · rw [if_neg e1] at h1
      by_cases e2 : j = n
      · rw [if_pos e2] at h2
        rcases List.mem_append.mp h2 with h2 | h2
        · exact (h.2.2.2 i n d hi hn h1 h2).trans e2.symm
        · rw [List.mem_singleton] at h2; subst h2; exact absurd h1 (hcm i hi)
      · rw [if_neg e2] at h2; exact h.2.2.2 i j d hi hj h1 h2
  have hmem : ∀ i, i < m → ∀ d ∈ (nd_add N n c i).2.2.1, d < m ∧ (nd_add N n c d).2.2.2.2 = true := by
    intro i hi d hd
    rw [nd_add_ch hcn] at hd
    rw [nd_add_fl hcn]
    by_cases e : d = c
    · subst e; exact ⟨hc, if_pos rfl⟩
    · rw [if_neg e]
      by_cases e1 : i = n
      · rw [if_pos e1] at hd
        rcases List.mem_append.mp hd with hd | hd
        · exact b9 d hd
        · rw [List.mem_singleton] at hd; exact absurd hd e
      · rw [if_neg e1] at hd; exact (h.2.2.1 i hi).2.2.2.2.2.2.2.2 d hd
  have hnd : ∀ i, i < m → (nd_add N n c i).2.2.1.Nodup := by
    intro i hi
    rw [nd_add_ch hcn]
    by_cases e1 : i = n
    · rw [if_pos e1]
      refine List.nodup_append.mpr ⟨b8, List.nodup_cons.mpr ⟨List.not_mem_nil, List.nodup_nil⟩, fun a ha b hb e => ?_⟩
      rw [List.mem_singleton] at hb; subst hb; subst e; exact hcm n hn ha
    · rw [if_neg e1]; exact (h.2.2.1 i hi).2.2.2.2.2.2.2.1
  have fin : ∀ (a11 a12 : Nat → Int32), (∀ i, i < m → a11 i = nd_hd (nd_add N n c i).2.2.1) → (∀ i, i < m → nd_ln a12 (nd_add N n c i).2.2.1) → (∀ i, i < m → (nd_add N n c i).2.2.2.2 = false → a12 i = -1) → ns_ok (nd_add N n c) m (S.1 8) (S.2 9) (S.2 10) a11 a12 (upd (S.2 13) n (S.2 13 n + 1)) (S.2 14) := by
    intro a11 a12 g1 g2 g3
    refine ⟨h.1, hm, fun i hi => ?_, huniq⟩
    obtain ⟨c1, c2, c3, c4, c5, c6, c7, c8, c9⟩ := h.2.2.1 i hi
    refine ⟨?_, ?_, g1 i hi, g2 i hi, ?_, ?_, g3 i hi, hnd i hi, hmem i hi⟩
    · rw [c1, nd_add_k]
    · rw [c2, nd_add_v]
    · rw [nd_add_ch hcn]
      by_cases e : i = n
      · rw [if_pos e, e, upd_s, b5, nI_1, List.length_append]; rfl
      · rw [if_neg e, upd_n e]; exact c5
    · rw [c6, nd_add_cl]
  by_cases h0 : (N n).2.2.1 = []
  · refine ⟨rm_pa (rm_pa S 11 n (nI c)) 13 n (((S.2 13) n) + 1), fun Q hQ => ?_, ⟨rfl, fun k hk => ?_⟩, ?_⟩
    · unfold wp_addChild
      rw [htn]
      have e0 : S.2 13 n = 0 := by rw [b5, h0]; rfl
      exact ⟨hvn, fun h9 => absurd e0 h9, fun _ => ⟨hvn, hvn, hvn, hQ⟩⟩
    · simp only [List.mem_cons, List.not_mem_nil, or_false, not_or] at hk
      simp only [rm_pa, if_neg hk.1, if_neg hk.2.2]
    · refine fin (upd (S.2 11) n (nI c)) (S.2 12) (fun i hi => ?_) (fun i hi => ?_) (fun i hi => ?_)
      · rw [nd_add_ch hcn]
        by_cases e : i = n
        · rw [if_pos e, e, upd_s, h0]; rfl
        · rw [if_neg e, upd_n e]; exact (h.2.2.1 i hi).2.2.1
      · rw [nd_add_ch hcn]
        by_cases e : i = n
        · rw [if_pos e, h0]; exact ⟨hcx, trivial⟩
        · rw [if_neg e]; exact (h.2.2.1 i hi).2.2.2.1
      · rw [nd_add_fl hcn]
        by_cases e : i = c
        · rw [if_pos e]; intro h9; cases h9
        · rw [if_neg e]; exact (h.2.2.1 i hi).2.2.2.2.2.2.1
  · obtain ⟨l, x, hlx⟩ : ∃ (l : List Nat) (x : Nat), (N n).2.2.1 = l ++ [x] := ⟨_, _, (List.dropLast_concat_getLast h0).symm⟩
    have hx : x < m := (b9 x (by rw [hlx]; simp)).1
    have htx : (nI x).toNatClampNeg = x := nI_clamp (by omega)
    refine ⟨rm_pa (rm_pa S 12 x (nI c)) 13 n (((S.2 13) n) + 1), fun Q hQ => ?_, ⟨rfl, fun k hk => ?_⟩, ?_⟩
    · unfold wp_addChild
      rw [htn]
      have e0 : ¬ S.2 13 n = 0 := by rw [b5]; exact nI_ne0 (by rw [hlx]; simp) (by omega)
      refine ⟨hvn, fun _ => ⟨hvn, l.length + 1, ?_⟩, fun h9 => absurd h9 e0⟩
      rw [b3, hlx]
      refine l_addChild (N := N) (fun i hi => by have := (b9 i hi).1; omega) l x (fun i hi => by rw [← hlx] at hi; have := (b9 i hi).1; omega) (by rw [← hlx]; exact b4) ?_
      refine ⟨nI_vp (by omega) (by omega), hvn, hvn, ?_⟩
      rw [htx]; exact hQ
    · simp only [List.mem_cons, List.not_mem_nil, or_false, not_or] at hk
      simp only [rm_pa, if_neg hk.2.1, if_neg hk.2.2]
    · refine fin (S.2 11) (upd (S.2 12) x (nI c)) (fun i hi => ?_) (fun i hi => ?_) (fun i hi => ?_)
      · rw [nd_add_ch hcn]
        by_cases e : i = n
        · rw [if_pos e, e, b3, hlx]; cases l <;> rfl
        · rw [if_neg e]; exact (h.2.2.1 i hi).2.2.1
      · rw [nd_add_ch hcn]
        by_cases e : i = n
        · rw [if_pos e, hlx]
          exact nd_ln_add hcx (by rw [← hlx]; exact b8) (by rw [← hlx]; exact hcm n hn) (by rw [← hlx]; exact b4)
        · rw [if_neg e]
          refine nd_ln_up (fun h9 => e ?_) (h.2.2.1 i hi).2.2.2.1
          exact h.2.2.2 i n x hi hn h9 (by rw [hlx]; simp)
      · rw [nd_add_fl hcn]
        by_cases e : i = c
        · rw [if_pos e]; intro h9; cases h9
        · rw [if_neg e]; intro h9
          have : i ≠ x := fun e9 => by
            have h8 := (b9 x (by rw [hlx]; simp)).2
            rw [← e9, h9] at h8; cases h8
          rw [upd_n this]; exact (h.2.2.1 i hi).2.2.2.2.2.2.1 h9
/-- childAt(n, k) -/
theorem l_childAt {Q : Int32 → rm_S → Prop} {v1 : Int32} {k : Nat} {K : Int32 → Int32 → rm_S → Prop} (hk : k < 1000) : ∀ (l : List Nat) (i : Nat) (x : Nat) (t : List Nat), (∀ j ∈ l, j < 300) → i + l.length = k → nd_ln (S.2 12) (l ++ x :: t) → K (nI x) (nI k) S → wl_childAt_10 v1 (nI k) Q K (l.length + 1) (nd_hd (l ++ x :: t)) (nI i) S := by
  intro l
  induction l with
  | nil =>
    intro i x t _ hi _ hK
    have : i = k := by simpa using hi
    subst this
    exact ⟨fun _ => hK, fun h9 => absurd (nI_le (Nat.le_refl i) (by omega)) h9⟩
  | cons y l ih =>
    intro i x t hl hi h hK
    have hy := hl y List.mem_cons_self
    have hi2 : i + (l.length + 1) = k := hi
    refine ⟨fun h9 => absurd h9 (nI_ge (by omega) (by omega)), fun _ => ⟨nI_vp hy (by omega), ?_⟩⟩
    show wl_childAt_10 v1 (nI k) Q K (l.length + 1) (S.2 12 (nI y).toNatClampNeg) (nI i + 1) S
    rw [nI_clamp (by omega), h.1, nI_1]
    exact ih (i + 1) x t (fun j hj => hl j (List.mem_cons_of_mem _ hj)) (by omega) h.2 hK
theorem rn_at {n k x : Nat} (h : ns_at N m S) (hn : n < m) (hx : (N n).2.2.1[k]? = some x) (Q : Int32 → rm_S → Prop) (hQ : Q (nI x) S) : wp_childAt S (nI n) (nI k) Q := by
  have hm := h.2.1
  obtain ⟨b1, b2, b3, b4, b5, b6, b7, b8, b9⟩ := h.2.2.1 n hn
  have hl := ns_len h hn
  obtain ⟨hk, hx2⟩ := List.getElem?_eq_some_iff.mp hx
  have e : (N n).2.2.1 = (N n).2.2.1.take k ++ x :: (N n).2.2.1.drop (k + 1) := by
    rw [← hx2, ← List.drop_eq_getElem_cons hk, List.take_append_drop]
  refine ⟨nI_vp (by omega) (by omega), ((N n).2.2.1.take k).length + 1, ?_⟩
  rw [nI_clamp (by omega), b3]
  have := l_childAt (S := S) (Q := Q) (v1 := nI n) (k := k) (K := fun w5 _ S4 => Q w5 S4) (by omega) ((N n).2.2.1.take k) 0 x ((N n).2.2.1.drop (k + 1)) (fun j hj => by have := (b9 j (List.mem_of_mem_take hj)).1; omega) (by rw [List.length_take]; omega) (by rw [← e]; exact b4) hQ
  rw [← e] at this
  exact this
end NS
