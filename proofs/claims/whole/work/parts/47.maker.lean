/-! THE REFERENCE'S CODE MAKER: WS the work to do (its top first), C the code so far -/
def wk_l (a40 a41 a42 : Nat → Int32) : List (Int32 × Int32 × Int32) → Prop
  | [] => True
  | x :: t => a40 t.length = x.1 ∧ a41 t.length = x.2.1 ∧ a42 t.length = x.2.2 ∧ wk_l a40 a41 a42 t
def cd_l (a36 : Nat → Int32) (C : List fr_C) : Prop := ∀ i, i < C.length → i < 121 → a36 (3 * i) = (C.getD i (0, 0, 0)).1 ∧ a36 (3 * i + 1) = (C.getD i (0, 0, 0)).2.1 ∧ a36 (3 * i + 2) = (C.getD i (0, 0, 0)).2.2
def gk (S0 S : rm_S) : Prop := (∀ k, k ≠ 35 → k ≠ 39 → S.1 k = S0.1 k) ∧ ∀ k, k ∉ [10, 14, 36, 40, 41, 42] → S.2 k = S0.2 k
def cg_at (S0 : rm_S) (N : Nat → nd_T) (m : Nat) (WS : List (Int32 × Int32 × Int32)) (C : List fr_C) (S : rm_S) : Prop := gk S0 S ∧ ns_at N m S ∧ S.1 39 = nI WS.length ∧ WS.length ≤ 600 ∧ wk_l (S.2 40) (S.2 41) (S.2 42) WS ∧ S.1 35 = nI C.length ∧ C.length ≤ 500 ∧ cd_l (S.2 36) C
theorem wk_l_up {a40 a41 a42 b40 b41 b42 : Nat → Int32} : ∀ {l : List (Int32 × Int32 × Int32)}, (∀ j, j < l.length → b40 j = a40 j ∧ b41 j = a41 j ∧ b42 j = a42 j) → wk_l a40 a41 a42 l → wk_l b40 b41 b42 l := by
  intro l
  induction l with
  | nil => intro _ _; trivial
  | cons x t ih =>
    intro h hl
    obtain ⟨e1, e2, e3⟩ := h t.length (Nat.lt_succ_self _)
    exact ⟨e1.trans hl.1, e2.trans hl.2.1, e3.trans hl.2.2.1, ih (fun j hj => h j (Nat.lt_succ_of_lt hj)) hl.2.2.2⟩
theorem nI_m3 {b : Nat} : 3 * nI b = nI (3 * b) := (Int32.ofNat_mul 3 b).symm
theorem nI_m4 {c : Nat} (hc : c < 8) : nI c - nI c / 4 * 4 = nI (c % 4) := by
  match c, hc with
  | 0, _ => decide
  | 1, _ => decide
  | 2, _ => decide
  | 3, _ => decide
  | 4, _ => decide
  | 5, _ => decide
  | 6, _ => decide
  | 7, _ => decide
  | n + 8, h => omega
theorem getD_app {α : Type} {A B : List α} {i : Nat} {d : α} : (A ++ B).getD i d = if i < A.length then A.getD i d else B.getD (i - A.length) d := by
  simp only [List.getD_eq_getElem?_getD]
  split
  · next h => rw [List.getElem?_append_left h]
  · next h => rw [List.getElem?_append_right (by omega)]
section CG
variable {S0 S S' : rm_S} {N : Nat → nd_T} {m : Nat} {WS : List (Int32 × Int32 × Int32)} {C : List fr_C}
theorem gk_pf {k : Nat} {v : Int32} (h : gk S0 S) (hk : k = 35 ∨ k = 39) : gk S0 (rm_pf S k v) := by
  refine ⟨fun j h1 h2 => ?_, h.2⟩
  show (if j = k then v else S.1 j) = S0.1 j
  rw [if_neg (by omega)]; exact h.1 j h1 h2
theorem gk_pa {k i : Nat} {v : Int32} (h : gk S0 S) (hk : k ∈ [10, 14, 36, 40, 41, 42]) : gk S0 (rm_pa S k i v) := by
  refine ⟨h.1, fun j h1 => ?_⟩
  show (if j = k then upd (S.2 k) i v else S.2 j) = S0.2 j
  rw [if_neg (show ¬ j = k from fun e => h1 (by rw [e]; exact hk))]; exact h.2 j h1
theorem rg_emit {k a b : Int32} (h : cg_at S0 N m WS C S) (hC : C.length < 500) : ∃ S' : rm_S, (∀ Q : rm_S → Prop, Q S' → wp_emit S k a b Q) ∧ cg_at S0 N m WS (C ++ [(k, a, b)]) S' := by
  obtain ⟨g1, g2, g3, g4, g5, g6, g7, g8⟩ := h
  have hl : (C ++ [(k, a, b)]).length = C.length + 1 := by simp
  by_cases hc : 121 ≤ C.length
  · refine ⟨rm_pf S 35 ((S.1 35) + 1), fun Q hQ => ⟨fun _ => hQ, fun h9 => absurd ?_ h9⟩, gk_pf g1 (Or.inl rfl), g2, g3, g4, g5, ?_, by omega, fun i hi h121 => ?_⟩
    · rw [g6]; exact nI_le (a := 121) hc (by omega)
    · show S.1 35 + 1 = _; rw [g6, nI_1, hl]
    · rw [getD_app, if_pos (by omega)]; exact g8 i (by omega) h121
  · have e1 : (3 * (S.1 35)).toNatClampNeg = 3 * C.length := by rw [g6, nI_m3]; exact nI_clamp (by omega)
    have e2 : ((3 * (S.1 35)) + 1).toNatClampNeg = 3 * C.length + 1 := by rw [g6, nI_m3, nI_1]; exact nI_clamp (by omega)
    have e3 : ((3 * (S.1 35)) + 2).toNatClampNeg = 3 * C.length + 2 := by rw [g6, nI_m3]; rw [show (2 : Int32) = nI 2 from rfl, nI_add]; exact nI_clamp (by omega)
    have v1 : vp_in (3 * (S.1 35)) 372 := by rw [g6, nI_m3]; exact nI_vp (by omega) (by omega)
    have v2 : vp_in ((3 * (S.1 35)) + 1) 372 := by rw [g6, nI_m3, nI_1]; exact nI_vp (by omega) (by omega)
    have v3 : vp_in ((3 * (S.1 35)) + 2) 372 := by rw [g6, nI_m3, show (2 : Int32) = nI 2 from rfl, nI_add]; exact nI_vp (by omega) (by omega)
    refine ⟨rm_pf (rm_pa (rm_pa (rm_pa S 36 (3 * C.length) k) 36 (3 * C.length + 1) a) 36 (3 * C.length + 2) b) 35 ((S.1 35) + 1), fun Q hQ => ⟨fun h9 => absurd h9 ?_, fun _ => ⟨v1, v2, v3, ?_⟩⟩, gk_pf (gk_pa (gk_pa (gk_pa g1 (by decide)) (by decide)) (by decide)) (Or.inl rfl), g2, g3, g4, g5, ?_, by omega, fun i hi h121 => ?_⟩
    · rw [g6]; exact nI_ge (a := C.length) (b := 121) (by omega) (by omega)
    · rw [e1, e2, e3]; exact hQ
    · show S.1 35 + 1 = _; rw [g6, nI_1, hl]
    · show upd (upd (upd (S.2 36) (3 * C.length) k) (3 * C.length + 1) a) (3 * C.length + 2) b (3 * i) = _ ∧ upd (upd (upd (S.2 36) (3 * C.length) k) (3 * C.length + 1) a) (3 * C.length + 2) b (3 * i + 1) = _ ∧ upd (upd (upd (S.2 36) (3 * C.length) k) (3 * C.length + 1) a) (3 * C.length + 2) b (3 * i + 2) = _
      rw [getD_app]
      by_cases e : i = C.length
      · subst e
        rw [if_neg (Nat.lt_irrefl _), Nat.sub_self]
        refine ⟨?_, ?_, upd_s⟩
        · rw [upd_n (by omega), upd_n (by omega), upd_s]; rfl
        · rw [upd_n (by omega), upd_s]; rfl
      · have hi2 : i < C.length := by omega
        rw [if_pos hi2]
        obtain ⟨c1, c2, c3⟩ := g8 i hi2 h121
        refine ⟨?_, ?_, ?_⟩
        · rw [upd_n (by omega), upd_n (by omega), upd_n (by omega)]; exact c1
        · rw [upd_n (by omega), upd_n (by omega), upd_n (by omega)]; exact c2
        · rw [upd_n (by omega), upd_n (by omega), upd_n (by omega)]; exact c3
theorem rg_todo {w a b : Int32} (h : cg_at S0 N m WS C S) (hw : WS.length < 600) : ∃ S' : rm_S, (∀ Q : rm_S → Prop, Q S' → wp_todo S w a b Q) ∧ cg_at S0 N m ((w, a, b) :: WS) C S' := by
  obtain ⟨g1, g2, g3, g4, g5, g6, g7, g8⟩ := h
  have e1 : (S.1 39).toNatClampNeg = WS.length := by rw [g3]; exact nI_clamp (by omega)
  have v1 : vp_in (S.1 39) 600 := by rw [g3]; exact nI_vp hw (by omega)
  refine ⟨rm_pf (rm_pa (rm_pa (rm_pa S 40 WS.length w) 41 WS.length a) 42 WS.length b) 39 ((S.1 39) + 1), fun Q hQ => ⟨v1, v1, v1, ?_⟩, gk_pf (gk_pa (gk_pa (gk_pa g1 (by decide)) (by decide)) (by decide)) (Or.inr rfl), g2, ?_, by simp; omega, ⟨upd_s, upd_s, upd_s, wk_l_up (fun j hj => ⟨upd_n (by omega), upd_n (by omega), upd_n (by omega)⟩) g5⟩, g6, g7, g8⟩
  · rw [e1]; exact hQ
  · show S.1 39 + 1 = nI (WS.length + 1); rw [g3, nI_1]
/-- the number at place q (1 or 2) of instruction j is written anew -/
def cd_s (C : List fr_C) (j q : Nat) (v : Int32) : List fr_C := C.set j (if q = 1 then ((C.getD j (0, 0, 0)).1, v, (C.getD j (0, 0, 0)).2.2) else ((C.getD j (0, 0, 0)).1, (C.getD j (0, 0, 0)).2.1, v))
theorem cd_s_len {j q : Nat} {v : Int32} : (cd_s C j q v).length = C.length := by unfold cd_s; rw [List.length_set]
theorem rg_set {j q : Nat} {v : Int32} (h : cg_at S0 N m WS C S) (hj : j < C.length) (hq : q = 1 ∨ q = 2) : ∃ S' : rm_S, (∀ Q : rm_S → Prop, Q S' → wp_set S (nI j) (nI q) v Q) ∧ cg_at S0 N m WS (cd_s C j q v) S' := by
  obtain ⟨g1, g2, g3, g4, g5, g6, g7, g8⟩ := h
  have hgd : ∀ i, i < C.length → (cd_s C j q v).getD i (0, 0, 0) = if i = j then (if q = 1 then ((C.getD j (0, 0, 0)).1, v, (C.getD j (0, 0, 0)).2.2) else ((C.getD j (0, 0, 0)).1, (C.getD j (0, 0, 0)).2.1, v)) else C.getD i (0, 0, 0) := by
    intro i hi
    unfold cd_s
    simp only [List.getD_eq_getElem?_getD]
    by_cases e : i = j
    · subst e; rw [if_pos rfl, List.getElem?_set_self hi]; rfl
    · rw [if_neg e, List.getElem?_set_ne (Ne.symm e)]
  by_cases hc : 121 ≤ j
  · refine ⟨S, fun Q hQ => ⟨fun _ => hQ, fun h9 => absurd (nI_le (a := 121) hc (by omega)) h9⟩, g1, g2, g3, g4, g5, ?_, ?_, fun i hi h121 => ?_⟩
    · rw [cd_s_len]; exact g6
    · rw [cd_s_len]; exact g7
    · rw [cd_s_len] at hi
      rw [hgd i hi, if_neg (by omega)]; exact g8 i hi h121
  · have e0 : 3 * nI j + nI q = nI (3 * j + q) := by rw [nI_m3, nI_add]
    have e1 : (3 * nI j + nI q).toNatClampNeg = 3 * j + q := by rw [e0]; exact nI_clamp (by omega)
    have v1 : vp_in (3 * nI j + nI q) 372 := by rw [e0]; exact nI_vp (by omega) (by omega)
    refine ⟨rm_pa S 36 (3 * j + q) v, fun Q hQ => ⟨fun h9 => absurd h9 (nI_ge (a := j) (b := 121) (by omega) (by omega)), fun _ => ⟨v1, ?_⟩⟩, gk_pa g1 (by decide), g2, g3, g4, g5, ?_, ?_, fun i hi h121 => ?_⟩
    · rw [e1]; exact hQ
    · rw [cd_s_len]; exact g6
    · rw [cd_s_len]; exact g7
    · rw [cd_s_len] at hi
      show upd (S.2 36) (3 * j + q) v (3 * i) = _ ∧ upd (S.2 36) (3 * j + q) v (3 * i + 1) = _ ∧ upd (S.2 36) (3 * j + q) v (3 * i + 2) = _
      rw [hgd i hi]
      obtain ⟨c1, c2, c3⟩ := g8 i hi h121
      by_cases e : i = j
      · subst e
        rw [if_pos rfl]
        rcases hq with rfl | rfl
        · rw [if_pos rfl]
          exact ⟨by rw [upd_n (by omega)]; exact c1, upd_s, by rw [upd_n (by omega)]; exact c3⟩
        · rw [if_neg (by decide)]
          exact ⟨by rw [upd_n (by omega)]; exact c1, by rw [upd_n (by omega)]; exact c2, upd_s⟩
      · rw [if_neg e, upd_n (by omega), upd_n (by omega), upd_n (by omega)]
        exact ⟨c1, c2, c3⟩
theorem rg_pop {x : Int32 × Int32 × Int32} (h : cg_at S0 N m (x :: WS) C S) : cg_at S0 N m WS C (rm_pf S 39 (nI WS.length)) ∧ S.1 39 = nI (WS.length + 1) ∧ WS.length < 600 ∧ S.2 40 WS.length = x.1 ∧ S.2 41 WS.length = x.2.1 ∧ S.2 42 WS.length = x.2.2 := by
  obtain ⟨g1, g2, g3, g4, g5, g6, g7, g8⟩ := h
  have g4 : WS.length + 1 ≤ 600 := g4
  exact ⟨⟨gk_pf g1 (Or.inr rfl), g2, rfl, by omega, g5.2.2.2, g6, g7, g8⟩, g3, by omega, g5.1, g5.2.1, g5.2.2.1⟩
end CG
theorem dw_0 {S : rm_S} {Q : rm_S → Prop} {a : Int32} {w : Nat} (hw : w < 600) (e : S.1 39 = nI (w + 1)) (h0 : S.2 40 w = 0) (h1 : S.2 41 w = a) (h : wp_generate (rm_pf S 39 (nI w)) a Q) : wp_doWork S Q := by
  have e2 : S.1 39 - 1 = nI w := by rw [e, nI_pred]
  have e3 : (nI w).toNatClampNeg = w := nI_clamp (by omega)
  have hv : vp_in (nI w) 600 := nI_vp hw (by omega)
  unfold wp_doWork
  simp (decide := true) only [e2, e3, h0, h1, hv, not_false_eq_true, not_true_eq_false, false_implies, true_implies, and_true, true_and, and_self]
  exact h
theorem dw_1 {S : rm_S} {Q : rm_S → Prop} {a b : Int32} {w : Nat} (hw : w < 600) (e : S.1 39 = nI (w + 1)) (h0 : S.2 40 w = 1) (h1 : S.2 41 w = a) (h2 : S.2 42 w = b) (h : wp_emit (rm_pf S 39 (nI w)) a b 0 Q) : wp_doWork S Q := by
  have e2 : S.1 39 - 1 = nI w := by rw [e, nI_pred]
  have e3 : (nI w).toNatClampNeg = w := nI_clamp (by omega)
  have hv : vp_in (nI w) 600 := nI_vp hw (by omega)
  unfold wp_doWork
  simp (decide := true) only [e2, e3, h0, h1, h2, hv, not_false_eq_true, not_true_eq_false, false_implies, true_implies, and_true, true_and, and_self]
  exact h
theorem dw_2 {S : rm_S} {Q : rm_S → Prop} {a : Int32} {w : Nat} (hw : w < 600) (e : S.1 39 = nI (w + 1)) (h0 : S.2 40 w = 2) (h1 : S.2 41 w = a) (h : wp_set (rm_pf S 39 (nI w)) a 1 (S.1 35) Q) : wp_doWork S Q := by
  have e2 : S.1 39 - 1 = nI w := by rw [e, nI_pred]
  have e3 : (nI w).toNatClampNeg = w := nI_clamp (by omega)
  have hv : vp_in (nI w) 600 := nI_vp hw (by omega)
  unfold wp_doWork
  simp (decide := true) only [e2, e3, h0, h1, hv, not_false_eq_true, not_true_eq_false, false_implies, true_implies, and_true, true_and, and_self]
  exact h
theorem dw_3 {S : rm_S} {Q : rm_S → Prop} {a : Int32} {w : Nat} (hw : w < 600) (e : S.1 39 = nI (w + 1)) (h0 : S.2 40 w = 3) (h1 : S.2 41 w = a) (h : wp_generateSwitch (rm_pf S 39 (nI w)) a Q) : wp_doWork S Q := by
  have e2 : S.1 39 - 1 = nI w := by rw [e, nI_pred]
  have e3 : (nI w).toNatClampNeg = w := nI_clamp (by omega)
  have hv : vp_in (nI w) 600 := nI_vp hw (by omega)
  unfold wp_doWork
  simp (decide := true) only [e2, e3, h0, h1, hv, not_false_eq_true, not_true_eq_false, false_implies, true_implies, and_true, true_and, and_self]
  exact h
theorem dw_6 {S : rm_S} {Q : rm_S → Prop} {a : Int32} {w : Nat} (hw : w < 600) (e : S.1 39 = nI (w + 1)) (h0 : S.2 40 w = 6) (h1 : S.2 41 w = a) (h : wp_endMatch (rm_pf S 39 (nI w)) a Q) : wp_doWork S Q := by
  have e2 : S.1 39 - 1 = nI w := by rw [e, nI_pred]
  have e3 : (nI w).toNatClampNeg = w := nI_clamp (by omega)
  have hv : vp_in (nI w) 600 := nI_vp hw (by omega)
  unfold wp_doWork
  simp (decide := true) only [e2, e3, h0, h1, hv, not_false_eq_true, not_true_eq_false, false_implies, true_implies, and_true, true_and, and_self]
  exact h
/-- 4: the case's label; f its number of fields -/
theorem dw_4 {S : rm_S} {Q : rm_S → Prop} {c w t : Nat} {b : Int32} (hw : w < 600) (e : S.1 39 = nI (w + 1)) (h0 : S.2 40 w = 4) (h1 : S.2 41 w = nI c) (h2 : S.2 42 w = b) (hc : c < 300) (ht : t < 8) (hn : S.2 10 c = nI t) (h : wp_set (rm_pf S 39 (nI w)) b 2 (S.1 35) (fun S26 => ((nI (t % 4) ≤ 0 → Q S26) ∧ (¬ nI (t % 4) ≤ 0 → wp_emit S26 20 (nI (t % 4)) 0 Q)))) : wp_doWork S Q := by
  have e2 : S.1 39 - 1 = nI w := by rw [e, nI_pred]
  have e3 : (nI w).toNatClampNeg = w := nI_clamp (by omega)
  have e4 : (nI c).toNatClampNeg = c := nI_clamp (by omega)
  have hv : vp_in (nI w) 600 := nI_vp hw (by omega)
  have hv2 : vp_in (nI c) 300 := nI_vp hc (by omega)
  unfold wp_doWork
  simp (decide := true) only [e2, e3, e4, h0, h1, h2, hv, hv2, hn, nI_m4 ht, not_false_eq_true, not_true_eq_false, false_implies, true_implies, and_true, true_and, and_self]
  exact h
/-- 5: the case's end -/
theorem dw_5 {S : rm_S} {Q : rm_S → Prop} {c w t n : Nat} (hw : w < 600) (e : S.1 39 = nI (w + 1)) (h0 : S.2 40 w = 5) (h1 : S.2 41 w = nI c) (h2 : S.2 42 w = nI n) (hc : c < 300) (hn3 : n < 300) (ht : t < 8) (hn : S.2 10 c = nI t) (h : ((nI (t % 4) ≤ 0 → wp_emit (rm_pf S 39 (nI w)) 11 (S.2 10 n) 0 (fun S17 => Q (rm_pa S17 10 n ((S17.1 35) - 1)))) ∧ (¬ nI (t % 4) ≤ 0 → wp_emit (rm_pf S 39 (nI w)) 15 (nI (t % 4)) 0 (fun S20 => wp_emit S20 11 (S20.2 10 n) 0 (fun S23 => Q (rm_pa S23 10 n ((S23.1 35) - 1))))))) : wp_doWork S Q := by
  have e2 : S.1 39 - 1 = nI w := by rw [e, nI_pred]
  have e3 : (nI w).toNatClampNeg = w := nI_clamp (by omega)
  have e4 : (nI c).toNatClampNeg = c := nI_clamp (by omega)
  have e5 : (nI n).toNatClampNeg = n := nI_clamp (by omega)
  have hv : vp_in (nI w) 600 := nI_vp hw (by omega)
  have hv2 : vp_in (nI c) 300 := nI_vp hc (by omega)
  have hv3 : vp_in (nI n) 300 := nI_vp hn3 (by omega)
  unfold wp_doWork
  simp (decide := true) only [e2, e3, e4, e5, h0, h1, h2, hv, hv2, hv3, hn, nI_m4 ht, not_false_eq_true, not_true_eq_false, false_implies, true_implies, and_true, true_and, and_self]
  exact h
