/-! ROWS AS LISTS: a step's address, kind, number and label -/
abbrev rw_I : Type := Nat × Int32 × Int32 × Option Nat
def rw_c (x : rw_I) (fo : Option Nat) : cj_E := .inr (5, [.int x.2.1, .int x.2.2.1, va_rf x.2.2.2, .int 0, va_rf fo])
def rw_nx (L : List rw_I) (e : Option Nat) : Option Nat := match L with
  | [] => e
  | x :: _ => some x.1
def rw_sg (G : cj_G) : List rw_I → Option Nat → Prop
  | [], _ => True
  | x :: t, e => G x.1 = some (rw_c x (rw_nx t e)) ∧ rw_sg G t e
def rw_ad (L : List rw_I) : List Nat := L.map (fun x => x.1)
def rw_la (L : List rw_I) : Option Nat := L.getLast?.map (fun x => x.1)
def rw_at (G : cj_G) (r : Nat) (L : List rw_I) : Prop := G r = some (.inr (4, [va_rf (rw_nx L none), va_rf (rw_la L)])) ∧ rw_sg G L none ∧ (rw_ad L).Nodup
theorem rw_nx_app (A B : List rw_I) (e : Option Nat) : rw_nx (A ++ B) e = rw_nx A (rw_nx B e) := by cases A <;> rfl
theorem rw_sg_app {G : cj_G} {A B : List rw_I} {e : Option Nat} : rw_sg G (A ++ B) e ↔ rw_sg G A (rw_nx B e) ∧ rw_sg G B e := by
  induction A with
  | nil => simp [rw_sg]
  | cons x t ih =>
    show (G x.1 = some (rw_c x (rw_nx (t ++ B) e)) ∧ rw_sg G (t ++ B) e) ↔ _
    rw [ih, rw_nx_app]
    show _ ↔ (G x.1 = some (rw_c x (rw_nx t (rw_nx B e))) ∧ rw_sg G t (rw_nx B e)) ∧ rw_sg G B e
    exact and_assoc.symm
theorem rw_sg_fr {S : List Nat} {G G' : cj_G} (h : cj_fr S G G') : ∀ {L : List rw_I} {e : Option Nat}, (∀ x ∈ rw_ad L, x ∉ S) → rw_sg G L e → rw_sg G' L e := by
  intro L
  induction L with
  | nil => intro e _ _; trivial
  | cons x t ih =>
    intro e hd hs
    exact ⟨h _ _ (hd x.1 (by simp [rw_ad])) hs.1, ih (fun y hy => hd y (by simp only [rw_ad, List.map_cons]; exact List.mem_cons_of_mem _ hy)) hs.2⟩
theorem rw_sg_mem {G : cj_G} : ∀ {L : List rw_I} {e : Option Nat}, rw_sg G L e → ∀ q ∈ rw_ad L, ∃ fs : List Value, G q = some (.inr (5, fs)) := by
  intro L
  induction L with
  | nil => intro e _ q hq; cases hq
  | cons x t ih =>
    intro e hs q hq
    rcases List.mem_cons.mp (show q ∈ x.1 :: rw_ad t from hq) with h | h
    · subst h; exact ⟨_, hs.1⟩
    · exact ih hs.2 q h
theorem rw_ad_app (A B : List rw_I) : rw_ad (A ++ B) = rw_ad A ++ rw_ad B := by simp [rw_ad]
theorem rw_la_app (A : List rw_I) (x : rw_I) : rw_la (A ++ [x]) = some x.1 := by simp [rw_la]
theorem rw_ne_row {G : cj_G} {r q : Nat} {L : List rw_I} {e : Option Nat} {fs : List Value} (hr : G r = some (.inr (4, fs))) (hs : rw_sg G L e) (hq : q ∈ rw_ad L) : q ≠ r := by
  obtain ⟨f5, h5⟩ := rw_sg_mem hs q hq
  exact cj_noo h5 hr (by decide)
theorem rw_at.fr {S : List Nat} {G G' : cj_G} {r : Nat} {L : List rw_I} (h : rw_at G r L) (hf : cj_fr S G G') (hr : r ∉ S) (hd : ∀ x ∈ rw_ad L, x ∉ S) : rw_at G' r L := ⟨hf _ _ hr h.1, rw_sg_fr hf hd h.2.1, h.2.2⟩
/-- an empty row, or a last step -/
theorem rw_end (L : List rw_I) : L = [] ∨ ∃ (A : List rw_I) (x : rw_I), L = A ++ [x] := by
  rcases List.eq_nil_or_concat L with h | ⟨A, x, h⟩
  · exact Or.inl h
  · exact Or.inr ⟨A, x, by simpa using h⟩
theorem rw_nx_some (A : List rw_I) (x : rw_I) : ∃ h : Nat, rw_nx (A ++ [x]) none = some h := by cases A with
  | nil => exact ⟨x.1, rfl⟩
  | cons y t => exact ⟨y.1, rfl⟩
/-- the last step of a row leads on: what the row with more steps is -/
theorem rw_grow {G G' : cj_G} {r h : Nat} {A B : List rw_I} {x : rw_I} (h0 : rw_at G r (A ++ [x])) (hh : rw_nx (A ++ [x]) none = some h) (hf : cj_fr [r, x.1] G G') (hr : G' r = some (.inr (4, [.ref h, va_rf (rw_la (A ++ [x] ++ B))]))) (hx : G' x.1 = some (rw_c x (rw_nx B none))) (hB : rw_sg G' B none) (hn : (rw_ad (A ++ [x] ++ B)).Nodup) : rw_at G' r (A ++ [x] ++ B) := by
  obtain ⟨g1, g2, g3⟩ := h0
  obtain ⟨s1, s2⟩ := rw_sg_app.mp g2
  refine ⟨?_, ?_, hn⟩
  · rw [hr, rw_nx_app, show rw_nx (A ++ [x]) (rw_nx B none) = some h by rw [← hh]; cases A <;> rfl]
    rfl
  · rw [rw_sg_app, rw_sg_app]
    refine ⟨⟨rw_sg_fr hf (fun q hq => ?_) s1, ?_⟩, hB⟩
    · have hq1 : q ≠ r := rw_ne_row g1 s1 hq
      have hq2 : q ≠ x.1 := by
        intro e
        rw [rw_ad_app] at g3
        have := (List.nodup_append.mp g3).2.2 q hq x.1 (by simp [rw_ad])
        exact this e
      exact cj_ni2 hq1 hq2
    · exact ⟨hx, trivial⟩
theorem rw_in {L : List rw_I} {A : List rw_I} {x : rw_I} {r : Nat} (h : L = A ++ [x]) : ∀ q ∈ [r, x.1], q ∈ r :: rw_ad L := by
  intro q hq
  subst h
  rw [rw_ad_app]
  rcases List.mem_cons.mp hq with e | e
  · rw [e]; exact List.mem_cons_self
  · rw [List.mem_singleton.mp e]; exact List.mem_cons_of_mem _ (List.mem_append_right _ (by simp [rw_ad]))
/-- Row.add(step) -/
theorem t_Radd {G : cj_G} {r : Nat} {L : List rw_I} {x : rw_I} (h : rw_at G r L) (hx : G x.1 = some (rw_c x none)) (hn : x.1 ∉ rw_ad L) : cj_T mX4_add 0 0 0 [.ref r, .ref x.1] G (fun v G' => v = none ∧ rw_at G' r (L ++ [x]) ∧ cj_fr (r :: rw_ad L) G G') cj_no := by
  have hn2 : (rw_ad (L ++ [x])).Nodup := by
    rw [rw_ad_app]
    exact List.nodup_append.mpr ⟨h.2.2, by simp [rw_ad], fun a ha b hb => by rw [List.mem_singleton.mp (show b ∈ [x.1] from hb)]; exact fun e => hn (e ▸ ha)⟩
  rcases rw_end L with rfl | ⟨A, y, rfl⟩
  · refine cj_T.mono (t_add_e h.1) (fun v G' hq => ?_) (fun _ _ h => h)
    obtain ⟨rfl, q1, q2⟩ := hq
    exact ⟨rfl, ⟨q1, ⟨q2 _ _ (cj_ni1 (cj_noo hx h.1 (by decide))) hx, trivial⟩, hn2⟩, q2⟩
  · obtain ⟨h9, hh⟩ := rw_nx_some A y
    have h1 := h.1
    rw [hh, rw_la_app] at h1
    have hy : G y.1 = some (rw_c y none) := (rw_sg_app.mp h.2.1).2.1
    refine cj_T.mono (t_add_l h1 hy) (fun v G' hq => ?_) (fun _ _ h => h)
    obtain ⟨rfl, q1, q2, q3⟩ := hq
    have hne : x.1 ≠ y.1 := fun e => hn (by rw [e, rw_ad_app]; exact List.mem_append_right _ (by simp [rw_ad]))
    exact ⟨rfl, rw_grow h hh q3 (by rw [rw_la_app]; exact q1) q2 ⟨q3 _ _ (cj_ni2 (cj_noo hx h.1 (by decide)) hne) hx, trivial⟩ hn2, cj_fr.mono q3 (rw_in rfl)⟩
/-- Row.append(row) -/
theorem t_Rappend {G : cj_G} {r q : Nat} {L K : List rw_I} (h : rw_at G r L) (hk : rw_at G q K) (hrq : r ≠ q) (hd : ∀ x ∈ rw_ad L, x ∉ rw_ad K) : cj_T mX4_append 0 0 0 [.ref r, .ref q] G (fun v G' => v = none ∧ rw_at G' r (L ++ K) ∧ cj_fr (r :: rw_ad L) G G') cj_no := by
  have hn2 : (rw_ad (L ++ K)).Nodup := by
    rw [rw_ad_app]
    exact List.nodup_append.mpr ⟨h.2.2, hk.2.2, fun a ha b hb e => hd a ha (e ▸ hb)⟩
  rcases rw_end K with rfl | ⟨B, z, rfl⟩
  · refine cj_T.mono (t_append_0 h.1 hk.1 hrq) (fun v G' hq => ?_) (fun _ _ h => h)
    obtain ⟨rfl, q1, q2⟩ := hq
    rw [List.append_nil]
    exact ⟨rfl, ⟨q1, rw_sg_fr q2 (fun y hy => cj_ni1 (rw_ne_row h.1 h.2.1 hy)) h.2.1, h.2.2⟩, cj_fr.mono q2 (by simp)⟩
  · obtain ⟨h8, hh8⟩ := rw_nx_some B z
    have hk1 := hk.1
    rw [hh8, rw_la_app] at hk1
    rcases rw_end L with rfl | ⟨A, y, rfl⟩
    · refine cj_T.mono (t_append_e h.1 hk1 hrq) (fun v G' hq => ?_) (fun _ _ h => h)
      obtain ⟨rfl, q1, q2⟩ := hq
      refine ⟨rfl, ⟨?_, rw_sg_fr q2 (fun y hy => cj_ni1 (rw_ne_row h.1 hk.2.1 hy)) hk.2.1, hn2⟩, q2⟩
      rw [List.nil_append, hh8, rw_la_app]
      exact q1
    · obtain ⟨h9, hh⟩ := rw_nx_some A y
      have h1 := h.1
      rw [hh, rw_la_app] at h1
      have hy : G y.1 = some (rw_c y none) := (rw_sg_app.mp h.2.1).2.1
      refine cj_T.mono (t_append_l h1 hy hk1 hrq) (fun v G' hq => ?_) (fun _ _ h => h)
      obtain ⟨rfl, q1, q2, q3⟩ := hq
      refine ⟨rfl, rw_grow h hh q3 ?_ (by rw [hh8]; exact q2) (rw_sg_fr q3 (fun a ha => ?_) hk.2.1) hn2, cj_fr.mono q3 (rw_in rfl)⟩
      · rw [← List.append_assoc, rw_la_app]; exact q1
      · exact cj_ni2 (rw_ne_row h.1 hk.2.1 ha) (fun e => hd y.1 (by rw [rw_ad_app]; exact List.mem_append_right _ (by simp [rw_ad])) (e ▸ ha))
/-- Row.addFirst(step) -/
theorem t_RaddFirst {G : cj_G} {r : Nat} {L : List rw_I} {x : rw_I} (h : rw_at G r L) (hx : G x.1 = some (rw_c x none)) (hn : x.1 ∉ rw_ad L) : cj_T mX4_addFirst 0 0 0 [.ref r, .ref x.1] G (fun v G' => v = none ∧ rw_at G' r (x :: L) ∧ cj_fr [r, x.1] G G') cj_no := by
  have hn2 : (rw_ad (x :: L)).Nodup := List.nodup_cons.mpr ⟨hn, h.2.2⟩
  rcases rw_end L with rfl | ⟨A, y, rfl⟩
  · refine cj_T.mono (t_addFirst_e h.1 hx) (fun v G' hq => ?_) (fun _ _ h => h)
    obtain ⟨rfl, q1, q2, q3⟩ := hq
    exact ⟨rfl, ⟨q1, ⟨q2, trivial⟩, hn2⟩, q3⟩
  · obtain ⟨h9, hh⟩ := rw_nx_some A y
    have h1 := h.1
    rw [hh, rw_la_app] at h1
    refine cj_T.mono (t_addFirst_l h1 hx) (fun v G' hq => ?_) (fun _ _ h => h)
    obtain ⟨rfl, q1, q2, q3⟩ := hq
    refine ⟨rfl, ⟨?_, ⟨?_, rw_sg_fr q3 (fun a ha => ?_) h.2.1⟩, hn2⟩, q3⟩
    · rw [show rw_la (x :: (A ++ [y])) = some y.1 by rw [← List.cons_append, rw_la_app]]; exact q1
    · rw [hh]; exact q2
    · exact cj_ni2 (rw_ne_row h.1 h.2.1 ha) (fun e => hn (e ▸ ha))
