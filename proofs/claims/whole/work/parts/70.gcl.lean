/-! COLLECTION on lists of blocks. A word of the new heap: no pointer, an old pointer, a new one -/
abbrev g2_T : Type := Int32 ⊕ (Nat ⊕ Nat)
abbrev gs_T : Type := List (Nat × List g2_T) × (Nat → Option Nat)
def up2 : aw_T → g2_T
  | .inl w => .inl w
  | .inr p => .inr (.inl p)
def ag_cp (bs : List hb_T) (s : gs_T) (w : g2_T) : g2_T × gs_T := match w with
  | .inl x => (.inl x, s)
  | .inr (.inr q) => (.inr (.inr q), s)
  | .inr (.inl p) => match s.2 p with
    | some q => (.inr (.inr q), s)
    | none => match bk bs p with
      | some b => (.inr (.inr (hsz s.1)), (s.1 ++ [(b.1, b.2.map up2)], fun j => if j = p then some (hsz s.1) else s.2 j))
      | none => (.inr (.inl p), s)
def setw (nb : List (Nat × List g2_T)) (i j : Nat) (w : g2_T) : List (Nat × List g2_T) := match nb[i]? with
  | some b => nb.set i (b.1, b.2.set j w)
  | none => nb
def ag_in (bs : List hb_T) (i : Nat) : Nat → Nat → gs_T → gs_T
  | 0, _, s => s
  | r + 1, j, s => match s.1[i]? with
    | some b => match b.2[j]? with
      | some w => ag_in bs i r (j + 1) (setw (ag_cp bs s w).2.1 i j (ag_cp bs s w).1, (ag_cp bs s w).2.2)
      | none => s
    | none => s
def ag_out (bs : List hb_T) : Nat → Nat → gs_T → gs_T
  | 0, _, s => s
  | r + 1, i, s => match s.1[i]? with
    | some b => ag_out bs r (i + 1) (ag_in bs i b.2.length 0 s)
    | none => s
def um : List hb_T → Nat → (Nat → Option Nat) → Nat
  | [], _, _ => 0
  | b :: t, o, mv => (if mv o = none then 1 + b.2.length else 0) + um t (o + (1 + b.2.length)) mv
def tr (mv : Nat → Option Nat) : aw_T → g2_T
  | .inl w => .inl w
  | .inr p => match mv p with
    | some q => .inr (.inr q)
    | none => .inr (.inl p)
def mvd (mv : Nat → Option Nat) : aw_T → Prop
  | .inl _ => True
  | .inr p => ∃ q : Nat, mv p = some q
def scd (i j a b : Nat) : Prop := a < i ∨ (a = i ∧ b < j)
theorem um_far {mv : Nat → Option Nat} {p q : Nat} : ∀ (t : List hb_T) (o : Nat), p < o → um t o (fun j => if j = p then some q else mv j) = um t o mv := by
  intro t
  induction t with
  | nil => intro o _; rfl
  | cons b t ih =>
    intro o h
    show (if (if o = p then some q else mv o) = none then 1 + b.2.length else 0) + um t (o + (1 + b.2.length)) _ = (if mv o = none then 1 + b.2.length else 0) + um t (o + (1 + b.2.length)) mv
    rw [if_neg (show ¬ o = p by omega), ih _ (by omega)]
theorem um_set {mv : Nat → Option Nat} {p q : Nat} {b : hb_T} (hm : mv p = none) : ∀ (t : List hb_T) (o : Nat), o ≤ p → bk t (p - o) = some b → um t o mv = um t o (fun j => if j = p then some q else mv j) + (1 + b.2.length) := by
  intro t
  induction t with
  | nil => intro o _ h; cases h
  | cons x t ih =>
    intro o ho h
    unfold bk at h
    show (if mv o = none then 1 + x.2.length else 0) + um t (o + (1 + x.2.length)) mv = (if (if o = p then some q else mv o) = none then 1 + x.2.length else 0) + um t (o + (1 + x.2.length)) _ + (1 + b.2.length)
    by_cases h0 : p - o = 0
    · rw [if_pos h0] at h
      have e : o = p := by omega
      cases h
      rw [if_pos e, e, if_pos hm, if_neg (by simp), um_far t _ (by omega)]; omega
    · rw [if_neg h0] at h
      by_cases h1 : p - o < 1 + x.2.length
      · rw [if_pos h1] at h; cases h
      · rw [if_neg h1] at h
        rw [if_neg (show ¬ o = p by omega)]
        have := ih (o + (1 + x.2.length)) (by omega) (by rw [show p - (o + (1 + x.2.length)) = p - o - (1 + x.2.length) by omega]; exact h)
        omega
theorem um_all : ∀ (t : List hb_T) (o : Nat), um t o (fun _ => none) = hsz t := by
  intro t
  induction t with
  | nil => intro o; rfl
  | cons b t ih => intro o; show (if (none : Option Nat) = none then 1 + b.2.length else 0) + um t _ _ = 1 + b.2.length + hsz t; rw [if_pos rfl, ih]
theorem hsz_len {α : Type} : ∀ (A : List (Nat × List α)), A.length ≤ hsz A := by
  intro A
  induction A with
  | nil => exact Nat.le_refl _
  | cons b t ih => show t.length + 1 ≤ 1 + b.2.length + hsz t; omega
/-- what has been copied so far: og: whence each block came; up to word j of block i all is as it will be -/
def GI (bs : List hb_T) (i j : Nat) (s : gs_T) : Prop := ∃ og : List Nat, og.length = s.1.length ∧ og.Nodup ∧ (i < s.1.length ∨ (i ≤ s.1.length ∧ j = 0)) ∧ hsz s.1 + um bs 0 s.2 = hsz bs ∧ (∀ p q : Nat, s.2 p = some q ↔ ∃ a : Nat, og[a]? = some p ∧ q = hsz (s.1.take a)) ∧ ∀ a p : Nat, og[a]? = some p → ∃ (b : hb_T) (b2 : Nat × List g2_T), bk bs p = some b ∧ s.1[a]? = some b2 ∧ b2.1 = b.1 ∧ b2.2.length = b.2.length ∧ ∀ (c : Nat) (x : aw_T), b.2[c]? = some x → (scd i j a c → b2.2[c]? = some (tr s.2 x) ∧ mvd s.2 x) ∧ (¬ scd i j a c → b2.2[c]? = some (up2 x))
theorem tr_some {mv : Nat → Option Nat} {p q : Nat} (h : mv p = some q) : tr mv (.inr p) = .inr (.inr q) := by
  unfold tr; simp only [h]
def mle (s s' : gs_T) : Prop := ∀ p q : Nat, s.2 p = some q → s'.2 p = some q
theorem tr_mle {s s' : gs_T} (h : mle s s') {x : aw_T} (hx : mvd s.2 x) : tr s'.2 x = tr s.2 x ∧ mvd s'.2 x := by
  cases x with
  | inl w => exact ⟨rfl, trivial⟩
  | inr p =>
    obtain ⟨q, hq⟩ := hx
    have h2 := h p q hq
    exact ⟨by rw [tr_some h2, tr_some hq], q, h2⟩
section GC
variable {bs : List hb_T} {i j : Nat} {s : gs_T}
theorem ag_cp_ok {x : aw_T} (h : GI bs i j s) (hx : wv bs x) : GI bs i j (ag_cp bs s (up2 x)).2 ∧ (ag_cp bs s (up2 x)).1 = tr (ag_cp bs s (up2 x)).2.2 x ∧ mvd (ag_cp bs s (up2 x)).2.2 x ∧ mle s (ag_cp bs s (up2 x)).2 ∧ ∃ e : List (Nat × List g2_T), (ag_cp bs s (up2 x)).2.1 = s.1 ++ e := by
  cases x with
  | inl w => exact ⟨h, rfl, trivial, fun _ _ h => h, [], (List.append_nil _).symm⟩
  | inr p =>
    cases hm : s.2 p with
    | some q =>
      have e : ag_cp bs s (up2 (.inr p)) = (.inr (.inr q), s) := by
        show (match s.2 p with | some q => _ | none => _) = _
        rw [hm]
      rw [e]
      exact ⟨h, (tr_some hm).symm, ⟨q, hm⟩, fun _ _ h => h, [], (List.append_nil _).symm⟩
    | none =>
      obtain ⟨b, hb⟩ := hx
      have e : ag_cp bs s (up2 (.inr p)) = (.inr (.inr (hsz s.1)), (s.1 ++ [(b.1, b.2.map up2)], fun j => if j = p then some (hsz s.1) else s.2 j)) := by
        show (match s.2 p with | some q => _ | none => (match bk bs p with | some b => _ | none => _)) = _
        rw [hm, hb]
      rw [e]
      have hmle : mle s (s.1 ++ [(b.1, b.2.map up2)], fun j => if j = p then some (hsz s.1) else s.2 j) := fun p' q' h' => by
        show (if p' = p then _ else _) = _
        rw [if_neg (show ¬ p' = p from fun e9 => by rw [e9, hm] at h'; cases h')]; exact h'
      have hnew : (if p = p then some (hsz s.1) else s.2 p) = some (hsz s.1) := if_pos rfl
      refine ⟨?_, ?_, ⟨hsz s.1, hnew⟩, hmle, _, rfl⟩
      · obtain ⟨og, o1, o2, o3, o4, o5, o6⟩ := h
        have hni : p ∉ og := fun h9 => by
          obtain ⟨a, ha⟩ := List.getElem?_of_mem h9
          have := (o5 p (hsz (s.1.take a))).mpr ⟨a, ha, rfl⟩
          rw [hm] at this; cases this
        have hl1 : (s.1 ++ [(b.1, b.2.map up2)]).length = s.1.length + 1 := by simp
        refine ⟨og ++ [p], by rw [List.length_append, hl1, o1]; rfl, List.nodup_append.mpr ⟨o2, List.nodup_cons.mpr ⟨List.not_mem_nil, List.nodup_nil⟩, fun x hx y hy exy => ?_⟩, ?_, ?_, fun p' q' => ?_, fun a p' ha => ?_⟩
        · rw [List.mem_singleton] at hy; rw [exy, hy] at hx; exact hni hx
        · show i < (s.1 ++ [(b.1, b.2.map up2)]).length ∨ _
          rw [hl1]; rcases o3 with h9 | h9
          · exact Or.inl (by omega)
          · exact Or.inr ⟨by omega, h9.2⟩
        · show hsz (s.1 ++ [(b.1, b.2.map up2)]) + um bs 0 (fun j => if j = p then some (hsz s.1) else s.2 j) = hsz bs
          have hu := um_set (q := hsz s.1) hm bs 0 (Nat.zero_le _) (by rw [Nat.sub_zero]; exact hb)
          rw [hsz_app]
          show hsz s.1 + (1 + (b.2.map up2).length) + um bs 0 (fun j => if j = p then some (hsz s.1) else s.2 j) = _
          rw [List.length_map]; omega
        · show (if p' = p then some (hsz s.1) else s.2 p') = some q' ↔ _
          by_cases ep : p' = p
          · rw [if_pos ep]
            constructor
            · intro h9
              cases h9
              refine ⟨s.1.length, ?_, ?_⟩
              · rw [List.getElem?_append_right (by omega), o1, Nat.sub_self, ep]; rfl
              · show hsz s.1 = hsz ((s.1 ++ [(b.1, b.2.map up2)]).take s.1.length)
                rw [List.take_left' rfl]
            · rintro ⟨a, ha, hq⟩
              by_cases hal : a < og.length
              · rw [List.getElem?_append_left hal, ep] at ha
                exact absurd (List.mem_of_getElem? ha) hni
              · have ha2 : a = s.1.length := by
                  have := (List.getElem?_eq_some_iff.mp ha).1
                  rw [List.length_append] at this
                  have h9 : a < og.length + 1 := this
                  omega
                rw [hq, ha2]
                show some (hsz s.1) = some (hsz ((s.1 ++ [(b.1, b.2.map up2)]).take s.1.length))
                rw [List.take_left' rfl]
          · rw [if_neg ep, o5]
            constructor
            · rintro ⟨a, ha, hq⟩
              have hal := (List.getElem?_eq_some_iff.mp ha).1
              refine ⟨a, by rw [List.getElem?_append_left hal]; exact ha, ?_⟩
              rw [hq]
              show _ = hsz ((s.1 ++ [(b.1, b.2.map up2)]).take a)
              rw [List.take_append_of_le_length (by omega)]
            · rintro ⟨a, ha, hq⟩
              by_cases hal : a < og.length
              · rw [List.getElem?_append_left hal] at ha
                refine ⟨a, ha, ?_⟩
                rw [hq]
                show hsz ((s.1 ++ [(b.1, b.2.map up2)]).take a) = _
                rw [List.take_append_of_le_length (by omega)]
              · have ha2 : a = og.length := by
                  have := (List.getElem?_eq_some_iff.mp ha).1
                  rw [List.length_append] at this
                  have h9 : a < og.length + 1 := this
                  omega
                rw [ha2, List.getElem?_append_right (Nat.le_refl _), Nat.sub_self] at ha
                exact absurd (Option.some.inj ha).symm ep
        · by_cases hal : a < og.length
          · rw [List.getElem?_append_left hal] at ha
            obtain ⟨b0, b2, k1, k2, k3, k4, k5⟩ := o6 a p' ha
            refine ⟨b0, b2, k1, by rw [List.getElem?_append_left (by omega)]; exact k2, k3, k4, fun c x hc => ⟨fun hs9 => ?_, fun hs9 => (k5 c x hc).2 hs9⟩⟩
            obtain ⟨m1, m2⟩ := (k5 c x hc).1 hs9
            obtain ⟨n1, n2⟩ := tr_mle hmle m2
            exact ⟨by rw [n1]; exact m1, n2⟩
          · have ha2 : a = og.length := by
              have := (List.getElem?_eq_some_iff.mp ha).1
              rw [List.length_append] at this
              have h9 : a < og.length + 1 := this
              omega
            rw [ha2, List.getElem?_append_right (Nat.le_refl _), Nat.sub_self] at ha
            have ep : p = p' := Option.some.inj ha
            subst ep
            refine ⟨b, (b.1, b.2.map up2), hb, ?_, rfl, List.length_map _, fun c x hc => ⟨fun hs9 => ?_, fun _ => ?_⟩⟩
            · rw [ha2, o1, List.getElem?_append_right (Nat.le_refl _), Nat.sub_self]; rfl
            · rcases hs9 with h9 | ⟨h9, h8⟩
              · rcases o3 with h7 | h7 <;> omega
              · rcases o3 with h7 | h7 <;> omega
            · show (b.2.map up2)[c]? = some (up2 x)
              rw [List.getElem?_map, hc]; rfl
      · exact (tr_some (mv := fun j => if j = p then some (hsz s.1) else s.2 j) hnew).symm
theorem hsz_cong {α : Type} : ∀ {A B : List (Nat × List α)}, A.map (fun b => b.2.length) = B.map (fun b => b.2.length) → hsz A = hsz B := by
  intro A
  induction A with
  | nil =>
    intro B h
    cases B with
    | nil => rfl
    | cons b B => cases h
  | cons a A ih =>
    intro B h
    cases B with
    | nil => cases h
    | cons b B =>
      have h1 := (List.cons.inj h).1
      have h2 := (List.cons.inj h).2
      have h1 : a.2.length = b.2.length := h1
      show 1 + a.2.length + hsz A = 1 + b.2.length + hsz B
      rw [ih h2, h1]
theorem set_map {nb : List (Nat × List g2_T)} {i : Nat} {b c : Nat × List g2_T} (h : nb[i]? = some b) (hl : c.2.length = b.2.length) : (nb.set i c).map (fun b => b.2.length) = nb.map (fun b => b.2.length) := by
  refine List.ext_getElem? (fun a => ?_)
  rw [List.getElem?_map, List.getElem?_map]
  by_cases e : a = i
  · subst e
    rw [List.getElem?_set_self (List.getElem?_eq_some_iff.mp h).1, h]
    show some c.2.length = some b.2.length
    rw [hl]
  · rw [List.getElem?_set_ne (Ne.symm e)]
theorem setw_eq {nb : List (Nat × List g2_T)} {i j : Nat} {b : Nat × List g2_T} {w : g2_T} (h : nb[i]? = some b) : setw nb i j w = nb.set i (b.1, b.2.set j w) := by unfold setw; rw [h]
theorem ag_in_step {b2 : Nat × List g2_T} {w : g2_T} (hbv : bv bs) (h : GI bs i j s) (hi : s.1[i]? = some b2) (hj : b2.2[j]? = some w) : GI bs i (j + 1) (setw (ag_cp bs s w).2.1 i j (ag_cp bs s w).1, (ag_cp bs s w).2.2) ∧ ∃ b3 : Nat × List g2_T, (setw (ag_cp bs s w).2.1 i j (ag_cp bs s w).1)[i]? = some b3 ∧ b3.2.length = b2.2.length := by
  have h' := h
  obtain ⟨og, o1, o2, o3, o4, o5, o6⟩ := h'
  have hil := (List.getElem?_eq_some_iff.mp hi).1
  have hjl := (List.getElem?_eq_some_iff.mp hj).1
  have hog : og[i]? = some og[i] := List.getElem?_eq_getElem (by omega)
  obtain ⟨b, b2', k1, k2, k3, k4, k5⟩ := o6 i _ hog
  rw [hi] at k2
  have e2 : b2 = b2' := Option.some.inj k2
  subst e2
  have hx : b.2[j]? = some b.2[j] := List.getElem?_eq_getElem (by omega)
  have hns : ¬ scd i j i j := fun h9 => by rcases h9 with h9 | h9 <;> omega
  have hw := (k5 j _ hx).2 hns
  rw [hj] at hw
  have ew : w = up2 b.2[j] := Option.some.inj hw
  have hv : wv bs b.2[j] := (hbv b (bk_lt k1).2).2.2 _ (List.getElem_mem _)
  rw [ew]
  obtain ⟨g1, g2, g3, g4, e, g5⟩ := ag_cp_ok h hv
  generalize hs1 : (ag_cp bs s (up2 b.2[j])).2 = s1 at *
  generalize hw1 : (ag_cp bs s (up2 b.2[j])).1 = w1 at *
  obtain ⟨q1, q2, q3, q4, q5, q6, q7⟩ := g1
  have hi1 : s1.1[i]? = some b2 := by rw [g5, List.getElem?_append_left hil]; exact hi
  have hil1 : i < s1.1.length := (List.getElem?_eq_some_iff.mp hi1).1
  rw [setw_eq hi1]
  have hmap := set_map (c := (b2.1, b2.2.set j w1)) hi1 (List.length_set ..)
  have htk : ∀ a, hsz ((s1.1.set i (b2.1, b2.2.set j w1)).take a) = hsz (s1.1.take a) := fun a => hsz_cong (by rw [List.map_take, List.map_take, hmap])
  refine ⟨⟨q1, by rw [List.length_set]; exact q2, q3, Or.inl (by rw [List.length_set]; exact hil1), ?_, fun p q => ?_, fun a p ha => ?_⟩, _, List.getElem?_set_self hil1, List.length_set ..⟩
  · show hsz (s1.1.set i _) + _ = _
    rw [hsz_cong hmap]; exact q5
  · show s1.2 p = some q ↔ _
    rw [q6]
    constructor
    · rintro ⟨a, a1, a2⟩; exact ⟨a, a1, by rw [a2]; exact (htk a).symm⟩
    · rintro ⟨a, a1, a2⟩; exact ⟨a, a1, by rw [a2]; exact htk a⟩
  · obtain ⟨b0, b5, m1, m2, m3, m4, m5⟩ := q7 a p ha
    by_cases ea : a = i
    · subst ea
      rw [hi1] at m2
      have e5 : b2 = b5 := Option.some.inj m2
      subst e5
      -- the origin of block i is the same as before
      have hb0 : b0 = b := by
        have hp0 : s1.2 og[a] = some (hsz (s.1.take a)) := g4 _ _ ((o5 _ _).mpr ⟨a, hog, rfl⟩)
        obtain ⟨a', a1, a2⟩ := (q6 _ _).mp hp0
        have hta : hsz (s1.1.take a) = hsz (s.1.take a) := by rw [g5, List.take_append_of_le_length (by omega)]
        have haa : a' = a := by
          have key : ∀ (A : List (Nat × List g2_T)) (x y : Nat), x < y → y ≤ A.length → hsz (A.take x) < hsz (A.take y) := by
            intro A
            induction A with
            | nil => intro x y h1 h2; simp at h2; omega
            | cons c A ih =>
              intro x y h1 h2
              cases y with
              | zero => omega
              | succ y =>
                cases x with
                | zero => show 0 < 1 + c.2.length + hsz (A.take y); omega
                | succ x =>
                  show 1 + c.2.length + hsz (A.take x) < 1 + c.2.length + hsz (A.take y)
                  have h2 : y + 1 ≤ A.length + 1 := h2
                  have := ih x y (by omega) (by omega)
                  omega
          have hal' : a' < s1.1.length := by rw [← q2]; exact (List.getElem?_eq_some_iff.mp a1).1
          rcases Nat.lt_trichotomy a' a with h9 | h9 | h9
          · have := key s1.1 a' a h9 (by omega); omega
          · exact h9
          · have := key s1.1 a a' h9 (by omega); omega
        rw [haa, ha] at a1
        have ep : p = og[a] := Option.some.inj a1
        rw [ep, k1] at m1
        exact (Option.some.inj m1).symm
      subst hb0
      refine ⟨b0, (b2.1, b2.2.set j w1), m1, List.getElem?_set_self hil1, m3, by rw [List.length_set]; exact m4, fun c x hc => ?_⟩
      by_cases ec : c = j
      · subst ec
        have ex : x = b0.2[c] := by rw [hx] at hc; exact (Option.some.inj hc).symm
        refine ⟨fun _ => ⟨?_, by rw [ex]; exact g3⟩, fun h9 => absurd (Or.inr ⟨rfl, Nat.lt_succ_self c⟩) h9⟩
        show (b2.2.set c w1)[c]? = _
        rw [List.getElem?_set_self hjl, g2, ex]
      · have hsc : scd a (j + 1) a c ↔ scd a j a c := by unfold scd; omega
        show (scd a (j + 1) a c → (b2.2.set j w1)[c]? = _ ∧ _) ∧ (¬ scd a (j + 1) a c → (b2.2.set j w1)[c]? = _)
        rw [hsc, List.getElem?_set_ne (Ne.symm ec)]
        exact m5 c x hc
    · refine ⟨b0, b5, m1, by rw [List.getElem?_set_ne (Ne.symm ea)]; exact m2, m3, m4, fun c x hc => ?_⟩
      have hsc : scd i (j + 1) a c ↔ scd i j a c := by unfold scd; omega
      rw [hsc]
      exact m5 c x hc
theorem ag_in_ok (hbv : bv bs) : ∀ (r j : Nat) (s : gs_T) (b2 : Nat × List g2_T), GI bs i j s → s.1[i]? = some b2 → j + r = b2.2.length → GI bs i (j + r) (ag_in bs i r j s) ∧ ∃ b3 : Nat × List g2_T, (ag_in bs i r j s).1[i]? = some b3 ∧ b3.2.length = b2.2.length := by
  intro r
  induction r with
  | zero => intro j s b2 h hi _; exact ⟨h, b2, hi, rfl⟩
  | succ r ih =>
    intro j s b2 h hi hl
    have hj : b2.2[j]? = some b2.2[j] := List.getElem?_eq_getElem (by omega)
    obtain ⟨h1, b3, h2, h3⟩ := ag_in_step hbv h hi hj
    have e : ag_in bs i (r + 1) j s = ag_in bs i r (j + 1) (setw (ag_cp bs s b2.2[j]).2.1 i j (ag_cp bs s b2.2[j]).1, (ag_cp bs s b2.2[j]).2.2) := by
      simp only [ag_in, hi, hj]
    rw [e]
    obtain ⟨g1, b4, g2, g3⟩ := ih (j + 1) _ b3 h1 h2 (by omega)
    rw [show j + (r + 1) = j + 1 + r by omega]
    exact ⟨g1, b4, g2, g3.trans h3⟩
theorem GI_next {b2 : Nat × List g2_T} (h : GI bs i j s) (hi : s.1[i]? = some b2) (hj : j = b2.2.length) : GI bs (i + 1) 0 s := by
  have hil := (List.getElem?_eq_some_iff.mp hi).1
  obtain ⟨og, o1, o2, o3, o4, o5, o6⟩ := h
  refine ⟨og, o1, o2, Or.inr ⟨by omega, rfl⟩, o4, o5, fun a p ha => ?_⟩
  obtain ⟨b0, b5, m1, m2, m3, m4, m5⟩ := o6 a p ha
  refine ⟨b0, b5, m1, m2, m3, m4, fun c x hc => ?_⟩
  have hcl := (List.getElem?_eq_some_iff.mp hc).1
  have hsc : scd (i + 1) 0 a c ↔ scd i j a c := by
    unfold scd
    by_cases ea : a = i
    · subst ea
      rw [hi] at m2
      have e5 : b2 = b5 := Option.some.inj m2
      subst e5
      omega
    · omega
  rw [hsc]; exact m5 c x hc
theorem GI_len (h : GI bs i j s) : s.1.length ≤ hsz bs ∧ hsz s.1 ≤ hsz bs := by
  obtain ⟨og, o1, o2, o3, o4, o5, o6⟩ := h
  have := hsz_len s.1
  omega
theorem ag_out_ok (hbv : bv bs) : ∀ (r i : Nat) (s : gs_T), GI bs i 0 s → hsz bs ≤ i + r → ∃ n : Nat, GI bs n 0 (ag_out bs r i s) ∧ n = (ag_out bs r i s).1.length := by
  intro r
  induction r with
  | zero =>
    intro i s h hr
    have hl := (GI_len h).1
    have h' := h
    obtain ⟨og, o1, o2, o3, _⟩ := h'
    refine ⟨i, h, ?_⟩
    show i = s.1.length
    rcases o3 with h9 | h9 <;> omega
  | succ r ih =>
    intro i s h hr
    cases hi : s.1[i]? with
    | none =>
      have e : ag_out bs (r + 1) i s = s := by simp only [ag_out, hi]
      rw [e]
      have h' := h
      obtain ⟨og, o1, o2, o3, _⟩ := h'
      have := List.getElem?_eq_none_iff.mp hi
      exact ⟨i, h, by rcases o3 with h9 | h9 <;> omega⟩
    | some b2 =>
      have e : ag_out bs (r + 1) i s = ag_out bs r (i + 1) (ag_in bs i b2.2.length 0 s) := by simp only [ag_out, hi]
      rw [e]
      obtain ⟨g1, b3, g2, g3⟩ := ag_in_ok hbv b2.2.length 0 s b2 h hi (by omega)
      exact ih (i + 1) _ (GI_next g1 g2 (by omega)) (by omega)
end GC
