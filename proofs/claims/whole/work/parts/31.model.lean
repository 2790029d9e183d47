/-! THE REFERENCE as one state: S.1 k the number in its field k, S.2 k the contents of the array in its field k; rm_md: the picture in which the reference stands so, over a picture G0 of all else -/
abbrev rm_S : Type := (Nat → Int32) × (Nat → Nat → Int32)
def rm_pf (S : rm_S) (k : Nat) (v : Int32) : rm_S := (fun j => if j = k then v else S.1 j, S.2)
def rm_pa (S : rm_S) (k i : Nat) (v : Int32) : rm_S := (S.1, fun j => if j = k then upd (S.2 k) i v else S.2 j)
def rm_fs (ad : Nat → Nat) (c : Nat → Int32) : List Value := [.int (c 0), .int (c 1), .ref (ad 2), .int (c 3), .ref (ad 4), .int (c 5), .int (c 6), .int (c 7), .int (c 8), .ref (ad 9), .ref (ad 10), .ref (ad 11), .ref (ad 12), .ref (ad 13), .ref (ad 14), .int (c 15), .ref (ad 16), .int (c 17), .ref (ad 18), .ref (ad 19), .ref (ad 20), .ref (ad 21), .ref (ad 22), .ref (ad 23), .ref (ad 24), .ref (ad 25), .int (c 26), .ref (ad 27), .ref (ad 28), .int (c 29), .ref (ad 30), .int (c 31), .ref (ad 32), .int (c 33), .int (c 34), .int (c 35), .ref (ad 36), .int (c 37), .ref (ad 38), .int (c 39), .ref (ad 40), .ref (ad 41), .ref (ad 42), .int (c 43), .ref (ad 44), .int (c 45), .int (c 46), .int (c 47), .ref (ad 48), .int (c 49), .int (c 50), .int (c 51), .ref (ad 52), .int (c 53), .int (c 54), .int (c 55), .int (c 56)]
def rm_ar : Nat → Option (Nat × Nat) := fun j => match j with
  | 2 => some (1, 90)
  | 4 => some (1, 90)
  | 9 => some (0, 300)
  | 10 => some (0, 300)
  | 11 => some (0, 300)
  | 12 => some (0, 300)
  | 13 => some (0, 300)
  | 14 => some (2, 300)
  | 16 => some (1, 100)
  | 18 => some (0, 8)
  | 19 => some (0, 8)
  | 20 => some (0, 8)
  | 21 => some (0, 8)
  | 22 => some (0, 8)
  | 23 => some (1, 8)
  | 24 => some (2, 8)
  | 25 => some (0, 8)
  | 27 => some (0, 60)
  | 28 => some (0, 60)
  | 30 => some (0, 100)
  | 32 => some (1, 100)
  | 36 => some (0, 372)
  | 38 => some (0, 372)
  | 40 => some (0, 600)
  | 41 => some (0, 600)
  | 42 => some (0, 600)
  | 44 => some (0, 400)
  | 48 => some (0, 400)
  | 52 => some (0, 40)
  | _ => none
def rm_js : List Nat := [2, 4, 9, 10, 11, 12, 13, 14, 16, 18, 19, 20, 21, 22, 23, 24, 25, 27, 28, 30, 32, 36, 38, 40, 41, 42, 44, 48, 52]
def rm_A (mo : Nat) (ad : Nat → Nat) : Prop := (∀ i ∈ rm_js, ∀ j ∈ rm_js, ad i = ad j → i = j) ∧ ∀ j ∈ rm_js, ad j ≠ mo
def rm_md (mo : Nat) (ad : Nat → Nat) (S : rm_S) (G0 : cj_G) : cj_G := fun a => if a = mo then some (.inr (7, rm_fs ad S.1)) else match rm_js.find? (fun j => ad j == a) with
  | some j => match rm_ar j with
    | some (t, n) => some (.inl (t, n, .inl (S.2 j)))
    | none => none
  | none => G0 a
theorem rm_js_ar {j t n : Nat} (h : rm_ar j = some (t, n)) : j ∈ rm_js := by
  unfold rm_ar at h
  split at h <;> first | (simp [rm_js]; done) | cases h
theorem rm_js_some {j : Nat} (h : j ∈ rm_js) : ∃ t n, rm_ar j = some (t, n) := by
  simp only [rm_js, List.mem_cons, List.not_mem_nil, or_false] at h
  rcases h with rfl | rfl | rfl | rfl | rfl | rfl | rfl | rfl | rfl | rfl | rfl | rfl | rfl | rfl | rfl | rfl | rfl | rfl | rfl | rfl | rfl | rfl | rfl | rfl | rfl | rfl | rfl | rfl | rfl <;> exact ⟨_, _, rfl⟩
section RM
variable {mo : Nat} {ad : Nat → Nat} {S : rm_S} {G0 : cj_G}
theorem rm_mo : rm_md mo ad S G0 mo = some (.inr (7, rm_fs ad S.1)) := by simp [rm_md]
theorem rm_find (hA : rm_A mo ad) {j : Nat} (hj : j ∈ rm_js) : rm_js.find? (fun i => ad i == ad j) = some j := by
  cases h : rm_js.find? (fun i => ad i == ad j) with
  | none => exact absurd (List.find?_eq_none.mp h j hj) (by simp)
  | some i =>
    have h1 := List.find?_some h
    have h2 := List.mem_of_find?_eq_some h
    rw [hA.1 i h2 j hj (by simpa using h1)]
theorem rm_at (hA : rm_A mo ad) {j t n : Nat} (hj : rm_ar j = some (t, n)) : rm_md mo ad S G0 (ad j) = some (.inl (t, n, .inl (S.2 j))) := by
  have hm := rm_js_ar hj
  simp only [rm_md, if_neg (hA.2 j hm), rm_find hA hm, hj]
theorem rm_up {k : Nat} {v : Int32} (hk : (rm_fs ad S.1).set k (.int v) = rm_fs ad (rm_pf S k v).1) : cj_up (rm_md mo ad S G0) mo (.inr (7, (rm_fs ad S.1).set k (.int v))) = rm_md mo ad (rm_pf S k v) G0 := by
  funext a
  by_cases h : a = mo
  · subst h; rw [cj_up_s, rm_mo, hk]
  · rw [cj_up_n h]; simp only [rm_md, if_neg h]; rfl
theorem rm_ua (hA : rm_A mo ad) {j t n i : Nat} {v : Int32} (hj : rm_ar j = some (t, n)) : cj_up (rm_md mo ad S G0) (ad j) (.inl (t, n, .inl (upd (S.2 j) i v))) = rm_md mo ad (rm_pa S j i v) G0 := by
  have hm := rm_js_ar hj
  funext a
  by_cases h : a = ad j
  · subst h; rw [cj_up_s, rm_at hA hj]; simp [rm_pa]
  · rw [cj_up_n h]
    by_cases h2 : a = mo
    · subst h2; rw [rm_mo, rm_mo]; rfl
    · simp only [rm_md, if_neg h2]
      cases h3 : rm_js.find? (fun i => ad i == a) with
      | none => rfl
      | some q =>
        have h4 := List.find?_some h3
        have h5 : ¬ q = j := fun e => h (by subst e; exact (by simpa using h4 : ad q = a).symm)
        simp [rm_pa, h5]
/-- what stands elsewhere -/
theorem rm_else {a : Nat} (h1 : a ≠ mo) (h2 : ∀ j ∈ rm_js, ad j ≠ a) : rm_md mo ad S G0 a = G0 a := by
  have h3 : rm_js.find? (fun j => ad j == a) = none := List.find?_eq_none.mpr (fun j hj => by simpa using h2 j hj)
  simp only [rm_md, if_neg h1, h3]
/-- a picture in which the reference stands so is such a picture -/
theorem rm_self {G : cj_G} (h1 : G mo = some (.inr (7, rm_fs ad S.1))) (h2 : ∀ j ∈ rm_js, ∀ t n : Nat, rm_ar j = some (t, n) → G (ad j) = some (.inl (t, n, .inl (S.2 j)))) : G = rm_md mo ad S G := by
  funext a
  by_cases h : a = mo
  · subst h; rw [rm_mo]; exact h1
  · simp only [rm_md, if_neg h]
    cases h3 : rm_js.find? (fun j => ad j == a) with
    | none => rfl
    | some q =>
      have h4 := List.find?_some h3
      have h5 := List.mem_of_find?_eq_some h3
      obtain ⟨t, n, ht⟩ := rm_js_some h5
      have h6 : ad q = a := by simpa using h4
      show G a = match rm_ar q with
        | some (t, n) => some (Sum.inl (t, n, Sum.inl (S.2 q)))
        | none => none
      rw [ht, ← h6]
      exact h2 q h5 t n ht
end RM
section RMJ
variable {M : cj_M} {d k0 n0 k n pc : Nat} {Qr : Option Value → cj_G → Prop} {Qx : String → cj_G → Prop} {lv : List (Nat × Value)} {st : List Value} {mo : Nat} {ad : Nat → Nat} {S : rm_S} {G0 : cj_G}
theorem rm_get {index kf : Nat} {ty : FieldType} {fin : Bool} (v : Value) (hf : cj_fl M.1.cls index 7 kf ty fin) (hd : decode M.2.1 pc = .ok (.getfield index, 3)) (hv : (rm_fs ad S.1)[kf]? = some v) (kk : cj_J M d k0 n0 Qr Qx k n (pc + 3) lv (v :: st) (rm_md mo ad S G0)) : cj_J M d k0 n0 Qr Qx k n pc lv (.ref mo :: st) (rm_md mo ad S G0) := cj_get hf hd rm_mo hv kk
theorem rm_put {index kf : Nat} {ty : FieldType} {v : Int32} (hf : cj_fl M.1.cls index 7 kf ty false) (hd : decode M.2.1 pc = .ok (.putfield index, 3)) (hk : ∀ (S : rm_S) (v : Int32), (rm_fs ad S.1).set kf (.int v) = rm_fs ad (rm_pf S kf v).1) (hnw : narrow ty (.int v) = .int v) (hft : fits ty (.int v) = true) (hlen : kf < 57) (kk : cj_J M d k0 n0 Qr Qx k n (pc + 3) lv st (rm_md mo ad (rm_pf S kf v) G0)) : cj_J M d k0 n0 Qr Qx k n pc lv (.int v :: .ref mo :: st) (rm_md mo ad S G0) :=
  cj_put hf hd rm_mo hnw hft hlen (cj_eqG (rm_up (hk S v)) kk)
theorem rm_iald {j z : Nat} {i x : Int32} (hA : rm_A mo ad) (hj : rm_ar j = some (0, z)) (hd : decode M.2.1 pc = .ok (.iaload, 1)) (hin : vp_in i z) (hx : S.2 j i.toNatClampNeg = x) (kk : cj_J M d k0 n0 Qr Qx k n (pc + 1) lv (.int x :: st) (rm_md mo ad S G0)) : cj_J M d k0 n0 Qr Qx k n pc lv (.int i :: .ref (ad j) :: st) (rm_md mo ad S G0) := by
  subst hx; exact cj_iald hd (rm_at hA hj) hin kk
theorem rm_cald {j z : Nat} {i x : Int32} (hA : rm_A mo ad) (hj : rm_ar j = some (1, z)) (hd : decode M.2.1 pc = .ok (.caload, 1)) (hin : vp_in i z) (hx : S.2 j i.toNatClampNeg = x) (kk : cj_J M d k0 n0 Qr Qx k n (pc + 1) lv (.int x :: st) (rm_md mo ad S G0)) : cj_J M d k0 n0 Qr Qx k n pc lv (.int i :: .ref (ad j) :: st) (rm_md mo ad S G0) := by
  subst hx; exact cj_cald hd (rm_at hA hj) hin kk
theorem rm_zald {j z : Nat} {i x : Int32} (hA : rm_A mo ad) (hj : rm_ar j = some (2, z)) (hd : decode M.2.1 pc = .ok (.baload, 1)) (hin : vp_in i z) (hx : S.2 j i.toNatClampNeg = x) (kk : cj_J M d k0 n0 Qr Qx k n (pc + 1) lv (.int x :: st) (rm_md mo ad S G0)) : cj_J M d k0 n0 Qr Qx k n pc lv (.int i :: .ref (ad j) :: st) (rm_md mo ad S G0) := by
  subst hx; exact cj_zald hd (rm_at hA hj) hin kk
theorem rm_iast {j z : Nat} {i x : Int32} (hA : rm_A mo ad) (hj : rm_ar j = some (0, z)) (hd : decode M.2.1 pc = .ok (.iastore, 1)) (hin : vp_in i z) (kk : cj_J M d k0 n0 Qr Qx k n (pc + 1) lv st (rm_md mo ad (rm_pa S j i.toNatClampNeg x) G0)) : cj_J M d k0 n0 Qr Qx k n pc lv (.int x :: .int i :: .ref (ad j) :: st) (rm_md mo ad S G0) :=
  cj_iast hd (rm_at hA hj) hin (cj_eqG (rm_ua hA hj) kk)
theorem rm_cast {j z : Nat} {i x : Int32} (hA : rm_A mo ad) (hj : rm_ar j = some (1, z)) (hd : decode M.2.1 pc = .ok (.castore, 1)) (hin : vp_in i z) (kk : cj_J M d k0 n0 Qr Qx k n (pc + 1) lv st (rm_md mo ad (rm_pa S j i.toNatClampNeg (vp_nar .char x)) G0)) : cj_J M d k0 n0 Qr Qx k n pc lv (.int x :: .int i :: .ref (ad j) :: st) (rm_md mo ad S G0) :=
  cj_cast hd (rm_at hA hj) hin (cj_eqG (rm_ua hA hj) kk)
theorem rm_zast {j z : Nat} {i x : Int32} (hA : rm_A mo ad) (hj : rm_ar j = some (2, z)) (hd : decode M.2.1 pc = .ok (.bastore, 1)) (hin : vp_in i z) (kk : cj_J M d k0 n0 Qr Qx k n (pc + 1) lv st (rm_md mo ad (rm_pa S j i.toNatClampNeg (vp_nar .boolean x)) G0)) : cj_J M d k0 n0 Qr Qx k n pc lv (.int x :: .int i :: .ref (ad j) :: st) (rm_md mo ad S G0) :=
  cj_zast hd (rm_at hA hj) hin (cj_eqG (rm_ua hA hj) kk)
end RMJ
/-- a number that a char can be -/
def rm_c (x : Int32) : Prop := narrow .char (.int x) = .int x
theorem rmp_0 {ad : Nat → Nat} (S : rm_S) (v : Int32) : (rm_fs ad S.1).set 0 (.int v) = rm_fs ad (rm_pf S 0 v).1 := rfl
theorem rmp_1 {ad : Nat → Nat} (S : rm_S) (v : Int32) : (rm_fs ad S.1).set 1 (.int v) = rm_fs ad (rm_pf S 1 v).1 := rfl
theorem rmp_3 {ad : Nat → Nat} (S : rm_S) (v : Int32) : (rm_fs ad S.1).set 3 (.int v) = rm_fs ad (rm_pf S 3 v).1 := rfl
theorem rmp_5 {ad : Nat → Nat} (S : rm_S) (v : Int32) : (rm_fs ad S.1).set 5 (.int v) = rm_fs ad (rm_pf S 5 v).1 := rfl
theorem rmp_6 {ad : Nat → Nat} (S : rm_S) (v : Int32) : (rm_fs ad S.1).set 6 (.int v) = rm_fs ad (rm_pf S 6 v).1 := rfl
theorem rmp_7 {ad : Nat → Nat} (S : rm_S) (v : Int32) : (rm_fs ad S.1).set 7 (.int v) = rm_fs ad (rm_pf S 7 v).1 := rfl
theorem rmp_8 {ad : Nat → Nat} (S : rm_S) (v : Int32) : (rm_fs ad S.1).set 8 (.int v) = rm_fs ad (rm_pf S 8 v).1 := rfl
theorem rmp_15 {ad : Nat → Nat} (S : rm_S) (v : Int32) : (rm_fs ad S.1).set 15 (.int v) = rm_fs ad (rm_pf S 15 v).1 := rfl
theorem rmp_17 {ad : Nat → Nat} (S : rm_S) (v : Int32) : (rm_fs ad S.1).set 17 (.int v) = rm_fs ad (rm_pf S 17 v).1 := rfl
theorem rmp_26 {ad : Nat → Nat} (S : rm_S) (v : Int32) : (rm_fs ad S.1).set 26 (.int v) = rm_fs ad (rm_pf S 26 v).1 := rfl
theorem rmp_29 {ad : Nat → Nat} (S : rm_S) (v : Int32) : (rm_fs ad S.1).set 29 (.int v) = rm_fs ad (rm_pf S 29 v).1 := rfl
theorem rmp_31 {ad : Nat → Nat} (S : rm_S) (v : Int32) : (rm_fs ad S.1).set 31 (.int v) = rm_fs ad (rm_pf S 31 v).1 := rfl
theorem rmp_33 {ad : Nat → Nat} (S : rm_S) (v : Int32) : (rm_fs ad S.1).set 33 (.int v) = rm_fs ad (rm_pf S 33 v).1 := rfl
theorem rmp_34 {ad : Nat → Nat} (S : rm_S) (v : Int32) : (rm_fs ad S.1).set 34 (.int v) = rm_fs ad (rm_pf S 34 v).1 := rfl
theorem rmp_35 {ad : Nat → Nat} (S : rm_S) (v : Int32) : (rm_fs ad S.1).set 35 (.int v) = rm_fs ad (rm_pf S 35 v).1 := rfl
theorem rmp_37 {ad : Nat → Nat} (S : rm_S) (v : Int32) : (rm_fs ad S.1).set 37 (.int v) = rm_fs ad (rm_pf S 37 v).1 := rfl
theorem rmp_39 {ad : Nat → Nat} (S : rm_S) (v : Int32) : (rm_fs ad S.1).set 39 (.int v) = rm_fs ad (rm_pf S 39 v).1 := rfl
theorem rmp_43 {ad : Nat → Nat} (S : rm_S) (v : Int32) : (rm_fs ad S.1).set 43 (.int v) = rm_fs ad (rm_pf S 43 v).1 := rfl
theorem rmp_45 {ad : Nat → Nat} (S : rm_S) (v : Int32) : (rm_fs ad S.1).set 45 (.int v) = rm_fs ad (rm_pf S 45 v).1 := rfl
theorem rmp_46 {ad : Nat → Nat} (S : rm_S) (v : Int32) : (rm_fs ad S.1).set 46 (.int v) = rm_fs ad (rm_pf S 46 v).1 := rfl
theorem rmp_47 {ad : Nat → Nat} (S : rm_S) (v : Int32) : (rm_fs ad S.1).set 47 (.int v) = rm_fs ad (rm_pf S 47 v).1 := rfl
theorem rmp_49 {ad : Nat → Nat} (S : rm_S) (v : Int32) : (rm_fs ad S.1).set 49 (.int v) = rm_fs ad (rm_pf S 49 v).1 := rfl
theorem rmp_50 {ad : Nat → Nat} (S : rm_S) (v : Int32) : (rm_fs ad S.1).set 50 (.int v) = rm_fs ad (rm_pf S 50 v).1 := rfl
theorem rmp_51 {ad : Nat → Nat} (S : rm_S) (v : Int32) : (rm_fs ad S.1).set 51 (.int v) = rm_fs ad (rm_pf S 51 v).1 := rfl
theorem rmp_53 {ad : Nat → Nat} (S : rm_S) (v : Int32) : (rm_fs ad S.1).set 53 (.int v) = rm_fs ad (rm_pf S 53 v).1 := rfl
theorem rmp_54 {ad : Nat → Nat} (S : rm_S) (v : Int32) : (rm_fs ad S.1).set 54 (.int v) = rm_fs ad (rm_pf S 54 v).1 := rfl
theorem rmp_55 {ad : Nat → Nat} (S : rm_S) (v : Int32) : (rm_fs ad S.1).set 55 (.int v) = rm_fs ad (rm_pf S 55 v).1 := rfl
theorem rmp_56 {ad : Nat → Nat} (S : rm_S) (v : Int32) : (rm_fs ad S.1).set 56 (.int v) = rm_fs ad (rm_pf S 56 v).1 := rfl
def rm_post (mo : Nat) (ad : Nat → Nat) (G0 : cj_G) (Q : rm_S → Prop) : Option Value → cj_G → Prop := fun v G' => ∃ S' : rm_S, v = none ∧ G' = rm_md mo ad S' G0 ∧ Q S'
def rm_posti (mo : Nat) (ad : Nat → Nat) (G0 : cj_G) (Q : Int32 → rm_S → Prop) : Option Value → cj_G → Prop := fun v G' => ∃ (x : Int32) (S' : rm_S), v = some (.int x) ∧ G' = rm_md mo ad S' G0 ∧ Q x S'
def rm_posts (G : cj_G) (Q : Int32 → Prop) : Option Value → cj_G → Prop := fun v G' => ∃ x : Int32, v = some (.int x) ∧ G' = G ∧ Q x
theorem rm_sw {x : Int32} {k : Nat} (hk : k < 2 ^ 31) (h : ¬ x = nI k) : x.toInt ≠ (k : Int) := fun e => h (Int32.toInt_inj.mp (by rw [e, nI_toInt hk]))
