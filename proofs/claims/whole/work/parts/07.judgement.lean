/-! THE JUDGEMENT. A picture cj_G of the heap is a function: what thing lies at an address. cj_J says of a place in a method: from here, with this picture, the method comes to its end, returns v with a picture G' such that Qr v G', or throws a thing of the kind E with Qx E G'. cj_T is the contract of a method, cj_J the walk of its body. -/
abbrev cj_E : Type := (Nat × vp_A) ⊕ (Nat × List Value)
abbrev cj_G : Type := Nat → Option cj_E
def cj_tl : List FieldType := [.int, .char, .boolean, .long]
def cj_cd (tys : List (ClassId × FieldType)) (t : Nat) : ClassId := match tys[t]? with
  | some q => q.1
  | none => default
def cj_tr (tys : List (ClassId × FieldType)) : cj_E → va_E
  | .inl (t, a) => .inl (cj_cd tys t, a)
  | .inr o => .inr o
def cj_is (tys : List (ClassId × FieldType)) (ws : va_W) (G : cj_G) : Prop := (∀ (a : Nat) (x : cj_E), G a = some x → ∃ k : Nat, ws[k]? = some (a, cj_tr tys x)) ∧ ∀ (k a : Nat) (e : va_E), ws[k]? = some (a, e) → ∃ x : cj_E, G a = some x
def cj_up (G : cj_G) (a : Nat) (x : cj_E) : cj_G := fun b => if b = a then some x else G b
theorem cj_up_s {G : cj_G} {a : Nat} {x : cj_E} : cj_up G a x a = some x := by simp [cj_up]
theorem cj_up_n {G : cj_G} {a b : Nat} {x : cj_E} (h : b ≠ a) : cj_up G a x b = G b := by simp [cj_up, h]
theorem cj_up_ne {G : cj_G} {a b : Nat} {x e : cj_E} (hb : G b = some e) (ha : G a = none) : cj_up G a x b = some e := by
  have h : b ≠ a := fun h => by rw [h, ha] at hb; cases hb
  rw [cj_up_n h]; exact hb
theorem cj_is.set {tys : List (ClassId × FieldType)} {ws : va_W} {G : cj_G} {A : Nat → Prop} {k a : Nat} {e0 : va_E} {x : cj_E} (h : cj_is tys ws G) (hD : va_D A ws) (hk : ws[k]? = some (a, e0)) : cj_is tys (ws.set k (a, cj_tr tys x)) (cj_up G a x) := by
  have hlt : k < ws.length := (List.getElem?_eq_some_iff.mp hk).1
  refine ⟨fun b y hb => ?_, fun j b e hj => ?_⟩
  · by_cases hba : b = a
    · subst hba
      rw [cj_up_s] at hb
      cases hb
      exact ⟨k, by simp [List.getElem?_set, hlt]⟩
    · rw [cj_up_n hba] at hb
      obtain ⟨j, hj⟩ := h.1 b y hb
      have hjk : k ≠ j := fun e => by subst e; rw [hk] at hj; cases hj; exact hba rfl
      exact ⟨j, by rw [List.getElem?_set_ne hjk]; exact hj⟩
  · by_cases hjk : k = j
    · subst hjk
      simp [List.getElem?_set, hlt] at hj
      exact ⟨x, by rw [← hj.1]; exact cj_up_s⟩
    · rw [List.getElem?_set_ne hjk] at hj
      obtain ⟨y, hy⟩ := h.2 j b e hj
      have hba : b ≠ a := fun e9 => hjk (hD.1 k j _ _ hk hj e9.symm)
      exact ⟨y, by rw [cj_up_n hba]; exact hy⟩
theorem cj_is.push {tys : List (ClassId × FieldType)} {ws : va_W} {G : cj_G} {A : Nat → Prop} {q : Nat} {x : cj_E} (h : cj_is tys ws G) (hD : va_D A (ws ++ [(q, cj_tr tys x)])) : cj_is tys (ws ++ [(q, cj_tr tys x)]) (cj_up G q x) ∧ G q = none := by
  have hq : G q = none := by
    cases hg : G q with
    | none => rfl
    | some y =>
      obtain ⟨k, hk⟩ := h.1 q y hg
      have hlt : k < ws.length := (List.getElem?_eq_some_iff.mp hk).1
      have h1 : (ws ++ [(q, cj_tr tys x)])[k]? = some (q, cj_tr tys y) := by rw [List.getElem?_append_left hlt]; exact hk
      have h2 : (ws ++ [(q, cj_tr tys x)])[ws.length]? = some (q, cj_tr tys x) := by simp
      have := hD.1 k ws.length _ _ h1 h2 rfl
      omega
  refine ⟨⟨fun b y hb => ?_, fun j b e hj => ?_⟩, hq⟩
  · by_cases hba : b = q
    · subst hba
      rw [cj_up_s] at hb
      cases hb
      exact ⟨ws.length, by simp⟩
    · rw [cj_up_n hba] at hb
      obtain ⟨j, hj⟩ := h.1 b y hb
      have hlt : j < ws.length := (List.getElem?_eq_some_iff.mp hj).1
      exact ⟨j, by rw [List.getElem?_append_left hlt]; exact hj⟩
  · by_cases hba : b = q
    · subst hba; exact ⟨x, cj_up_s⟩
    · rcases Nat.lt_or_ge j ws.length with hlt | hge
      · rw [List.getElem?_append_left hlt] at hj
        obtain ⟨y, hy⟩ := h.2 j b e hj
        exact ⟨y, by rw [cj_up_n hba]; exact hy⟩
      · rw [List.getElem?_append_right hge] at hj
        rcases Nat.eq_zero_or_pos (j - ws.length) with h0 | h0
        · rw [h0] at hj
          simp at hj
          exact absurd hj.1.symm hba
        · obtain ⟨n9, hn9⟩ := Nat.exists_eq_succ_of_ne_zero (Nat.pos_iff_ne_zero.mp h0)
          rw [hn9] at hj
          simp at hj
/-- the heap H has the picture G; its things lie in A -/
def cj_W (D : va_G) (tys : List (ClassId × FieldType)) (A : Nat → Prop) (G : cj_G) (H : Heap) : Prop := ∃ ws : va_W, va_P D vwCl ws H ∧ va_D A ws ∧ cj_is tys ws G
theorem cj_W.weaken {D : va_G} {tys : List (ClassId × FieldType)} {A B : Nat → Prop} {G : cj_G} {H : Heap} (h : cj_W D tys A G H) (hAB : ∀ q, A q → B q) : cj_W D tys B G H := by
  obtain ⟨ws, h1, h2, h3⟩ := h
  exact ⟨ws, h1, h2.weaken (fun _ _ _ h => hAB _ h), h3⟩
theorem cj_W.lt {D : va_G} {tys : List (ClassId × FieldType)} {A : Nat → Prop} {G : cj_G} {H : Heap} (h : cj_W D tys A G H) {a : Nat} {x : cj_E} (ha : G a = some x) : a < H.size ∧ A a := by
  obtain ⟨ws, h1, h2, h3⟩ := h
  obtain ⟨k, hk⟩ := h3.1 a x ha
  exact ⟨(h1 k _ hk).lt, h2.2 k _ hk⟩
theorem cj_W.kept {D : va_G} {tys : List (ClassId × FieldType)} {A : Nat → Prop} {G : cj_G} {H H1 : Heap} (h : cj_W D tys A G H) (hq : ∀ q : Nat, q < H.size → H1[q]? = H[q]?) : cj_W D tys A G H1 := by
  obtain ⟨ws, h1, h2, h3⟩ := h
  exact ⟨ws, h1.kept (fun k q hk => hq _ (h1 k q hk).lt), h2, h3⟩
/-- the words that every method is given: the good ones of the tables -/
def cj_all : List Cond := lw_tbl.filter goodWord
theorem cj_all_of {w : Cond} (h : w ∈ lw_tbl) (g : goodWord w = true) : w ∈ cj_all := List.mem_filter.mpr ⟨h, g⟩
/-- a method: its name, bytes, number of locals, kind of answer -/
abbrev cj_M : Type := MethodName × ByteArray × Nat × Option FieldType
def cj_ws (M : cj_M) : List Cond := .code M.1 M.2.1 M.2.2.1 M.2.2.2 :: cj_all
def cj_rm (d k n : Nat) : Room := { frames := d, cells := k, slots := n, locals := 48 * d }
/-- the links between nest mates -/
def cj_nest : List (String × Nat × MethodName) := [(RX6, 19, yX3_init), (RX6, 26, yX0_init), (RX1, 50, yX6_isTag), (RX1, 53, yX6_tagOf), (RX1, 56, yX6_isInt), (RX1, 68, yX6_intOf), (RX3, 55, yX4_init), (RX3, 136, yX6_fieldsOf), (RX2, 86, yX6_isInt), (RX2, 98, yX6_fieldsOf), (RX2, 122, yX6_wordOfInt), (RX2, 142, yX6_intOf), (RX2, 151, yX6_wordOfTag)]
def cj_strs : List (String × Nat × String) := [(RX3, 50, "the text is ill"), (RX6, 77, "a run has 0 to 500 instructions"), (RX6, 88, "the machine can't go on"), (RX6, 97, "the machine stopped")]
def cj_exc : List String := ["java/lang/IllegalArgumentException", "java/lang/IllegalStateException", "java/lang/UnsupportedOperationException"]
def cj_dec : List MethodName := [⟨"java/lang/Throwable", "<init>", "(Ljava/lang/String;)V"⟩, ⟨"java/lang/Exception", "<init>", "(Ljava/lang/String;)V"⟩, ⟨"java/lang/RuntimeException", "<init>", "(Ljava/lang/String;)V"⟩]
def cj_B (U : State) : Prop := (∀ q ∈ cj_nest, va_Nw (.methodLinkNest q.1 q.2.1 q.2.2 RX6) U) ∧ (∀ q ∈ cj_strs, ∃ sa : Nat, vk_R q.1 q.2.1 q.2.2 sa U) ∧ (∀ X ∈ cj_exc, va_Nw (.castable X X) U) ∧ ∀ y ∈ cj_dec, va_Nw (.declares y) U
theorem cj_B.warm {s U : State} (hW : s.WarmedH U.vm) (h : cj_B s) : cj_B U := ⟨fun q hq => va_Nw.warmM hW (h.1 q hq), fun q hq => by obtain ⟨sa, h1⟩ := h.2.1 q hq; exact ⟨sa, vk_R.warm hW h1⟩, fun X hX => va_Nw.warmC hW (h.2.2.1 X hX), fun y hy => va_Nw.warmD hW (h.2.2.2 y hy)⟩
def cj_Z (A : Nat → Prop) (U : State) (H : Heap) : Prop := vx_Zq Bundle.tN "UNASSIGNED_STACK" Bundle.steD A U H ∧ vx_Zq Bundle.tN "SUPPRESSED_SENTINEL" Bundle.listD A U H
def cj_A (G : cj_G) (sz : Nat) : Nat → Prop := fun q => G q ≠ none ∨ sz ≤ q
def cj_P (D : va_G) (tys : List (ClassId × FieldType)) (G : cj_G) (sz : Nat) : State → Prop := fun U => U.heap.size = sz ∧ va_K D vwCl tys U ∧ cj_B U ∧ cj_Z (cj_A G sz) U U.heap ∧ cj_W D tys (fun _ => True) G U.heap
def cj_Q (D : va_G) (tys : List (ClassId × FieldType)) (A : Nat → Prop) (Qr : Option Value → cj_G → Prop) : Array Value → State → Outcome → State → Prop := fun _ st o t => (∃ (v : Option Value) (G' : cj_G), o = .returned v ∧ Qr v G' ∧ cj_W D tys A G' t.heap) ∧ va_F A st t
def cj_X (D : va_G) (tys : List (ClassId × FieldType)) (A : Nat → Prop) (Qx : String → cj_G → Prop) : String → State → State → Prop := fun E st t => (∃ G' : cj_G, Qx E G' ∧ cj_W D tys A G' t.heap) ∧ va_F A st t
/-- THE CONTRACT of a method at given arguments and a given picture: d frames, k new cells of n slots are enough -/
def cj_T (M : cj_M) (d k n : Nat) (av : List Value) (G : cj_G) (Qr : Option Value → cj_G → Prop) (Qx : String → cj_G → Prop) : Prop :=
  ∀ l : Launch, l.stackTraces = false → ∀ (D : va_G) (tys : List (ClassId × FieldType)), tys.map (fun q => q.2) = cj_tl → ∀ sz : Nat, vx_Met l M.1 (cj_ws M) (cj_rm d k n) (va_Pc av (cj_P D tys G sz)) (cj_Q D tys (cj_A G sz) Qr) (cj_X D tys (cj_A G sz) Qx) k n (cj_A G sz)
/-- what holds all through a body -/
def cj_C (M : cj_M) (p : Program) (l : Launch) (s : State) (m : MethodId) (args : Array Value) (meth : Method) (c : Code) (D : va_G) (tys : List (ClassId × FieldType)) (A : Nat → Prop) : Prop :=
  p.tables.exec = Jvm.exec ∧ c.code = M.2.1 ∧ c.maxLocals = M.2.2.1 ∧ s.vm.findClass M.1.cls = some m.cls ∧ (∀ w ∈ cj_all, w.before args s = true) ∧ meth.sig.returnType = M.2.2.2 ∧ meth.locks = false ∧ (∀ x ∈ c.exceptionTable.toList, False) ∧ l.stackTraces = false ∧ va_K D vwCl tys s ∧ tys.map (fun q => q.2) = cj_tl ∧ cj_B s ∧ cj_Z A s s.heap ∧ (∀ q, s.heap.size ≤ q → A q) ∧ meth.name = M.1.name
section CJC
variable {M : cj_M} {p : Program} {l : Launch} {s : State} {m : MethodId} {args : Array Value} {meth : Method} {c : Code} {D : va_G} {tys : List (ClassId × FieldType)} {A : Nat → Prop}
theorem cj_C.x (C : cj_C M p l s m args meth c D tys A) : p.tables.exec = Jvm.exec := C.1
theorem cj_C.b (C : cj_C M p l s m args meth c D tys A) : c.code = M.2.1 := C.2.1
theorem cj_C.ml (C : cj_C M p l s m args meth c D tys A) : c.maxLocals = M.2.2.1 := C.2.2.1
theorem cj_C.own (C : cj_C M p l s m args meth c D tys A) : s.vm.findClass M.1.cls = some m.cls := C.2.2.2.1
theorem cj_C.ts (C : cj_C M p l s m args meth c D tys A) : ∀ w ∈ cj_all, w.before args s = true := C.2.2.2.2.1
theorem cj_C.r (C : cj_C M p l s m args meth c D tys A) : meth.sig.returnType = M.2.2.2 := C.2.2.2.2.2.1
theorem cj_C.lk (C : cj_C M p l s m args meth c D tys A) : meth.locks = false := C.2.2.2.2.2.2.1
theorem cj_C.tb (C : cj_C M p l s m args meth c D tys A) : ∀ x ∈ c.exceptionTable.toList, False := C.2.2.2.2.2.2.2.1
theorem cj_C.tr (C : cj_C M p l s m args meth c D tys A) : l.stackTraces = false := C.2.2.2.2.2.2.2.2.1
theorem cj_C.K (C : cj_C M p l s m args meth c D tys A) : va_K D vwCl tys s := C.2.2.2.2.2.2.2.2.2.1
theorem cj_C.ty (C : cj_C M p l s m args meth c D tys A) : tys.map (fun q => q.2) = cj_tl := C.2.2.2.2.2.2.2.2.2.2.1
theorem cj_C.B (C : cj_C M p l s m args meth c D tys A) : cj_B s := C.2.2.2.2.2.2.2.2.2.2.2.1
theorem cj_C.Z (C : cj_C M p l s m args meth c D tys A) : cj_Z A s s.heap := C.2.2.2.2.2.2.2.2.2.2.2.2.1
theorem cj_C.fr (C : cj_C M p l s m args meth c D tys A) : ∀ q, s.heap.size ≤ q → A q := C.2.2.2.2.2.2.2.2.2.2.2.2.2.1
theorem cj_C.nm (C : cj_C M p l s m args meth c D tys A) : meth.name = M.1.name := C.2.2.2.2.2.2.2.2.2.2.2.2.2.2
theorem cj_C.tyAt (C : cj_C M p l s m args meth c D tys A) {t : Nat} {ty : FieldType} (ht : cj_tl[t]? = some ty) : tys[t]? = some (cj_cd tys t, ty) := by
  have h1 : (tys.map (fun q => q.2))[t]? = some ty := by rw [C.ty]; exact ht
  rw [List.getElem?_map] at h1
  cases h2 : tys[t]? with
  | none => rw [h2] at h1; cases h1
  | some q =>
    rw [h2] at h1
    have h3 : q.2 = ty := Option.some.inj h1
    unfold cj_cd
    rw [h2, ← h3]
end CJC
def cj_J (M : cj_M) (d k0 n0 : Nat) (Qr : Option Value → cj_G → Prop) (Qx : String → cj_G → Prop) (k n pc : Nat) (lv : List (Nat × Value)) (st : List Value) (G : cj_G) : Prop :=
  ∀ (p : Program) (l : Launch) (e : Env) (s : State) (m : MethodId) (args : Array Value) (below : List Frame) (meth : Method) (c : Code) (D : va_G) (tys : List (ClassId × FieldType)) (A : Nat → Prop) (H : Heap) (locs : List Loc) (c0 s0 : Nat) (ls : Array Slot),
    cj_C M p l s m args meth c D tys A → cj_W D tys A G H → va_S A s.heap H locs → c0 + k ≤ k0 → s0 + n ≤ n0 → lv_has ls M.2.2.1 lv →
    W p l e (cj_rm d k0 n0) s m args below meth c H locs c0 s0 (vx_MQ below (cj_Q D tys A Qr) (cj_X D tys A Qx) args s k0 n0 A) (F0 m pc ls st)
/-- what the locals' list says of a place -/
def cj_lg : List (Nat × Value) → Nat → Option Value
  | [], _ => none
  | (j, v) :: t, i => if j = i then some v else cj_lg t i
theorem cj_lg_mem {lv : List (Nat × Value)} {i : Nat} {v : Value} (h : cj_lg lv i = some v) : (i, v) ∈ lv := by
  induction lv with
  | nil => cases h
  | cons q t ih =>
    obtain ⟨j, w⟩ := q
    unfold cj_lg at h
    by_cases hj : j = i
    · rw [if_pos hj] at h; cases h; rw [hj]; exact List.mem_cons_self
    · rw [if_neg hj] at h; exact List.mem_cons_of_mem _ (ih h)
theorem cj_lga {ls : Array Slot} {nL : Nat} {lv : List (Nat × Value)} {i : Nat} {v : Value} (h : lv_has ls nL lv) (hl : cj_lg lv i = some v) : ls[i]? = some (.val v) := h.2.2 (i, v) (cj_lg_mem hl)
section CJ
variable {M : cj_M} {d k0 n0 k n pc : Nat} {Qr : Option Value → cj_G → Prop} {Qx : String → cj_G → Prop} {lv lv' : List (Nat × Value)} {st : List Value} {G : cj_G}
/-- fewer locals are known: enough -/
theorem cj_sub (h : ∀ q ∈ lv', q ∈ lv) (kk : cj_J M d k0 n0 Qr Qx k n pc lv' st G) : cj_J M d k0 n0 Qr Qx k n pc lv st G := by
  intro p l e s m args below meth c D tys A H locs c0 s0 ls C W0 S hc hn hl
  exact kk p l e s m args below meth c D tys A H locs c0 s0 ls C W0 S hc hn ⟨hl.1, hl.2.1, fun q hq => hl.2.2 q (h q hq)⟩
theorem cj_fewer {k' n' : Nat} (h1 : k' ≤ k) (h2 : n' ≤ n) (kk : cj_J M d k0 n0 Qr Qx k' n' pc lv st G) : cj_J M d k0 n0 Qr Qx k n pc lv st G := by
  intro p l e s m args below meth c D tys A H locs c0 s0 ls C W0 S hc hn hl
  exact kk p l e s m args below meth c D tys A H locs c0 s0 ls C W0 S (by omega) (by omega) hl
theorem cj_eqG {G' : cj_G} (h : G = G') (kk : cj_J M d k0 n0 Qr Qx k n pc lv st G') : cj_J M d k0 n0 Qr Qx k n pc lv st G := h ▸ kk
theorem cj_iconst {z : Int} {v : Int32} (hd : decode M.2.1 pc = .ok (.iconst z, 1)) (hv : Int32.ofInt z = v) (kk : cj_J M d k0 n0 Qr Qx k n (pc + 1) lv (.int v :: st) G) : cj_J M d k0 n0 Qr Qx k n pc lv st G := by
  intro p l e s m args below meth c D tys A H locs c0 s0 ls C W0 S hc hn hl
  exact lv_iconst C.x C.b hd hv (kk p l e s m args below meth c D tys A H locs c0 s0 ls C W0 S hc hn hl)
theorem cj_bipush {z : Int} {v : Int32} (hd : decode M.2.1 pc = .ok (.bipush z, 2)) (hv : (Int8.ofInt z).toInt32 = v) (kk : cj_J M d k0 n0 Qr Qx k n (pc + 2) lv (.int v :: st) G) : cj_J M d k0 n0 Qr Qx k n pc lv st G := by
  intro p l e s m args below meth c D tys A H locs c0 s0 ls C W0 S hc hn hl
  exact lv_bipush C.x C.b hd hv (kk p l e s m args below meth c D tys A H locs c0 s0 ls C W0 S hc hn hl)
theorem cj_sipush {z : Int} {v : Int32} (hd : decode M.2.1 pc = .ok (.sipush z, 3)) (hv : (Int16.ofInt z).toInt32 = v) (kk : cj_J M d k0 n0 Qr Qx k n (pc + 3) lv (.int v :: st) G) : cj_J M d k0 n0 Qr Qx k n pc lv st G := by
  intro p l e s m args below meth c D tys A H locs c0 s0 ls C W0 S hc hn hl
  exact lv_sipush C.x C.b hd hv (kk p l e s m args below meth c D tys A H locs c0 s0 ls C W0 S hc hn hl)
theorem cj_iload_n {j : Fin 4} {x : Int32} (hd : decode M.2.1 pc = .ok (.iload_n j, 1)) (hg : cj_lg lv j = some (.int x)) (kk : cj_J M d k0 n0 Qr Qx k n (pc + 1) lv (.int x :: st) G) : cj_J M d k0 n0 Qr Qx k n pc lv st G := by
  intro p l e s m args below meth c D tys A H locs c0 s0 ls C W0 S hc hn hl
  exact lv_iload_n C.x C.b hd rfl (cj_lga hl hg) (kk p l e s m args below meth c D tys A H locs c0 s0 ls C W0 S hc hn hl)
theorem cj_iload {i : Nat} {x : Int32} (hd : decode M.2.1 pc = .ok (.iload i, 2)) (hg : cj_lg lv i = some (.int x)) (kk : cj_J M d k0 n0 Qr Qx k n (pc + 2) lv (.int x :: st) G) : cj_J M d k0 n0 Qr Qx k n pc lv st G := by
  intro p l e s m args below meth c D tys A H locs c0 s0 ls C W0 S hc hn hl
  exact lv_iload C.x C.b hd (cj_lga hl hg) (kk p l e s m args below meth c D tys A H locs c0 s0 ls C W0 S hc hn hl)
theorem cj_aload_n {j : Fin 4} {x : Nat} (hd : decode M.2.1 pc = .ok (.aload_n j, 1)) (hg : cj_lg lv j = some (.ref x)) (kk : cj_J M d k0 n0 Qr Qx k n (pc + 1) lv (.ref x :: st) G) : cj_J M d k0 n0 Qr Qx k n pc lv st G := by
  intro p l e s m args below meth c D tys A H locs c0 s0 ls C W0 S hc hn hl
  exact lv_aload_n C.x C.b hd rfl (cj_lga hl hg) (kk p l e s m args below meth c D tys A H locs c0 s0 ls C W0 S hc hn hl)
theorem cj_aload {i : Nat} {x : Nat} (hd : decode M.2.1 pc = .ok (.aload i, 2)) (hg : cj_lg lv i = some (.ref x)) (kk : cj_J M d k0 n0 Qr Qx k n (pc + 2) lv (.ref x :: st) G) : cj_J M d k0 n0 Qr Qx k n pc lv st G := by
  intro p l e s m args below meth c D tys A H locs c0 s0 ls C W0 S hc hn hl
  exact lv_aload C.x C.b hd (cj_lga hl hg) (kk p l e s m args below meth c D tys A H locs c0 s0 ls C W0 S hc hn hl)
theorem cj_aload_nN {j : Fin 4} (hd : decode M.2.1 pc = .ok (.aload_n j, 1)) (hg : cj_lg lv j = some .null) (kk : cj_J M d k0 n0 Qr Qx k n (pc + 1) lv (.null :: st) G) : cj_J M d k0 n0 Qr Qx k n pc lv st G := by
  intro p l e s m args below meth c D tys A H locs c0 s0 ls C W0 S hc hn hl
  exact lv_aload_nN C.x C.b hd rfl (cj_lga hl hg) (kk p l e s m args below meth c D tys A H locs c0 s0 ls C W0 S hc hn hl)
theorem cj_aloadN {i : Nat} (hd : decode M.2.1 pc = .ok (.aload i, 2)) (hg : cj_lg lv i = some .null) (kk : cj_J M d k0 n0 Qr Qx k n (pc + 2) lv (.null :: st) G) : cj_J M d k0 n0 Qr Qx k n pc lv st G := by
  intro p l e s m args below meth c D tys A H locs c0 s0 ls C W0 S hc hn hl
  exact lv_aloadN C.x C.b hd (cj_lga hl hg) (kk p l e s m args below meth c D tys A H locs c0 s0 ls C W0 S hc hn hl)
theorem cj_istore_n {j : Fin 4} {x : Int32} (hd : decode M.2.1 pc = .ok (.istore_n j, 1)) (hi : (j : Nat) < M.2.2.1) (hv : ((j : Nat), Value.int x) :: lv.filter (fun q => !(q.1 == (j : Nat)) && !(q.1 + 1 == (j : Nat) && q.2.category == 2)) = lv') (kk : cj_J M d k0 n0 Qr Qx k n (pc + 1) lv' st G) : cj_J M d k0 n0 Qr Qx k n pc lv (Value.int x :: st) G := by
  intro p l e s m args below meth c D tys A H locs c0 s0 ls C W0 S hc hn hl
  exact lv_istore_n C.x C.b hd rfl hl hi hv (fun ls' hl' => kk p l e s m args below meth c D tys A H locs c0 s0 ls' C W0 S hc hn hl')
theorem cj_istore {i : Nat} {x : Int32} (hd : decode M.2.1 pc = .ok (.istore i, 2)) (hi : i < M.2.2.1) (hv : (i, Value.int x) :: lv.filter (fun q => !(q.1 == i) && !(q.1 + 1 == i && q.2.category == 2)) = lv') (kk : cj_J M d k0 n0 Qr Qx k n (pc + 2) lv' st G) : cj_J M d k0 n0 Qr Qx k n pc lv (Value.int x :: st) G := by
  intro p l e s m args below meth c D tys A H locs c0 s0 ls C W0 S hc hn hl
  exact lv_istore C.x C.b hd hl hi hv (fun ls' hl' => kk p l e s m args below meth c D tys A H locs c0 s0 ls' C W0 S hc hn hl')
theorem cj_astore_n {j : Fin 4} {x : Nat} (hd : decode M.2.1 pc = .ok (.astore_n j, 1)) (hi : (j : Nat) < M.2.2.1) (hv : ((j : Nat), Value.ref x) :: lv.filter (fun q => !(q.1 == (j : Nat)) && !(q.1 + 1 == (j : Nat) && q.2.category == 2)) = lv') (kk : cj_J M d k0 n0 Qr Qx k n (pc + 1) lv' st G) : cj_J M d k0 n0 Qr Qx k n pc lv (Value.ref x :: st) G := by
  intro p l e s m args below meth c D tys A H locs c0 s0 ls C W0 S hc hn hl
  exact lv_astore_n C.x C.b hd rfl hl hi hv (fun ls' hl' => kk p l e s m args below meth c D tys A H locs c0 s0 ls' C W0 S hc hn hl')
theorem cj_astore {i : Nat} {x : Nat} (hd : decode M.2.1 pc = .ok (.astore i, 2)) (hi : i < M.2.2.1) (hv : (i, Value.ref x) :: lv.filter (fun q => !(q.1 == i) && !(q.1 + 1 == i && q.2.category == 2)) = lv') (kk : cj_J M d k0 n0 Qr Qx k n (pc + 2) lv' st G) : cj_J M d k0 n0 Qr Qx k n pc lv (Value.ref x :: st) G := by
  intro p l e s m args below meth c D tys A H locs c0 s0 ls C W0 S hc hn hl
  exact lv_astore C.x C.b hd hl hi hv (fun ls' hl' => kk p l e s m args below meth c D tys A H locs c0 s0 ls' C W0 S hc hn hl')
theorem cj_astore_nN {j : Fin 4} (hd : decode M.2.1 pc = .ok (.astore_n j, 1)) (hi : (j : Nat) < M.2.2.1) (hv : ((j : Nat), Value.null) :: lv.filter (fun q => !(q.1 == (j : Nat)) && !(q.1 + 1 == (j : Nat) && q.2.category == 2)) = lv') (kk : cj_J M d k0 n0 Qr Qx k n (pc + 1) lv' st G) : cj_J M d k0 n0 Qr Qx k n pc lv (Value.null :: st) G := by
  intro p l e s m args below meth c D tys A H locs c0 s0 ls C W0 S hc hn hl
  exact lv_astore_nN C.x C.b hd rfl hl hi hv (fun ls' hl' => kk p l e s m args below meth c D tys A H locs c0 s0 ls' C W0 S hc hn hl')
theorem cj_astoreN {i : Nat} (hd : decode M.2.1 pc = .ok (.astore i, 2)) (hi : i < M.2.2.1) (hv : (i, Value.null) :: lv.filter (fun q => !(q.1 == i) && !(q.1 + 1 == i && q.2.category == 2)) = lv') (kk : cj_J M d k0 n0 Qr Qx k n (pc + 2) lv' st G) : cj_J M d k0 n0 Qr Qx k n pc lv (Value.null :: st) G := by
  intro p l e s m args below meth c D tys A H locs c0 s0 ls C W0 S hc hn hl
  exact lv_astoreN C.x C.b hd hl hi hv (fun ls' hl' => kk p l e s m args below meth c D tys A H locs c0 s0 ls' C W0 S hc hn hl')
theorem cj_iinc {i : Nat} {z : Int} {x v : Int32} (hd : decode M.2.1 pc = .ok (.iinc i z, 3)) (hg : cj_lg lv i = some (.int x)) (hw : x + Int32.ofInt z = v) (hi : i < M.2.2.1) (hv : (i, Value.int v) :: lv.filter (fun q => !(q.1 == i) && !(q.1 + 1 == i && q.2.category == 2)) = lv') (kk : cj_J M d k0 n0 Qr Qx k n (pc + 3) lv' st G) : cj_J M d k0 n0 Qr Qx k n pc lv st G := by
  intro p l e s m args below meth c D tys A H locs c0 s0 ls C W0 S hc hn hl
  obtain ⟨q, hq⟩ := List.getElem?_of_mem (cj_lg_mem hg)
  exact lv_iinc C.x C.b hd hl hq hw hi hv (fun ls' hl' => kk p l e s m args below meth c D tys A H locs c0 s0 ls' C W0 S hc hn hl')
theorem cj_iadd {x y : Int32} (hd : decode M.2.1 pc = .ok (.iadd, 1))  (kk : cj_J M d k0 n0 Qr Qx k n (pc + 1) lv (.int (x + y) :: st) G) : cj_J M d k0 n0 Qr Qx k n pc lv (.int y :: .int x :: st) G := by
  intro p l e s m args below meth c D tys A H locs c0 s0 ls C W0 S hc hn hl
  exact lv_iadd C.x C.b hd (kk p l e s m args below meth c D tys A H locs c0 s0 ls C W0 S hc hn hl)
theorem cj_isub {x y : Int32} (hd : decode M.2.1 pc = .ok (.isub, 1))  (kk : cj_J M d k0 n0 Qr Qx k n (pc + 1) lv (.int (x - y) :: st) G) : cj_J M d k0 n0 Qr Qx k n pc lv (.int y :: .int x :: st) G := by
  intro p l e s m args below meth c D tys A H locs c0 s0 ls C W0 S hc hn hl
  exact lv_isub C.x C.b hd (kk p l e s m args below meth c D tys A H locs c0 s0 ls C W0 S hc hn hl)
theorem cj_imul {x y : Int32} (hd : decode M.2.1 pc = .ok (.imul, 1))  (kk : cj_J M d k0 n0 Qr Qx k n (pc + 1) lv (.int (x * y) :: st) G) : cj_J M d k0 n0 Qr Qx k n pc lv (.int y :: .int x :: st) G := by
  intro p l e s m args below meth c D tys A H locs c0 s0 ls C W0 S hc hn hl
  exact lv_imul C.x C.b hd (kk p l e s m args below meth c D tys A H locs c0 s0 ls C W0 S hc hn hl)
theorem cj_iand {x y : Int32} (hd : decode M.2.1 pc = .ok (.iand, 1))  (kk : cj_J M d k0 n0 Qr Qx k n (pc + 1) lv (.int (x &&& y) :: st) G) : cj_J M d k0 n0 Qr Qx k n pc lv (.int y :: .int x :: st) G := by
  intro p l e s m args below meth c D tys A H locs c0 s0 ls C W0 S hc hn hl
  exact lv_iand C.x C.b hd (kk p l e s m args below meth c D tys A H locs c0 s0 ls C W0 S hc hn hl)
theorem cj_ior {x y : Int32} (hd : decode M.2.1 pc = .ok (.ior, 1))  (kk : cj_J M d k0 n0 Qr Qx k n (pc + 1) lv (.int (x ||| y) :: st) G) : cj_J M d k0 n0 Qr Qx k n pc lv (.int y :: .int x :: st) G := by
  intro p l e s m args below meth c D tys A H locs c0 s0 ls C W0 S hc hn hl
  exact lv_ior C.x C.b hd (kk p l e s m args below meth c D tys A H locs c0 s0 ls C W0 S hc hn hl)
theorem cj_ixor {x y : Int32} (hd : decode M.2.1 pc = .ok (.ixor, 1))  (kk : cj_J M d k0 n0 Qr Qx k n (pc + 1) lv (.int (x ^^^ y) :: st) G) : cj_J M d k0 n0 Qr Qx k n pc lv (.int y :: .int x :: st) G := by
  intro p l e s m args below meth c D tys A H locs c0 s0 ls C W0 S hc hn hl
  exact lv_ixor C.x C.b hd (kk p l e s m args below meth c D tys A H locs c0 s0 ls C W0 S hc hn hl)
theorem cj_ishl {x y : Int32} (hd : decode M.2.1 pc = .ok (.ishl, 1))  (kk : cj_J M d k0 n0 Qr Qx k n (pc + 1) lv (.int (x <<< (y &&& 31)) :: st) G) : cj_J M d k0 n0 Qr Qx k n pc lv (.int y :: .int x :: st) G := by
  intro p l e s m args below meth c D tys A H locs c0 s0 ls C W0 S hc hn hl
  exact lv_ishl C.x C.b hd (kk p l e s m args below meth c D tys A H locs c0 s0 ls C W0 S hc hn hl)
theorem cj_ishr {x y : Int32} (hd : decode M.2.1 pc = .ok (.ishr, 1))  (kk : cj_J M d k0 n0 Qr Qx k n (pc + 1) lv (.int (x >>> (y &&& 31)) :: st) G) : cj_J M d k0 n0 Qr Qx k n pc lv (.int y :: .int x :: st) G := by
  intro p l e s m args below meth c D tys A H locs c0 s0 ls C W0 S hc hn hl
  exact lv_ishr C.x C.b hd (kk p l e s m args below meth c D tys A H locs c0 s0 ls C W0 S hc hn hl)
theorem cj_idiv {x y : Int32} (hd : decode M.2.1 pc = .ok (.idiv, 1)) (h0 : ¬ y = 0) (kk : cj_J M d k0 n0 Qr Qx k n (pc + 1) lv (.int (x / y) :: st) G) : cj_J M d k0 n0 Qr Qx k n pc lv (.int y :: .int x :: st) G := by
  intro p l e s m args below meth c D tys A H locs c0 s0 ls C W0 S hc hn hl
  exact lv_idiv C.x C.b hd h0 (kk p l e s m args below meth c D tys A H locs c0 s0 ls C W0 S hc hn hl)
theorem cj_irem {x y : Int32} (hd : decode M.2.1 pc = .ok (.irem, 1)) (h0 : ¬ y = 0) (kk : cj_J M d k0 n0 Qr Qx k n (pc + 1) lv (.int (x - x / y * y) :: st) G) : cj_J M d k0 n0 Qr Qx k n pc lv (.int y :: .int x :: st) G := by
  intro p l e s m args below meth c D tys A H locs c0 s0 ls C W0 S hc hn hl
  exact lv_irem C.x C.b hd h0 (kk p l e s m args below meth c D tys A H locs c0 s0 ls C W0 S hc hn hl)
theorem cj_ineg {x : Int32} (hd : decode M.2.1 pc = .ok (.ineg, 1))  (kk : cj_J M d k0 n0 Qr Qx k n (pc + 1) lv (.int (-x) :: st) G) : cj_J M d k0 n0 Qr Qx k n pc lv (.int x :: st) G := by
  intro p l e s m args below meth c D tys A H locs c0 s0 ls C W0 S hc hn hl
  exact lv_ineg C.x C.b hd (kk p l e s m args below meth c D tys A H locs c0 s0 ls C W0 S hc hn hl)
theorem cj_iushr {x y v : Int32} (hd : decode M.2.1 pc = .ok (.iushr, 1)) (hv : (x.toUInt32 >>> (y.toUInt32 &&& Int32.toUInt32 31)).toInt32 = v) (kk : cj_J M d k0 n0 Qr Qx k n (pc + 1) lv (.int v :: st) G) : cj_J M d k0 n0 Qr Qx k n pc lv (.int y :: .int x :: st) G := by
  intro p l e s m args below meth c D tys A H locs c0 s0 ls C W0 S hc hn hl
  exact lv_iushr C.x C.b hd hv (kk p l e s m args below meth c D tys A H locs c0 s0 ls C W0 S hc hn hl)
theorem cj_i2c {x v : Int32} (hd : decode M.2.1 pc = .ok (.i2c, 1)) (hv : (x.toUInt32 % 65536).toInt32 = v) (kk : cj_J M d k0 n0 Qr Qx k n (pc + 1) lv (.int v :: st) G) : cj_J M d k0 n0 Qr Qx k n pc lv (.int x :: st) G := by
  intro p l e s m args below meth c D tys A H locs c0 s0 ls C W0 S hc hn hl
  exact lv_i2c C.x C.b hd hv (kk p l e s m args below meth c D tys A H locs c0 s0 ls C W0 S hc hn hl)
theorem cj_i2l {x : Int32} {v : Int64} (hd : decode M.2.1 pc = .ok (.i2l, 1)) (hv : x.toInt64 = v) (kk : cj_J M d k0 n0 Qr Qx k n (pc + 1) lv (.long v :: st) G) : cj_J M d k0 n0 Qr Qx k n pc lv (.int x :: st) G := by
  intro p l e s m args below meth c D tys A H locs c0 s0 ls C W0 S hc hn hl
  exact lv_i2l C.x C.b hd hv (kk p l e s m args below meth c D tys A H locs c0 s0 ls C W0 S hc hn hl)
theorem cj_dup {va : Value} (hd : decode M.2.1 pc = .ok (.dup, 1)) (hva : va.category = 1) (kk : cj_J M d k0 n0 Qr Qx k n (pc + 1) lv (va :: va :: st) G) : cj_J M d k0 n0 Qr Qx k n pc lv (va :: st) G := by
  intro p l e s m args below meth c D tys A H locs c0 s0 ls C W0 S hc hn hl
  exact lv_dup C.x C.b hd hva (kk p l e s m args below meth c D tys A H locs c0 s0 ls C W0 S hc hn hl)
theorem cj_pop {va : Value} (hd : decode M.2.1 pc = .ok (.pop, 1)) (hva : va.category = 1) (kk : cj_J M d k0 n0 Qr Qx k n (pc + 1) lv st G) : cj_J M d k0 n0 Qr Qx k n pc lv (va :: st) G := by
  intro p l e s m args below meth c D tys A H locs c0 s0 ls C W0 S hc hn hl
  exact lv_pop C.x C.b hd hva (kk p l e s m args below meth c D tys A H locs c0 s0 ls C W0 S hc hn hl)
theorem cj_dup_x1 {va vb : Value} (hd : decode M.2.1 pc = .ok (.dup_x1, 1)) (hva : va.category = 1) (hvb : vb.category = 1) (kk : cj_J M d k0 n0 Qr Qx k n (pc + 1) lv (va :: vb :: va :: st) G) : cj_J M d k0 n0 Qr Qx k n pc lv (va :: vb :: st) G := by
  intro p l e s m args below meth c D tys A H locs c0 s0 ls C W0 S hc hn hl
  exact lv_dup_x1 C.x C.b hd hva hvb (kk p l e s m args below meth c D tys A H locs c0 s0 ls C W0 S hc hn hl)
theorem cj_dup2_11 {va vb : Value} (hd : decode M.2.1 pc = .ok (.dup2, 1)) (hva : va.category = 1) (hvb : vb.category = 1) (kk : cj_J M d k0 n0 Qr Qx k n (pc + 1) lv (va :: vb :: va :: vb :: st) G) : cj_J M d k0 n0 Qr Qx k n pc lv (va :: vb :: st) G := by
  intro p l e s m args below meth c D tys A H locs c0 s0 ls C W0 S hc hn hl
  exact lv_dup2_11 C.x C.b hd hva hvb (kk p l e s m args below meth c D tys A H locs c0 s0 ls C W0 S hc hn hl)
theorem cj_null  (hd : decode M.2.1 pc = .ok (.aconst_null, 1))  (kk : cj_J M d k0 n0 Qr Qx k n (pc + 1) lv (.null :: st) G) : cj_J M d k0 n0 Qr Qx k n pc lv st G := by
  intro p l e s m args below meth c D tys A H locs c0 s0 ls C W0 S hc hn hl
  exact lv_null C.x C.b hd (kk p l e s m args below meth c D tys A H locs c0 s0 ls C W0 S hc hn hl)
theorem cj_if_eq {x : Int32} {off : Int} {tgt : Nat} (hd : decode M.2.1 pc = .ok (.ifCond .eq off, 3)) (ht : (pc : Int) + off = (tgt : Int)) (kt : x = 0 → cj_J M d k0 n0 Qr Qx k n tgt lv st G) (kf : ¬ x = 0 → cj_J M d k0 n0 Qr Qx k n (pc + 3) lv st G) : cj_J M d k0 n0 Qr Qx k n pc lv (.int x :: st) G := by
  intro p l e s m args below meth c D tys A H locs c0 s0 ls C W0 S hc hn hl
  exact lv_if_eq C.x C.b hd ht (fun h => kt h p l e s m args below meth c D tys A H locs c0 s0 ls C W0 S hc hn hl) (fun h => kf h p l e s m args below meth c D tys A H locs c0 s0 ls C W0 S hc hn hl)
theorem cj_icmp_eq {x y : Int32} {off : Int} {tgt : Nat} (hd : decode M.2.1 pc = .ok (.if_icmp .eq off, 3)) (ht : (pc : Int) + off = (tgt : Int)) (kt : x = y → cj_J M d k0 n0 Qr Qx k n tgt lv st G) (kf : ¬ x = y → cj_J M d k0 n0 Qr Qx k n (pc + 3) lv st G) : cj_J M d k0 n0 Qr Qx k n pc lv (.int y :: .int x :: st) G := by
  intro p l e s m args below meth c D tys A H locs c0 s0 ls C W0 S hc hn hl
  exact lv_icmp_eq C.x C.b hd ht (fun h => kt h p l e s m args below meth c D tys A H locs c0 s0 ls C W0 S hc hn hl) (fun h => kf h p l e s m args below meth c D tys A H locs c0 s0 ls C W0 S hc hn hl)
theorem cj_if_ne {x : Int32} {off : Int} {tgt : Nat} (hd : decode M.2.1 pc = .ok (.ifCond .ne off, 3)) (ht : (pc : Int) + off = (tgt : Int)) (kt : ¬ x = 0 → cj_J M d k0 n0 Qr Qx k n tgt lv st G) (kf : x = 0 → cj_J M d k0 n0 Qr Qx k n (pc + 3) lv st G) : cj_J M d k0 n0 Qr Qx k n pc lv (.int x :: st) G := by
  intro p l e s m args below meth c D tys A H locs c0 s0 ls C W0 S hc hn hl
  exact lv_if_ne C.x C.b hd ht (fun h => kt h p l e s m args below meth c D tys A H locs c0 s0 ls C W0 S hc hn hl) (fun h => kf h p l e s m args below meth c D tys A H locs c0 s0 ls C W0 S hc hn hl)
theorem cj_icmp_ne {x y : Int32} {off : Int} {tgt : Nat} (hd : decode M.2.1 pc = .ok (.if_icmp .ne off, 3)) (ht : (pc : Int) + off = (tgt : Int)) (kt : ¬ x = y → cj_J M d k0 n0 Qr Qx k n tgt lv st G) (kf : x = y → cj_J M d k0 n0 Qr Qx k n (pc + 3) lv st G) : cj_J M d k0 n0 Qr Qx k n pc lv (.int y :: .int x :: st) G := by
  intro p l e s m args below meth c D tys A H locs c0 s0 ls C W0 S hc hn hl
  exact lv_icmp_ne C.x C.b hd ht (fun h => kt h p l e s m args below meth c D tys A H locs c0 s0 ls C W0 S hc hn hl) (fun h => kf h p l e s m args below meth c D tys A H locs c0 s0 ls C W0 S hc hn hl)
theorem cj_if_lt {x : Int32} {off : Int} {tgt : Nat} (hd : decode M.2.1 pc = .ok (.ifCond .lt off, 3)) (ht : (pc : Int) + off = (tgt : Int)) (kt : x < 0 → cj_J M d k0 n0 Qr Qx k n tgt lv st G) (kf : ¬ x < 0 → cj_J M d k0 n0 Qr Qx k n (pc + 3) lv st G) : cj_J M d k0 n0 Qr Qx k n pc lv (.int x :: st) G := by
  intro p l e s m args below meth c D tys A H locs c0 s0 ls C W0 S hc hn hl
  exact lv_if_lt C.x C.b hd ht (fun h => kt h p l e s m args below meth c D tys A H locs c0 s0 ls C W0 S hc hn hl) (fun h => kf h p l e s m args below meth c D tys A H locs c0 s0 ls C W0 S hc hn hl)
theorem cj_icmp_lt {x y : Int32} {off : Int} {tgt : Nat} (hd : decode M.2.1 pc = .ok (.if_icmp .lt off, 3)) (ht : (pc : Int) + off = (tgt : Int)) (kt : x < y → cj_J M d k0 n0 Qr Qx k n tgt lv st G) (kf : ¬ x < y → cj_J M d k0 n0 Qr Qx k n (pc + 3) lv st G) : cj_J M d k0 n0 Qr Qx k n pc lv (.int y :: .int x :: st) G := by
  intro p l e s m args below meth c D tys A H locs c0 s0 ls C W0 S hc hn hl
  exact lv_icmp_lt C.x C.b hd ht (fun h => kt h p l e s m args below meth c D tys A H locs c0 s0 ls C W0 S hc hn hl) (fun h => kf h p l e s m args below meth c D tys A H locs c0 s0 ls C W0 S hc hn hl)
theorem cj_if_ge {x : Int32} {off : Int} {tgt : Nat} (hd : decode M.2.1 pc = .ok (.ifCond .ge off, 3)) (ht : (pc : Int) + off = (tgt : Int)) (kt : 0 ≤ x → cj_J M d k0 n0 Qr Qx k n tgt lv st G) (kf : ¬ 0 ≤ x → cj_J M d k0 n0 Qr Qx k n (pc + 3) lv st G) : cj_J M d k0 n0 Qr Qx k n pc lv (.int x :: st) G := by
  intro p l e s m args below meth c D tys A H locs c0 s0 ls C W0 S hc hn hl
  exact lv_if_ge C.x C.b hd ht (fun h => kt h p l e s m args below meth c D tys A H locs c0 s0 ls C W0 S hc hn hl) (fun h => kf h p l e s m args below meth c D tys A H locs c0 s0 ls C W0 S hc hn hl)
theorem cj_icmp_ge {x y : Int32} {off : Int} {tgt : Nat} (hd : decode M.2.1 pc = .ok (.if_icmp .ge off, 3)) (ht : (pc : Int) + off = (tgt : Int)) (kt : y ≤ x → cj_J M d k0 n0 Qr Qx k n tgt lv st G) (kf : ¬ y ≤ x → cj_J M d k0 n0 Qr Qx k n (pc + 3) lv st G) : cj_J M d k0 n0 Qr Qx k n pc lv (.int y :: .int x :: st) G := by
  intro p l e s m args below meth c D tys A H locs c0 s0 ls C W0 S hc hn hl
  exact lv_icmp_ge C.x C.b hd ht (fun h => kt h p l e s m args below meth c D tys A H locs c0 s0 ls C W0 S hc hn hl) (fun h => kf h p l e s m args below meth c D tys A H locs c0 s0 ls C W0 S hc hn hl)
theorem cj_if_gt {x : Int32} {off : Int} {tgt : Nat} (hd : decode M.2.1 pc = .ok (.ifCond .gt off, 3)) (ht : (pc : Int) + off = (tgt : Int)) (kt : 0 < x → cj_J M d k0 n0 Qr Qx k n tgt lv st G) (kf : ¬ 0 < x → cj_J M d k0 n0 Qr Qx k n (pc + 3) lv st G) : cj_J M d k0 n0 Qr Qx k n pc lv (.int x :: st) G := by
  intro p l e s m args below meth c D tys A H locs c0 s0 ls C W0 S hc hn hl
  exact lv_if_gt C.x C.b hd ht (fun h => kt h p l e s m args below meth c D tys A H locs c0 s0 ls C W0 S hc hn hl) (fun h => kf h p l e s m args below meth c D tys A H locs c0 s0 ls C W0 S hc hn hl)
theorem cj_icmp_gt {x y : Int32} {off : Int} {tgt : Nat} (hd : decode M.2.1 pc = .ok (.if_icmp .gt off, 3)) (ht : (pc : Int) + off = (tgt : Int)) (kt : y < x → cj_J M d k0 n0 Qr Qx k n tgt lv st G) (kf : ¬ y < x → cj_J M d k0 n0 Qr Qx k n (pc + 3) lv st G) : cj_J M d k0 n0 Qr Qx k n pc lv (.int y :: .int x :: st) G := by
  intro p l e s m args below meth c D tys A H locs c0 s0 ls C W0 S hc hn hl
  exact lv_icmp_gt C.x C.b hd ht (fun h => kt h p l e s m args below meth c D tys A H locs c0 s0 ls C W0 S hc hn hl) (fun h => kf h p l e s m args below meth c D tys A H locs c0 s0 ls C W0 S hc hn hl)
theorem cj_if_le {x : Int32} {off : Int} {tgt : Nat} (hd : decode M.2.1 pc = .ok (.ifCond .le off, 3)) (ht : (pc : Int) + off = (tgt : Int)) (kt : x ≤ 0 → cj_J M d k0 n0 Qr Qx k n tgt lv st G) (kf : ¬ x ≤ 0 → cj_J M d k0 n0 Qr Qx k n (pc + 3) lv st G) : cj_J M d k0 n0 Qr Qx k n pc lv (.int x :: st) G := by
  intro p l e s m args below meth c D tys A H locs c0 s0 ls C W0 S hc hn hl
  exact lv_if_le C.x C.b hd ht (fun h => kt h p l e s m args below meth c D tys A H locs c0 s0 ls C W0 S hc hn hl) (fun h => kf h p l e s m args below meth c D tys A H locs c0 s0 ls C W0 S hc hn hl)
theorem cj_icmp_le {x y : Int32} {off : Int} {tgt : Nat} (hd : decode M.2.1 pc = .ok (.if_icmp .le off, 3)) (ht : (pc : Int) + off = (tgt : Int)) (kt : x ≤ y → cj_J M d k0 n0 Qr Qx k n tgt lv st G) (kf : ¬ x ≤ y → cj_J M d k0 n0 Qr Qx k n (pc + 3) lv st G) : cj_J M d k0 n0 Qr Qx k n pc lv (.int y :: .int x :: st) G := by
  intro p l e s m args below meth c D tys A H locs c0 s0 ls C W0 S hc hn hl
  exact lv_icmp_le C.x C.b hd ht (fun h => kt h p l e s m args below meth c D tys A H locs c0 s0 ls C W0 S hc hn hl) (fun h => kf h p l e s m args below meth c D tys A H locs c0 s0 ls C W0 S hc hn hl)
theorem cj_goto {off : Int} {tgt : Nat} (hd : decode M.2.1 pc = .ok (.goto off, 3)) (ht : (pc : Int) + off = (tgt : Int)) (kk : cj_J M d k0 n0 Qr Qx k n tgt lv st G) : cj_J M d k0 n0 Qr Qx k n pc lv st G := by
  intro p l e s m args below meth c D tys A H locs c0 s0 ls C W0 S hc hn hl
  exact lv_goto C.x C.b hd ht (kk p l e s m args below meth c D tys A H locs c0 s0 ls C W0 S hc hn hl)
theorem cj_ifnonnull {x : Nat} {off : Int} {tgt : Nat} (hd : decode M.2.1 pc = .ok (.ifnonnull off, 3)) (ht : (pc : Int) + off = (tgt : Int)) (kk : cj_J M d k0 n0 Qr Qx k n tgt lv st G) : cj_J M d k0 n0 Qr Qx k n pc lv (.ref x :: st) G := by
  intro p l e s m args below meth c D tys A H locs c0 s0 ls C W0 S hc hn hl
  exact lv_ifnonnull C.x C.b hd ht (kk p l e s m args below meth c D tys A H locs c0 s0 ls C W0 S hc hn hl)
theorem cj_ifnull {x : Nat} {off : Int} (hd : decode M.2.1 pc = .ok (.ifnull off, 3))  (kk : cj_J M d k0 n0 Qr Qx k n (pc + 3) lv st G) : cj_J M d k0 n0 Qr Qx k n pc lv (.ref x :: st) G := by
  intro p l e s m args below meth c D tys A H locs c0 s0 ls C W0 S hc hn hl
  exact lv_ifnull C.x C.b hd (kk p l e s m args below meth c D tys A H locs c0 s0 ls C W0 S hc hn hl)
theorem cj_ifnullN {off : Int} {tgt : Nat} (hd : decode M.2.1 pc = .ok (.ifnull off, 3)) (ht : (pc : Int) + off = (tgt : Int)) (kk : cj_J M d k0 n0 Qr Qx k n tgt lv st G) : cj_J M d k0 n0 Qr Qx k n pc lv (.null :: st) G := by
  intro p l e s m args below meth c D tys A H locs c0 s0 ls C W0 S hc hn hl
  exact lv_ifnullN C.x C.b hd ht (kk p l e s m args below meth c D tys A H locs c0 s0 ls C W0 S hc hn hl)
theorem cj_ifnonnullN {off : Int} (hd : decode M.2.1 pc = .ok (.ifnonnull off, 3))  (kk : cj_J M d k0 n0 Qr Qx k n (pc + 3) lv st G) : cj_J M d k0 n0 Qr Qx k n pc lv (.null :: st) G := by
  intro p l e s m args below meth c D tys A H locs c0 s0 ls C W0 S hc hn hl
  exact lv_ifnonnullN C.x C.b hd (kk p l e s m args below meth c D tys A H locs c0 s0 ls C W0 S hc hn hl)
theorem cj_tableOut {dflt lo hi : Int} {offs : Array Int} {len : Nat} {x : Int32} {tgt : Nat} (hd : decode M.2.1 pc = .ok (.tableswitch dflt lo hi offs, len)) (h : x.toInt < lo ∨ hi < x.toInt) (ht : (pc : Int) + dflt = (tgt : Int)) (kk : cj_J M d k0 n0 Qr Qx k n tgt lv st G) : cj_J M d k0 n0 Qr Qx k n pc lv (.int x :: st) G := by
  intro p l e s m args below meth c D tys A H locs c0 s0 ls C W0 S hc hn hl
  exact lv_tableOut C.x C.b hd h ht (kk p l e s m args below meth c D tys A H locs c0 s0 ls C W0 S hc hn hl)
theorem cj_tableIn {dflt lo hi : Int} {offs : Array Int} {len : Nat} {x : Int32} {off : Int} {tgt : Nat} (hd : decode M.2.1 pc = .ok (.tableswitch dflt lo hi offs, len)) (h1 : ¬ x.toInt < lo) (h2 : ¬ hi < x.toInt) (ho : offs[(x.toInt - lo).toNat]? = some off) (ht : (pc : Int) + off = (tgt : Int)) (kk : cj_J M d k0 n0 Qr Qx k n tgt lv st G) : cj_J M d k0 n0 Qr Qx k n pc lv (.int x :: st) G := by
  intro p l e s m args below meth c D tys A H locs c0 s0 ls C W0 S hc hn hl
  exact lv_tableIn C.x C.b hd h1 h2 ho ht (kk p l e s m args below meth c D tys A H locs c0 s0 ls C W0 S hc hn hl)
theorem cj_lookup {dflt : Int} {ps : Array (Int × Int)} {len : Nat} {x : Int32} {off : Int} {tgt : Nat} (hd : decode M.2.1 pc = .ok (.lookupswitch dflt ps, len)) (hp : (ps.toList.zip (ps.toList.drop 1)).all (fun (a, next) => a.1 < next.1) = true) (ho : Op.lookupswitch.offset ps.toList dflt x.toInt = off) (ht : (pc : Int) + off = (tgt : Int)) (kk : cj_J M d k0 n0 Qr Qx k n tgt lv st G) : cj_J M d k0 n0 Qr Qx k n pc lv (.int x :: st) G := by
  intro p l e s m args below meth c D tys A H locs c0 s0 ls C W0 S hc hn hl
  exact lv_lookup C.x C.b hd hp ho ht (kk p l e s m args below meth c D tys A H locs c0 s0 ls C W0 S hc hn hl)
/-! fields -/
def cj_fl (own : String) (index ci kf : Nat) (ty : FieldType) (fin : Bool) : Prop := ∃ (C : String) (T : u_T) (N : Nat) (tyf : Nat → FieldType), vwCl[ci]? = some (C, T, N) ∧ kf < N ∧ (∀ w ∈ u_ws C T N, w ∈ cj_all) ∧ (∀ k, k < N → parseFieldDescriptor (T k).2.2.1 = some (tyf k)) ∧ (∀ a, a < N → ∀ b, b < N → a ≠ b → (T a).2.1 ≠ (T b).2.1) ∧ Cond.fieldLink own index (T kf).1 (T kf).2.1 (T kf).2.2.1 ∈ cj_all ∧ parseFieldDescriptor (T kf).2.2.1 = some ty ∧ (T kf).2.2.2 = fin ∧ (T kf).1 = C
theorem cj_get {index ci kf a : Nat} {ty : FieldType} {fin : Bool} {fs : List Value} {v : Value} (hf : cj_fl M.1.cls index ci kf ty fin) (hd : decode M.2.1 pc = .ok (.getfield index, 3)) (hG : G a = some (.inr (ci, fs))) (hv : fs[kf]? = some v) (kk : cj_J M d k0 n0 Qr Qx k n (pc + 3) lv (v :: st) G) : cj_J M d k0 n0 Qr Qx k n pc lv (.ref a :: st) G := by
  intro p l e s m args below meth c D tys A H locs c0 s0 ls C W0 S hc hn hl
  obtain ⟨Cn, T, N, tyf, h1, h2, h3, h4, h5, h6, h7, h8, h9⟩ := hf
  obtain ⟨ws, hP, hD, hI⟩ := id W0
  obtain ⟨q, hq⟩ := hI.1 a _ hG
  exact va_get C.x C.b C.ts h3 C.own C.K hP q hq h1 kf h2 (C.ts _ h6) (fun _ h => h) hv hd (kk p l e s m args below meth c D tys A H locs c0 s0 ls C W0 S hc hn hl)
theorem cj_put {index ci kf a : Nat} {ty : FieldType} {fs : List Value} {v : Value} (hf : cj_fl M.1.cls index ci kf ty false) (hd : decode M.2.1 pc = .ok (.putfield index, 3)) (hG : G a = some (.inr (ci, fs))) (hnw : narrow ty v = v) (hft : fits ty v = true) (hlen : kf < fs.length) (kk : cj_J M d k0 n0 Qr Qx k n (pc + 3) lv st (cj_up G a (.inr (ci, fs.set kf v)))) : cj_J M d k0 n0 Qr Qx k n pc lv (v :: .ref a :: st) G := by
  intro p l e s m args below meth c D tys A H locs c0 s0 ls C W0 S hc hn hl
  obtain ⟨Cn, T, N, tyf, h1, h2, h3, h4, h5, h6, h7, h8, h9⟩ := hf
  obtain ⟨ws, hP, hD, hI⟩ := W0
  obtain ⟨q, hq⟩ := hI.1 a _ hG
  exact va_put C.x C.b C.ts h3 tyf h4 h5 C.own C.K hP hD S q hq h1 kf h2 (C.ts _ h6) (fun _ h => h) h8 h7 hnw hft hlen hd (fun H1 locs1 P1 D1 S1 => kk p l e s m args below meth c D tys A H1 locs1 c0 s0 ls C ⟨_, P1, D1, hI.set (x := .inr (ci, fs.set kf v)) hD hq⟩ S1 hc hn hl)
theorem cj_putF {index ci kf a : Nat} {ty : FieldType} {fs : List Value} {v : Value} (hf : cj_fl M.1.cls index ci kf ty true) (hin : M.1.name = "<init>") (hown : (vwCl[ci]?).map (fun q => q.1) = some M.1.cls) (hd : decode M.2.1 pc = .ok (.putfield index, 3)) (hG : G a = some (.inr (ci, fs))) (hnw : narrow ty v = v) (hft : fits ty v = true) (hlen : kf < fs.length) (kk : cj_J M d k0 n0 Qr Qx k n (pc + 3) lv st (cj_up G a (.inr (ci, fs.set kf v)))) : cj_J M d k0 n0 Qr Qx k n pc lv (v :: .ref a :: st) G := by
  intro p l e s m args below meth c D tys A H locs c0 s0 ls C W0 S hc hn hl
  obtain ⟨Cn, T, N, tyf, h1, h2, h3, h4, h5, h6, h7, h8, h9⟩ := hf
  obtain ⟨ws, hP, hD, hI⟩ := W0
  obtain ⟨q, hq⟩ := hI.1 a _ hG
  have hdecl : (T kf).1 = M.1.cls := by rw [h1] at hown; exact h9.trans (Option.some.inj hown)
  exact va_putF C.x C.b C.ts h3 tyf h4 h5 C.own C.K hP hD S q hq h1 kf h2 (C.ts _ h6) (fun _ h => h) h8 (C.nm.trans hin) hdecl h7 hnw hft hlen hd (fun H1 locs1 P1 D1 S1 => kk p l e s m args below meth c D tys A H1 locs1 c0 s0 ls C ⟨_, P1, D1, hI.set (x := .inr (ci, fs.set kf v)) hD hq⟩ S1 hc hn hl)
/-! arrays -/
theorem cj_iald {a z : Nat} {f : Nat → Int32} {i : Int32} (hd : decode M.2.1 pc = .ok (.iaload, 1)) (hG : G a = some (.inl (0, z, .inl f))) (hin : vp_in i z) (kk : cj_J M d k0 n0 Qr Qx k n (pc + 1) lv (.int (f i.toNatClampNeg) :: st) G) : cj_J M d k0 n0 Qr Qx k n pc lv (.int i :: .ref a :: st) G := by
  intro p l e s m args below meth c D tys A H locs c0 s0 ls C W0 S hc hn hl
  obtain ⟨ws, hP, hD, hI⟩ := id W0
  obtain ⟨q, hq⟩ := hI.1 a _ hG
  exact va_iald C.x C.b C.K hP q 0 hq (C.tyAt rfl) hin hd (kk p l e s m args below meth c D tys A H locs c0 s0 ls C W0 S hc hn hl)
theorem cj_cald {a z : Nat} {f : Nat → Int32} {i : Int32} (hd : decode M.2.1 pc = .ok (.caload, 1)) (hG : G a = some (.inl (1, z, .inl f))) (hin : vp_in i z) (kk : cj_J M d k0 n0 Qr Qx k n (pc + 1) lv (.int (f i.toNatClampNeg) :: st) G) : cj_J M d k0 n0 Qr Qx k n pc lv (.int i :: .ref a :: st) G := by
  intro p l e s m args below meth c D tys A H locs c0 s0 ls C W0 S hc hn hl
  obtain ⟨ws, hP, hD, hI⟩ := id W0
  obtain ⟨q, hq⟩ := hI.1 a _ hG
  exact va_cald C.x C.b C.K hP q 1 hq (C.tyAt rfl) hin hd (kk p l e s m args below meth c D tys A H locs c0 s0 ls C W0 S hc hn hl)
theorem cj_zald {a z : Nat} {f : Nat → Int32} {i : Int32} (hd : decode M.2.1 pc = .ok (.baload, 1)) (hG : G a = some (.inl (2, z, .inl f))) (hin : vp_in i z) (kk : cj_J M d k0 n0 Qr Qx k n (pc + 1) lv (.int (f i.toNatClampNeg) :: st) G) : cj_J M d k0 n0 Qr Qx k n pc lv (.int i :: .ref a :: st) G := by
  intro p l e s m args below meth c D tys A H locs c0 s0 ls C W0 S hc hn hl
  obtain ⟨ws, hP, hD, hI⟩ := id W0
  obtain ⟨q, hq⟩ := hI.1 a _ hG
  exact va_zald C.x C.b C.K hP q 2 hq (C.tyAt rfl) hin hd (kk p l e s m args below meth c D tys A H locs c0 s0 ls C W0 S hc hn hl)
theorem cj_iast {a z : Nat} {f : Nat → Int32} {i x : Int32} (hd : decode M.2.1 pc = .ok (.iastore, 1)) (hG : G a = some (.inl (0, z, .inl f))) (hin : vp_in i z) (kk : cj_J M d k0 n0 Qr Qx k n (pc + 1) lv st (cj_up G a (.inl (0, z, .inl (upd f i.toNatClampNeg x))))) : cj_J M d k0 n0 Qr Qx k n pc lv (.int x :: .int i :: .ref a :: st) G := by
  intro p l e s m args below meth c D tys A H locs c0 s0 ls C W0 S hc hn hl
  obtain ⟨ws, hP, hD, hI⟩ := W0
  obtain ⟨q, hq⟩ := hI.1 a _ hG
  exact va_iast C.x C.b C.K hP hD S q 0 hq (C.tyAt rfl) hin hd (fun H1 locs1 P1 D1 S1 => kk p l e s m args below meth c D tys A H1 locs1 c0 s0 ls C ⟨_, P1, D1, hI.set (x := (.inl (0, z, .inl (upd f i.toNatClampNeg x)))) hD hq⟩ S1 hc hn hl)
theorem cj_cast {a z : Nat} {f : Nat → Int32} {i x : Int32} (hd : decode M.2.1 pc = .ok (.castore, 1)) (hG : G a = some (.inl (1, z, .inl f))) (hin : vp_in i z) (kk : cj_J M d k0 n0 Qr Qx k n (pc + 1) lv st (cj_up G a (.inl (1, z, .inl (upd f i.toNatClampNeg (vp_nar .char x)))))) : cj_J M d k0 n0 Qr Qx k n pc lv (.int x :: .int i :: .ref a :: st) G := by
  intro p l e s m args below meth c D tys A H locs c0 s0 ls C W0 S hc hn hl
  obtain ⟨ws, hP, hD, hI⟩ := W0
  obtain ⟨q, hq⟩ := hI.1 a _ hG
  exact va_cast C.x C.b C.K hP hD S q 1 hq (C.tyAt rfl) hin hd (fun H1 locs1 P1 D1 S1 => kk p l e s m args below meth c D tys A H1 locs1 c0 s0 ls C ⟨_, P1, D1, hI.set (x := (.inl (1, z, .inl (upd f i.toNatClampNeg (vp_nar .char x))))) hD hq⟩ S1 hc hn hl)
theorem cj_zast {a z : Nat} {f : Nat → Int32} {i x : Int32} (hd : decode M.2.1 pc = .ok (.bastore, 1)) (hG : G a = some (.inl (2, z, .inl f))) (hin : vp_in i z) (kk : cj_J M d k0 n0 Qr Qx k n (pc + 1) lv st (cj_up G a (.inl (2, z, .inl (upd f i.toNatClampNeg (vp_nar .boolean x)))))) : cj_J M d k0 n0 Qr Qx k n pc lv (.int x :: .int i :: .ref a :: st) G := by
  intro p l e s m args below meth c D tys A H locs c0 s0 ls C W0 S hc hn hl
  obtain ⟨ws, hP, hD, hI⟩ := W0
  obtain ⟨q, hq⟩ := hI.1 a _ hG
  exact va_zast C.x C.b C.K hP hD S q 2 hq (C.tyAt rfl) hin hd (fun H1 locs1 P1 D1 S1 => kk p l e s m args below meth c D tys A H1 locs1 c0 s0 ls C ⟨_, P1, D1, hI.set (x := (.inl (2, z, .inl (upd f i.toNatClampNeg (vp_nar .boolean x))))) hD hq⟩ S1 hc hn hl)
theorem cj_alen {a t : Nat} {x : vp_A} {ty : FieldType} {v : Int32} (hd : decode M.2.1 pc = .ok (.arraylength, 1)) (hG : G a = some (.inl (t, x))) (ht : cj_tl[t]? = some ty) (hv : Int32.ofNat x.1 = v) (kk : cj_J M d k0 n0 Qr Qx k n (pc + 1) lv (.int v :: st) G) : cj_J M d k0 n0 Qr Qx k n pc lv (.ref a :: st) G := by
  intro p l e s m args below meth c D tys A H locs c0 s0 ls C W0 S hc hn hl
  obtain ⟨ws, hP, hD, hI⟩ := id W0
  obtain ⟨q, hq⟩ := hI.1 a _ hG
  exact va_alen C.x C.b C.K hP q t hq (C.tyAt ht) hv hd (kk p l e s m args below meth c D tys A H locs c0 s0 ls C W0 S hc hn hl)
/-! new things -/
theorem cj_new {index ci N : Nat} {Cn : String} {T : u_T} {tyf : Nat → FieldType} {fs : List Value} (hcl : vwCl[ci]? = some (Cn, T, N)) (hw : ∀ w ∈ u_ws Cn T N, w ∈ cj_all) (hty : ∀ k, k < N → parseFieldDescriptor (T k).2.2.1 = some (tyf k)) (h1 : Cond.classLink M.1.cls index Cn ∈ cj_all) (h2 : Cond.instantiable Cn N ∈ cj_all) (h3 : Cond.initialized Cn ∈ cj_all) (hfs : ∀ j, j < N → defaultValue (tyf j) = vp_V fs j) (hd : decode M.2.1 pc = .ok (.new index, 3))
    (kk : ∀ q : Nat, G q = none → cj_J M d k0 n0 Qr Qx k n (pc + 3) lv (.ref q :: st) (cj_up G q (.inr (ci, fs)))) : cj_J M d k0 n0 Qr Qx (k + 1) (n + N) pc lv st G := by
  intro p l e s m args below meth c D tys A H locs c0 s0 ls C W0 S hc hn hl
  obtain ⟨ws, hP, hD, hI⟩ := W0
  exact va_new C.x C.b C.ts hw tyf hty C.own (C.ts _ h1) (C.ts _ h2) (C.ts _ h3) C.K hP hD S C.fr hcl hfs (show c0 + 1 ≤ k0 by omega) (show s0 + N ≤ n0 by omega) hd (fun q H1 P1 D1 S1 => by
    obtain ⟨i1, i2⟩ := hI.push (x := .inr (ci, fs)) D1
    exact kk q i2 p l e s m args below meth c D tys A H1 locs (c0 + 1) (s0 + N) ls C ⟨_, P1, D1, i1⟩ S1 (by omega) (by omega) hl)
theorem cj_newa {at0 : ArrayType} {t N : Nat} {z : Int32} {a0 : vp_A} {ty : FieldType} (hty : newarray.typeOf at0 = ty) (hp : ∀ C : String, ty ≠ .object C) (ht : cj_tl[t]? = some ty) (h1 : Cond.arrayClass ty ∈ cj_all) (ha : ∀ cA : ClassId, vp_cell cA a0 = arrV cA N (fun _ => defaultValue ty)) (hz : ¬ z < 0) (hN : z.toNatClampNeg = N) (hby : N * componentBytes ty ≤ 536870912) (hd : decode M.2.1 pc = .ok (.newarray at0, 2))
    (kk : ∀ q : Nat, G q = none → cj_J M d k0 n0 Qr Qx k n (pc + 2) lv (.ref q :: st) (cj_up G q (.inl (t, a0)))) : cj_J M d k0 n0 Qr Qx (k + 1) (n + N) pc lv (.int z :: st) G := by
  intro p l e s m args below meth c D tys A H locs c0 s0 ls C W0 S hc hn hl
  obtain ⟨ws, hP, hD, hI⟩ := W0
  refine va_newa C.x C.b (by rw [hty]; exact C.ts _ h1) hty C.K hP hD S C.fr ha hz hN hby (show c0 + 1 ≤ k0 by omega) (show s0 + N ≤ n0 by omega) hd (fun q cA H1 K1 P1 D1 S1 => ?_)
  have e1 : cA = cj_cd tys t := by
    have g1 := (K1.2 tys.length (cA, ty) (by simp)).2
    have g2 := (C.K.2 t _ (C.tyAt ht)).2
    cases ty with
    | object C9 => exact absurd rfl (hp C9)
    | _ => exact Option.some.inj (g1.symm.trans g2)
  subst e1
  obtain ⟨i1, i2⟩ := hI.push (x := .inl (t, a0)) D1
  exact kk q i2 p l e s m args below meth c D tys A H1 locs (c0 + 1) (s0 + N) ls C ⟨_, P1, D1, i1⟩ S1 (by omega) (by omega) hl
/-! the ends -/
theorem cj_iret {x : Int32} (hr : M.2.2.2 = some .int) (hd : decode M.2.1 pc = .ok (.ireturn, 1)) (hq : Qr (some (.int x)) G) : cj_J M d k0 n0 Qr Qx k n pc lv [.int x] G := by
  intro p l e s m args below meth c D tys A H locs c0 s0 ls C W0 S hc hn hl
  refine W.widen (k := k0) (n := n0) (by omega) (by omega) ?_
  exact vx_ret (W.iret C.x C.b (C.r.trans hr) (fun t ht hW => ⟨⟨_, G, rfl, hq, by rw [ht]; exact W0⟩, S.F ht⟩) S.2.2 hd C.lk)
theorem cj_zret {x : Int32} {ty : FieldType} (hr : M.2.2.2 = some ty) (hnw : narrow ty (.int x) = .int x) (hd : decode M.2.1 pc = .ok (.ireturn, 1)) (hq : Qr (some (.int x)) G) : cj_J M d k0 n0 Qr Qx k n pc lv [.int x] G := by
  intro p l e s m args below meth c D tys A H locs c0 s0 ls C W0 S hc hn hl
  refine W.widen (k := k0) (n := n0) (by omega) (by omega) ?_
  exact vx_ret (W.zret C.x C.b (C.r.trans hr) hnw (fun t ht hW => ⟨⟨_, G, rfl, hq, by rw [ht]; exact W0⟩, S.F ht⟩) S.2.2 hd C.lk)
theorem cj_vret (hr : M.2.2.2 = none) (hd : decode M.2.1 pc = .ok (.return_, 1)) (hq : Qr none G) : cj_J M d k0 n0 Qr Qx k n pc lv [] G := by
  intro p l e s m args below meth c D tys A H locs c0 s0 ls C W0 S hc hn hl
  refine W.widen (k := k0) (n := n0) (by omega) (by omega) ?_
  exact vx_ret (W.vret C.x C.b (C.r.trans hr) (fun t ht hW => ⟨⟨_, G, rfl, hq, by rw [ht]; exact W0⟩, S.F ht⟩) S.2.2 hd C.lk)
theorem cj_aret {a : Nat} {nm : String} (hr : M.2.2.2 = some (.object nm)) (hd : decode M.2.1 pc = .ok (.areturn, 1)) (hq : Qr (some (.ref a)) G) : cj_J M d k0 n0 Qr Qx k n pc lv [.ref a] G := by
  intro p l e s m args below meth c D tys A H locs c0 s0 ls C W0 S hc hn hl
  refine W.widen (k := k0) (n := n0) (by omega) (by omega) ?_
  exact vx_ret (W.aret C.x C.b (C.r.trans hr) (Or.inl ⟨nm, rfl⟩) (Or.inr ⟨a, rfl⟩) (fun t ht hW => ⟨⟨_, G, rfl, hq, by rw [ht]; exact W0⟩, S.F ht⟩) S.2.2 hd C.lk)
/-! a body gives a contract -/
theorem cj_T_of {av : List Value} (hy : plainName M.1.cls = true) (hlen : (lg_sl av).length ≤ M.2.2.1) (kk : cj_J M d k n Qr Qx k n 0 (lv_args 0 av) [] G) : cj_T M d k n av G Qr Qx := by
  intro l hl9 D tys hty sz
  refine vx_ofW (cc := M.2.1) (maxL := M.2.2.1) (ret := M.2.2.2) hy rfl ?_
  intro p e s m args below meth c s₁ B hml htab hv
  obtain ⟨rfl, hsz, hK, hB, hZ, hW⟩ := hv
  have hts := atoms_spec (ws := cj_ws M) B.pre
  have hown : s.vm.findClass M.1.cls = some m.cls := findClass_of_methodNamed B.named
  have hnm : meth.name = M.1.name := (name_of_methodNamed B.named B.method).1
  subst hsz
  have hl := lv_entry av (n := M.2.2.1) hlen
  rw [lg_entry_eq]
  generalize (lg_sl av ++ List.replicate (M.2.2.1 - (lg_sl av).length) Slot.unset).toArray = ls at hl ⊢
  have hW2 : cj_W D tys (cj_A G s.heap.size) G s.heap := by
    obtain ⟨ws, h1, h2, h3⟩ := hW
    exact ⟨ws, h1, ⟨h2.1, fun k9 q hk => by obtain ⟨x, hx⟩ := h3.2 k9 q.1 q.2 hk; exact Or.inl (by rw [hx]; simp)⟩, h3⟩
  exact kk p l e s m _ below meth c D tys (cj_A G s.heap.size) s.heap [] 0 0 ls ⟨B.exec, B.bytes, hml, hown, fun w hw => hts w (List.mem_cons_of_mem _ hw), B.returns, B.notSynchronized, htab, hl9, hK, hty, hB, hZ, fun q h => Or.inr h, hnm⟩ hW2 va_S.rf (by omega) (by omega) hl
theorem cj_T.mono {av : List Value} {Qr' : Option Value → cj_G → Prop} {Qx' : String → cj_G → Prop} (h : cj_T M d k n av G Qr Qx) (hr : ∀ v G', Qr v G' → Qr' v G') (hx : ∀ E G', Qx E G' → Qx' E G') : cj_T M d k n av G Qr' Qx' := by
  intro l hl9 D tys hty sz p e ha hc hk s m args below hf happ hP hK
  obtain ⟨t, o, h1, h2, h3, hQ⟩ := h l hl9 D tys hty sz p e ha hc hk s m args below hf happ hP hK
  refine ⟨t, o, h1, h2, h3, ?_⟩
  rcases hQ with ⟨⟨⟨v, G', e1, e2, e3⟩, hF⟩, L, hL⟩ | ⟨q, e1, E, ce, L, ⟨⟨G', x1, x2⟩, x3⟩, x4⟩
  · exact Or.inl ⟨⟨⟨v, G', e1, hr v G' e2, e3⟩, hF⟩, L, hL⟩
  · exact Or.inr ⟨q, e1, E, ce, L, ⟨⟨G', hx E G' x1, x2⟩, x3⟩, x4⟩
end CJ
