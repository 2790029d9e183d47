/-! THE JUDGEMENT FOR THE LAW'S OWN METHODS: E says more of the start (the script; the table of exceptions) -/
def ci_C (E : State → (Nat → Prop) → Code → Prop) (M : cj_M) (p : Program) (l : Launch) (s : State) (m : MethodId) (args : Array Value) (meth : Method) (c : Code) (D : va_G) (tys : List (ClassId × FieldType)) (A : Nat → Prop) : Prop :=
  p.tables.exec = Jvm.exec ∧ c.code = M.2.1 ∧ c.maxLocals = M.2.2.1 ∧ s.vm.findClass M.1.cls = some m.cls ∧ (∀ w ∈ cj_all, w.before args s = true) ∧ meth.sig.returnType = M.2.2.2 ∧ meth.locks = false ∧ E s A c ∧ l.stackTraces = false ∧ va_K D vwCl tys s ∧ tys.map (fun q => q.2) = cj_tl ∧ cj_B s ∧ cj_Z A s s.heap ∧ (∀ q, s.heap.size ≤ q → A q)
section CIC
variable {E : State → (Nat → Prop) → Code → Prop} {M : cj_M} {p : Program} {l : Launch} {s : State} {m : MethodId} {args : Array Value} {meth : Method} {c : Code} {D : va_G} {tys : List (ClassId × FieldType)} {A : Nat → Prop}
theorem ci_C.x (C : ci_C E M p l s m args meth c D tys A) : p.tables.exec = Jvm.exec := C.1
theorem ci_C.b (C : ci_C E M p l s m args meth c D tys A) : c.code = M.2.1 := C.2.1
theorem ci_C.ml (C : ci_C E M p l s m args meth c D tys A) : c.maxLocals = M.2.2.1 := C.2.2.1
theorem ci_C.own (C : ci_C E M p l s m args meth c D tys A) : s.vm.findClass M.1.cls = some m.cls := C.2.2.2.1
theorem ci_C.ts (C : ci_C E M p l s m args meth c D tys A) : ∀ w ∈ cj_all, w.before args s = true := C.2.2.2.2.1
theorem ci_C.r (C : ci_C E M p l s m args meth c D tys A) : meth.sig.returnType = M.2.2.2 := C.2.2.2.2.2.1
theorem ci_C.lk (C : ci_C E M p l s m args meth c D tys A) : meth.locks = false := C.2.2.2.2.2.2.1
theorem ci_C.e (C : ci_C E M p l s m args meth c D tys A) : E s A c := C.2.2.2.2.2.2.2.1
theorem ci_C.tr (C : ci_C E M p l s m args meth c D tys A) : l.stackTraces = false := C.2.2.2.2.2.2.2.2.1
theorem ci_C.K (C : ci_C E M p l s m args meth c D tys A) : va_K D vwCl tys s := C.2.2.2.2.2.2.2.2.2.1
theorem ci_C.ty (C : ci_C E M p l s m args meth c D tys A) : tys.map (fun q => q.2) = cj_tl := C.2.2.2.2.2.2.2.2.2.2.1
theorem ci_C.B (C : ci_C E M p l s m args meth c D tys A) : cj_B s := C.2.2.2.2.2.2.2.2.2.2.2.1
theorem ci_C.Z (C : ci_C E M p l s m args meth c D tys A) : cj_Z A s s.heap := C.2.2.2.2.2.2.2.2.2.2.2.2.1
theorem ci_C.fr (C : ci_C E M p l s m args meth c D tys A) : ∀ q, s.heap.size ≤ q → A q := C.2.2.2.2.2.2.2.2.2.2.2.2.2
theorem ci_C.tyAt (C : ci_C E M p l s m args meth c D tys A) {t : Nat} {ty : FieldType} (ht : cj_tl[t]? = some ty) : tys[t]? = some (cj_cd tys t, ty) := by
  have h1 : (tys.map (fun q => q.2))[t]? = some ty := by rw [C.ty]; exact ht
  rw [List.getElem?_map] at h1
  cases h2 : tys[t]? with
  | none => rw [h2] at h1; cases h1
  | some q =>
    rw [h2] at h1
    have h3 : q.2 = ty := Option.some.inj h1
    unfold cj_cd
    rw [h2, ← h3]
end CIC
def ci_J (E : State → (Nat → Prop) → Code → Prop) (M : cj_M) (d k0 n0 : Nat) (Qr : Option Value → cj_G → Prop) (Qx : String → cj_G → Prop) (k n pc : Nat) (lv : List (Nat × Value)) (st : List Value) (G : cj_G) : Prop :=
  ∀ (R : Room) (_ : R.cells = k0 ∧ R.slots = n0 ∧ d ≤ R.frames ∧ 48 * d ≤ R.locals) (p : Program) (l : Launch) (e : Env) (s : State) (m : MethodId) (args : Array Value) (below : List Frame) (meth : Method) (c : Code) (D : va_G) (tys : List (ClassId × FieldType)) (A : Nat → Prop) (H : Heap) (locs : List Loc) (c0 s0 : Nat) (ls : Array Slot),
    ci_C E M p l s m args meth c D tys A → cj_W D tys A G H → va_S A s.heap H locs → c0 + k ≤ k0 → s0 + n ≤ n0 → lv_has ls M.2.2.1 lv →
    W p l e R s m args below meth c H locs c0 s0 (vx_MQ below (cj_Q D tys A Qr) (cj_X D tys A Qx) args s k0 n0 A) (F0 m pc ls st)
section CI
variable {E : State → (Nat → Prop) → Code → Prop} {M : cj_M} {d k0 n0 k n pc : Nat} {Qr : Option Value → cj_G → Prop} {Qx : String → cj_G → Prop} {lv lv' : List (Nat × Value)} {st : List Value} {G : cj_G}
theorem ci_sub (h : ∀ q ∈ lv', q ∈ lv) (kk : ci_J E M d k0 n0 Qr Qx k n pc lv' st G) : ci_J E M d k0 n0 Qr Qx k n pc lv st G := by
  intro R hR p l e s m args below meth c D tys A H locs c0 s0 ls C W0 S hc hn hl
  exact kk R hR p l e s m args below meth c D tys A H locs c0 s0 ls C W0 S hc hn ⟨hl.1, hl.2.1, fun q hq => hl.2.2 q (h q hq)⟩
theorem ci_fewer {k' n' : Nat} (h1 : k' ≤ k) (h2 : n' ≤ n) (kk : ci_J E M d k0 n0 Qr Qx k' n' pc lv st G) : ci_J E M d k0 n0 Qr Qx k n pc lv st G := by
  intro R hR p l e s m args below meth c D tys A H locs c0 s0 ls C W0 S hc hn hl
  exact kk R hR p l e s m args below meth c D tys A H locs c0 s0 ls C W0 S (by omega) (by omega) hl
theorem ci_eqG {G' : cj_G} (h : G = G') (kk : ci_J E M d k0 n0 Qr Qx k n pc lv st G') : ci_J E M d k0 n0 Qr Qx k n pc lv st G := h ▸ kk
theorem ci_iconst {z : Int} {v : Int32} (hd : decode M.2.1 pc = .ok (.iconst z, 1)) (hv : Int32.ofInt z = v) (kk : ci_J E M d k0 n0 Qr Qx k n (pc + 1) lv (.int v :: st) G) : ci_J E M d k0 n0 Qr Qx k n pc lv st G := by
  intro R hR p l e s m args below meth c D tys A H locs c0 s0 ls C W0 S hc hn hl
  exact lv_iconst C.x C.b hd hv (kk R hR p l e s m args below meth c D tys A H locs c0 s0 ls C W0 S hc hn hl)
theorem ci_bipush {z : Int} {v : Int32} (hd : decode M.2.1 pc = .ok (.bipush z, 2)) (hv : (Int8.ofInt z).toInt32 = v) (kk : ci_J E M d k0 n0 Qr Qx k n (pc + 2) lv (.int v :: st) G) : ci_J E M d k0 n0 Qr Qx k n pc lv st G := by
  intro R hR p l e s m args below meth c D tys A H locs c0 s0 ls C W0 S hc hn hl
  exact lv_bipush C.x C.b hd hv (kk R hR p l e s m args below meth c D tys A H locs c0 s0 ls C W0 S hc hn hl)
theorem ci_sipush {z : Int} {v : Int32} (hd : decode M.2.1 pc = .ok (.sipush z, 3)) (hv : (Int16.ofInt z).toInt32 = v) (kk : ci_J E M d k0 n0 Qr Qx k n (pc + 3) lv (.int v :: st) G) : ci_J E M d k0 n0 Qr Qx k n pc lv st G := by
  intro R hR p l e s m args below meth c D tys A H locs c0 s0 ls C W0 S hc hn hl
  exact lv_sipush C.x C.b hd hv (kk R hR p l e s m args below meth c D tys A H locs c0 s0 ls C W0 S hc hn hl)
theorem ci_iload_n {j : Fin 4} {x : Int32} (hd : decode M.2.1 pc = .ok (.iload_n j, 1)) (hg : cj_lg lv j = some (.int x)) (kk : ci_J E M d k0 n0 Qr Qx k n (pc + 1) lv (.int x :: st) G) : ci_J E M d k0 n0 Qr Qx k n pc lv st G := by
  intro R hR p l e s m args below meth c D tys A H locs c0 s0 ls C W0 S hc hn hl
  exact lv_iload_n C.x C.b hd rfl (cj_lga hl hg) (kk R hR p l e s m args below meth c D tys A H locs c0 s0 ls C W0 S hc hn hl)
theorem ci_iload {i : Nat} {x : Int32} (hd : decode M.2.1 pc = .ok (.iload i, 2)) (hg : cj_lg lv i = some (.int x)) (kk : ci_J E M d k0 n0 Qr Qx k n (pc + 2) lv (.int x :: st) G) : ci_J E M d k0 n0 Qr Qx k n pc lv st G := by
  intro R hR p l e s m args below meth c D tys A H locs c0 s0 ls C W0 S hc hn hl
  exact lv_iload C.x C.b hd (cj_lga hl hg) (kk R hR p l e s m args below meth c D tys A H locs c0 s0 ls C W0 S hc hn hl)
theorem ci_aload_n {j : Fin 4} {x : Nat} (hd : decode M.2.1 pc = .ok (.aload_n j, 1)) (hg : cj_lg lv j = some (.ref x)) (kk : ci_J E M d k0 n0 Qr Qx k n (pc + 1) lv (.ref x :: st) G) : ci_J E M d k0 n0 Qr Qx k n pc lv st G := by
  intro R hR p l e s m args below meth c D tys A H locs c0 s0 ls C W0 S hc hn hl
  exact lv_aload_n C.x C.b hd rfl (cj_lga hl hg) (kk R hR p l e s m args below meth c D tys A H locs c0 s0 ls C W0 S hc hn hl)
theorem ci_aload {i : Nat} {x : Nat} (hd : decode M.2.1 pc = .ok (.aload i, 2)) (hg : cj_lg lv i = some (.ref x)) (kk : ci_J E M d k0 n0 Qr Qx k n (pc + 2) lv (.ref x :: st) G) : ci_J E M d k0 n0 Qr Qx k n pc lv st G := by
  intro R hR p l e s m args below meth c D tys A H locs c0 s0 ls C W0 S hc hn hl
  exact lv_aload C.x C.b hd (cj_lga hl hg) (kk R hR p l e s m args below meth c D tys A H locs c0 s0 ls C W0 S hc hn hl)
theorem ci_istore_n {j : Fin 4} {x : Int32} (hd : decode M.2.1 pc = .ok (.istore_n j, 1)) (hi : (j : Nat) < M.2.2.1) (hv : ((j : Nat), Value.int x) :: lv.filter (fun q => !(q.1 == (j : Nat)) && !(q.1 + 1 == (j : Nat) && q.2.category == 2)) = lv') (kk : ci_J E M d k0 n0 Qr Qx k n (pc + 1) lv' st G) : ci_J E M d k0 n0 Qr Qx k n pc lv (Value.int x :: st) G := by
  intro R hR p l e s m args below meth c D tys A H locs c0 s0 ls C W0 S hc hn hl
  exact lv_istore_n C.x C.b hd rfl hl hi hv (fun ls' hl' => kk R hR p l e s m args below meth c D tys A H locs c0 s0 ls' C W0 S hc hn hl')
theorem ci_istore {i : Nat} {x : Int32} (hd : decode M.2.1 pc = .ok (.istore i, 2)) (hi : i < M.2.2.1) (hv : (i, Value.int x) :: lv.filter (fun q => !(q.1 == i) && !(q.1 + 1 == i && q.2.category == 2)) = lv') (kk : ci_J E M d k0 n0 Qr Qx k n (pc + 2) lv' st G) : ci_J E M d k0 n0 Qr Qx k n pc lv (Value.int x :: st) G := by
  intro R hR p l e s m args below meth c D tys A H locs c0 s0 ls C W0 S hc hn hl
  exact lv_istore C.x C.b hd hl hi hv (fun ls' hl' => kk R hR p l e s m args below meth c D tys A H locs c0 s0 ls' C W0 S hc hn hl')
theorem ci_astore_n {j : Fin 4} {x : Nat} (hd : decode M.2.1 pc = .ok (.astore_n j, 1)) (hi : (j : Nat) < M.2.2.1) (hv : ((j : Nat), Value.ref x) :: lv.filter (fun q => !(q.1 == (j : Nat)) && !(q.1 + 1 == (j : Nat) && q.2.category == 2)) = lv') (kk : ci_J E M d k0 n0 Qr Qx k n (pc + 1) lv' st G) : ci_J E M d k0 n0 Qr Qx k n pc lv (Value.ref x :: st) G := by
  intro R hR p l e s m args below meth c D tys A H locs c0 s0 ls C W0 S hc hn hl
  exact lv_astore_n C.x C.b hd rfl hl hi hv (fun ls' hl' => kk R hR p l e s m args below meth c D tys A H locs c0 s0 ls' C W0 S hc hn hl')
theorem ci_astore {i : Nat} {x : Nat} (hd : decode M.2.1 pc = .ok (.astore i, 2)) (hi : i < M.2.2.1) (hv : (i, Value.ref x) :: lv.filter (fun q => !(q.1 == i) && !(q.1 + 1 == i && q.2.category == 2)) = lv') (kk : ci_J E M d k0 n0 Qr Qx k n (pc + 2) lv' st G) : ci_J E M d k0 n0 Qr Qx k n pc lv (Value.ref x :: st) G := by
  intro R hR p l e s m args below meth c D tys A H locs c0 s0 ls C W0 S hc hn hl
  exact lv_astore C.x C.b hd hl hi hv (fun ls' hl' => kk R hR p l e s m args below meth c D tys A H locs c0 s0 ls' C W0 S hc hn hl')
theorem ci_iinc {i : Nat} {z : Int} {x v : Int32} (hd : decode M.2.1 pc = .ok (.iinc i z, 3)) (hg : cj_lg lv i = some (.int x)) (hw : x + Int32.ofInt z = v) (hi : i < M.2.2.1) (hv : (i, Value.int v) :: lv.filter (fun q => !(q.1 == i) && !(q.1 + 1 == i && q.2.category == 2)) = lv') (kk : ci_J E M d k0 n0 Qr Qx k n (pc + 3) lv' st G) : ci_J E M d k0 n0 Qr Qx k n pc lv st G := by
  intro R hR p l e s m args below meth c D tys A H locs c0 s0 ls C W0 S hc hn hl
  obtain ⟨q, hq⟩ := List.getElem?_of_mem (cj_lg_mem hg)
  exact lv_iinc C.x C.b hd hl hq hw hi hv (fun ls' hl' => kk R hR p l e s m args below meth c D tys A H locs c0 s0 ls' C W0 S hc hn hl')
theorem ci_iadd {x y : Int32} (hd : decode M.2.1 pc = .ok (.iadd, 1))  (kk : ci_J E M d k0 n0 Qr Qx k n (pc + 1) lv (.int (x + y) :: st) G) : ci_J E M d k0 n0 Qr Qx k n pc lv (.int y :: .int x :: st) G := by
  intro R hR p l e s m args below meth c D tys A H locs c0 s0 ls C W0 S hc hn hl
  exact lv_iadd C.x C.b hd (kk R hR p l e s m args below meth c D tys A H locs c0 s0 ls C W0 S hc hn hl)
theorem ci_isub {x y : Int32} (hd : decode M.2.1 pc = .ok (.isub, 1))  (kk : ci_J E M d k0 n0 Qr Qx k n (pc + 1) lv (.int (x - y) :: st) G) : ci_J E M d k0 n0 Qr Qx k n pc lv (.int y :: .int x :: st) G := by
  intro R hR p l e s m args below meth c D tys A H locs c0 s0 ls C W0 S hc hn hl
  exact lv_isub C.x C.b hd (kk R hR p l e s m args below meth c D tys A H locs c0 s0 ls C W0 S hc hn hl)
theorem ci_iand {x y : Int32} (hd : decode M.2.1 pc = .ok (.iand, 1))  (kk : ci_J E M d k0 n0 Qr Qx k n (pc + 1) lv (.int (x &&& y) :: st) G) : ci_J E M d k0 n0 Qr Qx k n pc lv (.int y :: .int x :: st) G := by
  intro R hR p l e s m args below meth c D tys A H locs c0 s0 ls C W0 S hc hn hl
  exact lv_iand C.x C.b hd (kk R hR p l e s m args below meth c D tys A H locs c0 s0 ls C W0 S hc hn hl)
theorem ci_i2c {x v : Int32} (hd : decode M.2.1 pc = .ok (.i2c, 1)) (hv : (x.toUInt32 % 65536).toInt32 = v) (kk : ci_J E M d k0 n0 Qr Qx k n (pc + 1) lv (.int v :: st) G) : ci_J E M d k0 n0 Qr Qx k n pc lv (.int x :: st) G := by
  intro R hR p l e s m args below meth c D tys A H locs c0 s0 ls C W0 S hc hn hl
  exact lv_i2c C.x C.b hd hv (kk R hR p l e s m args below meth c D tys A H locs c0 s0 ls C W0 S hc hn hl)
theorem ci_i2l {x : Int32} {v : Int64} (hd : decode M.2.1 pc = .ok (.i2l, 1)) (hv : x.toInt64 = v) (kk : ci_J E M d k0 n0 Qr Qx k n (pc + 1) lv (.long v :: st) G) : ci_J E M d k0 n0 Qr Qx k n pc lv (.int x :: st) G := by
  intro R hR p l e s m args below meth c D tys A H locs c0 s0 ls C W0 S hc hn hl
  exact lv_i2l C.x C.b hd hv (kk R hR p l e s m args below meth c D tys A H locs c0 s0 ls C W0 S hc hn hl)
theorem ci_dup {va : Value} (hd : decode M.2.1 pc = .ok (.dup, 1)) (hva : va.category = 1) (kk : ci_J E M d k0 n0 Qr Qx k n (pc + 1) lv (va :: va :: st) G) : ci_J E M d k0 n0 Qr Qx k n pc lv (va :: st) G := by
  intro R hR p l e s m args below meth c D tys A H locs c0 s0 ls C W0 S hc hn hl
  exact lv_dup C.x C.b hd hva (kk R hR p l e s m args below meth c D tys A H locs c0 s0 ls C W0 S hc hn hl)
theorem ci_if_eq {x : Int32} {off : Int} {tgt : Nat} (hd : decode M.2.1 pc = .ok (.ifCond .eq off, 3)) (ht : (pc : Int) + off = (tgt : Int)) (kt : x = 0 → ci_J E M d k0 n0 Qr Qx k n tgt lv st G) (kf : ¬ x = 0 → ci_J E M d k0 n0 Qr Qx k n (pc + 3) lv st G) : ci_J E M d k0 n0 Qr Qx k n pc lv (.int x :: st) G := by
  intro R hR p l e s m args below meth c D tys A H locs c0 s0 ls C W0 S hc hn hl
  exact lv_if_eq C.x C.b hd ht (fun h => kt h R hR p l e s m args below meth c D tys A H locs c0 s0 ls C W0 S hc hn hl) (fun h => kf h R hR p l e s m args below meth c D tys A H locs c0 s0 ls C W0 S hc hn hl)
theorem ci_icmp_eq {x y : Int32} {off : Int} {tgt : Nat} (hd : decode M.2.1 pc = .ok (.if_icmp .eq off, 3)) (ht : (pc : Int) + off = (tgt : Int)) (kt : x = y → ci_J E M d k0 n0 Qr Qx k n tgt lv st G) (kf : ¬ x = y → ci_J E M d k0 n0 Qr Qx k n (pc + 3) lv st G) : ci_J E M d k0 n0 Qr Qx k n pc lv (.int y :: .int x :: st) G := by
  intro R hR p l e s m args below meth c D tys A H locs c0 s0 ls C W0 S hc hn hl
  exact lv_icmp_eq C.x C.b hd ht (fun h => kt h R hR p l e s m args below meth c D tys A H locs c0 s0 ls C W0 S hc hn hl) (fun h => kf h R hR p l e s m args below meth c D tys A H locs c0 s0 ls C W0 S hc hn hl)
theorem ci_if_ne {x : Int32} {off : Int} {tgt : Nat} (hd : decode M.2.1 pc = .ok (.ifCond .ne off, 3)) (ht : (pc : Int) + off = (tgt : Int)) (kt : ¬ x = 0 → ci_J E M d k0 n0 Qr Qx k n tgt lv st G) (kf : x = 0 → ci_J E M d k0 n0 Qr Qx k n (pc + 3) lv st G) : ci_J E M d k0 n0 Qr Qx k n pc lv (.int x :: st) G := by
  intro R hR p l e s m args below meth c D tys A H locs c0 s0 ls C W0 S hc hn hl
  exact lv_if_ne C.x C.b hd ht (fun h => kt h R hR p l e s m args below meth c D tys A H locs c0 s0 ls C W0 S hc hn hl) (fun h => kf h R hR p l e s m args below meth c D tys A H locs c0 s0 ls C W0 S hc hn hl)
theorem ci_icmp_ne {x y : Int32} {off : Int} {tgt : Nat} (hd : decode M.2.1 pc = .ok (.if_icmp .ne off, 3)) (ht : (pc : Int) + off = (tgt : Int)) (kt : ¬ x = y → ci_J E M d k0 n0 Qr Qx k n tgt lv st G) (kf : x = y → ci_J E M d k0 n0 Qr Qx k n (pc + 3) lv st G) : ci_J E M d k0 n0 Qr Qx k n pc lv (.int y :: .int x :: st) G := by
  intro R hR p l e s m args below meth c D tys A H locs c0 s0 ls C W0 S hc hn hl
  exact lv_icmp_ne C.x C.b hd ht (fun h => kt h R hR p l e s m args below meth c D tys A H locs c0 s0 ls C W0 S hc hn hl) (fun h => kf h R hR p l e s m args below meth c D tys A H locs c0 s0 ls C W0 S hc hn hl)
theorem ci_icmp_lt {x y : Int32} {off : Int} {tgt : Nat} (hd : decode M.2.1 pc = .ok (.if_icmp .lt off, 3)) (ht : (pc : Int) + off = (tgt : Int)) (kt : x < y → ci_J E M d k0 n0 Qr Qx k n tgt lv st G) (kf : ¬ x < y → ci_J E M d k0 n0 Qr Qx k n (pc + 3) lv st G) : ci_J E M d k0 n0 Qr Qx k n pc lv (.int y :: .int x :: st) G := by
  intro R hR p l e s m args below meth c D tys A H locs c0 s0 ls C W0 S hc hn hl
  exact lv_icmp_lt C.x C.b hd ht (fun h => kt h R hR p l e s m args below meth c D tys A H locs c0 s0 ls C W0 S hc hn hl) (fun h => kf h R hR p l e s m args below meth c D tys A H locs c0 s0 ls C W0 S hc hn hl)
theorem ci_icmp_ge {x y : Int32} {off : Int} {tgt : Nat} (hd : decode M.2.1 pc = .ok (.if_icmp .ge off, 3)) (ht : (pc : Int) + off = (tgt : Int)) (kt : y ≤ x → ci_J E M d k0 n0 Qr Qx k n tgt lv st G) (kf : ¬ y ≤ x → ci_J E M d k0 n0 Qr Qx k n (pc + 3) lv st G) : ci_J E M d k0 n0 Qr Qx k n pc lv (.int y :: .int x :: st) G := by
  intro R hR p l e s m args below meth c D tys A H locs c0 s0 ls C W0 S hc hn hl
  exact lv_icmp_ge C.x C.b hd ht (fun h => kt h R hR p l e s m args below meth c D tys A H locs c0 s0 ls C W0 S hc hn hl) (fun h => kf h R hR p l e s m args below meth c D tys A H locs c0 s0 ls C W0 S hc hn hl)
theorem ci_icmp_gt {x y : Int32} {off : Int} {tgt : Nat} (hd : decode M.2.1 pc = .ok (.if_icmp .gt off, 3)) (ht : (pc : Int) + off = (tgt : Int)) (kt : y < x → ci_J E M d k0 n0 Qr Qx k n tgt lv st G) (kf : ¬ y < x → ci_J E M d k0 n0 Qr Qx k n (pc + 3) lv st G) : ci_J E M d k0 n0 Qr Qx k n pc lv (.int y :: .int x :: st) G := by
  intro R hR p l e s m args below meth c D tys A H locs c0 s0 ls C W0 S hc hn hl
  exact lv_icmp_gt C.x C.b hd ht (fun h => kt h R hR p l e s m args below meth c D tys A H locs c0 s0 ls C W0 S hc hn hl) (fun h => kf h R hR p l e s m args below meth c D tys A H locs c0 s0 ls C W0 S hc hn hl)
theorem ci_icmp_le {x y : Int32} {off : Int} {tgt : Nat} (hd : decode M.2.1 pc = .ok (.if_icmp .le off, 3)) (ht : (pc : Int) + off = (tgt : Int)) (kt : x ≤ y → ci_J E M d k0 n0 Qr Qx k n tgt lv st G) (kf : ¬ x ≤ y → ci_J E M d k0 n0 Qr Qx k n (pc + 3) lv st G) : ci_J E M d k0 n0 Qr Qx k n pc lv (.int y :: .int x :: st) G := by
  intro R hR p l e s m args below meth c D tys A H locs c0 s0 ls C W0 S hc hn hl
  exact lv_icmp_le C.x C.b hd ht (fun h => kt h R hR p l e s m args below meth c D tys A H locs c0 s0 ls C W0 S hc hn hl) (fun h => kf h R hR p l e s m args below meth c D tys A H locs c0 s0 ls C W0 S hc hn hl)
theorem ci_goto {off : Int} {tgt : Nat} (hd : decode M.2.1 pc = .ok (.goto off, 3)) (ht : (pc : Int) + off = (tgt : Int)) (kk : ci_J E M d k0 n0 Qr Qx k n tgt lv st G) : ci_J E M d k0 n0 Qr Qx k n pc lv st G := by
  intro R hR p l e s m args below meth c D tys A H locs c0 s0 ls C W0 S hc hn hl
  exact lv_goto C.x C.b hd ht (kk R hR p l e s m args below meth c D tys A H locs c0 s0 ls C W0 S hc hn hl)
theorem ci_tableOut {dflt lo hi : Int} {offs : Array Int} {len : Nat} {x : Int32} {tgt : Nat} (hd : decode M.2.1 pc = .ok (.tableswitch dflt lo hi offs, len)) (h : x.toInt < lo ∨ hi < x.toInt) (ht : (pc : Int) + dflt = (tgt : Int)) (kk : ci_J E M d k0 n0 Qr Qx k n tgt lv st G) : ci_J E M d k0 n0 Qr Qx k n pc lv (.int x :: st) G := by
  intro R hR p l e s m args below meth c D tys A H locs c0 s0 ls C W0 S hc hn hl
  exact lv_tableOut C.x C.b hd h ht (kk R hR p l e s m args below meth c D tys A H locs c0 s0 ls C W0 S hc hn hl)
theorem ci_tableIn {dflt lo hi : Int} {offs : Array Int} {len : Nat} {x : Int32} {off : Int} {tgt : Nat} (hd : decode M.2.1 pc = .ok (.tableswitch dflt lo hi offs, len)) (h1 : ¬ x.toInt < lo) (h2 : ¬ hi < x.toInt) (ho : offs[(x.toInt - lo).toNat]? = some off) (ht : (pc : Int) + off = (tgt : Int)) (kk : ci_J E M d k0 n0 Qr Qx k n tgt lv st G) : ci_J E M d k0 n0 Qr Qx k n pc lv (.int x :: st) G := by
  intro R hR p l e s m args below meth c D tys A H locs c0 s0 ls C W0 S hc hn hl
  exact lv_tableIn C.x C.b hd h1 h2 ho ht (kk R hR p l e s m args below meth c D tys A H locs c0 s0 ls C W0 S hc hn hl)
theorem ci_new {index ci N : Nat} {Cn : String} {T : u_T} {tyf : Nat → FieldType} {fs : List Value} (hcl : vwCl[ci]? = some (Cn, T, N)) (hw : ∀ w ∈ u_ws Cn T N, w ∈ cj_all) (hty : ∀ k, k < N → parseFieldDescriptor (T k).2.2.1 = some (tyf k)) (h1 : Cond.classLink M.1.cls index Cn ∈ cj_all) (h2 : Cond.instantiable Cn N ∈ cj_all) (h3 : Cond.initialized Cn ∈ cj_all) (hfs : ∀ j, j < N → defaultValue (tyf j) = vp_V fs j) (hd : decode M.2.1 pc = .ok (.new index, 3))
    (kk : ∀ q : Nat, G q = none → ci_J E M d k0 n0 Qr Qx k n (pc + 3) lv (.ref q :: st) (cj_up G q (.inr (ci, fs)))) : ci_J E M d k0 n0 Qr Qx (k + 1) (n + N) pc lv st G := by
  intro R hR p l e s m args below meth c D tys A H locs c0 s0 ls C W0 S hc hn hl
  obtain ⟨ws, hP, hD, hI⟩ := W0
  exact va_new C.x C.b C.ts hw tyf hty C.own (C.ts _ h1) (C.ts _ h2) (C.ts _ h3) C.K hP hD S C.fr hcl hfs (by rw [hR.1]; omega) (by rw [hR.2.1]; omega) hd (fun q H1 P1 D1 S1 => by
    obtain ⟨i1, i2⟩ := hI.push (x := .inr (ci, fs)) D1
    exact kk q i2 R hR p l e s m args below meth c D tys A H1 locs (c0 + 1) (s0 + N) ls C ⟨_, P1, D1, i1⟩ S1 (by omega) (by omega) hl)
theorem ci_newa {at0 : ArrayType} {t N : Nat} {z : Int32} {a0 : vp_A} {ty : FieldType} (hty : newarray.typeOf at0 = ty) (hp : ∀ C : String, ty ≠ .object C) (ht : cj_tl[t]? = some ty) (h1 : Cond.arrayClass ty ∈ cj_all) (ha : ∀ cA : ClassId, vp_cell cA a0 = arrV cA N (fun _ => defaultValue ty)) (hz : ¬ z < 0) (hN : z.toNatClampNeg = N) (hby : N * componentBytes ty ≤ 536870912) (hd : decode M.2.1 pc = .ok (.newarray at0, 2))
    (kk : ∀ q : Nat, G q = none → ci_J E M d k0 n0 Qr Qx k n (pc + 2) lv (.ref q :: st) (cj_up G q (.inl (t, a0)))) : ci_J E M d k0 n0 Qr Qx (k + 1) (n + N) pc lv (.int z :: st) G := by
  intro R hR p l e s m args below meth c D tys A H locs c0 s0 ls C W0 S hc hn hl
  obtain ⟨ws, hP, hD, hI⟩ := W0
  refine va_newa C.x C.b (by rw [hty]; exact C.ts _ h1) hty C.K hP hD S C.fr ha hz hN hby (by rw [hR.1]; omega) (by rw [hR.2.1]; omega) hd (fun q cA H1 K1 P1 D1 S1 => ?_)
  have e1 : cA = cj_cd tys t := by
    have g1 := (K1.2 tys.length (cA, ty) (by simp)).2
    have g2 := (C.K.2 t _ (C.tyAt ht)).2
    cases ty with
    | object C9 => exact absurd rfl (hp C9)
    | _ => exact Option.some.inj (g1.symm.trans g2)
  subst e1
  obtain ⟨i1, i2⟩ := hI.push (x := .inl (t, a0)) D1
  exact kk q i2 R hR p l e s m args below meth c D tys A H1 locs (c0 + 1) (s0 + N) ls C ⟨_, P1, D1, i1⟩ S1 (by omega) (by omega) hl
theorem ci_iret {x : Int32} (hr : M.2.2.2 = some .int) (hd : decode M.2.1 pc = .ok (.ireturn, 1)) (hq : Qr (some (.int x)) G) : ci_J E M d k0 n0 Qr Qx k n pc lv [.int x] G := by
  intro R hR p l e s m args below meth c D tys A H locs c0 s0 ls C W0 S hc hn hl
  refine W.widen (k := k0) (n := n0) (by omega) (by omega) ?_
  exact vx_ret (W.iret C.x C.b (C.r.trans hr) (fun t ht hW => ⟨⟨_, G, rfl, hq, by rw [ht]; exact W0⟩, S.F ht⟩) S.2.2 hd C.lk)
theorem ci_zret {x : Int32} {ty : FieldType} (hr : M.2.2.2 = some ty) (hnw : narrow ty (.int x) = .int x) (hd : decode M.2.1 pc = .ok (.ireturn, 1)) (hq : Qr (some (.int x)) G) : ci_J E M d k0 n0 Qr Qx k n pc lv [.int x] G := by
  intro R hR p l e s m args below meth c D tys A H locs c0 s0 ls C W0 S hc hn hl
  refine W.widen (k := k0) (n := n0) (by omega) (by omega) ?_
  exact vx_ret (W.zret C.x C.b (C.r.trans hr) hnw (fun t ht hW => ⟨⟨_, G, rfl, hq, by rw [ht]; exact W0⟩, S.F ht⟩) S.2.2 hd C.lk)
/-! the script, longs -/
theorem ci_sld {b L : Nat} {xs : Nat → Int32} {i : Int32} (hE : ∀ s A c, E s A c → va_X b L xs s s.heap ∧ b < s.heap.size ∧ ¬ A b) (hin : vp_in i L) (hd : decode M.2.1 pc = .ok (.iaload, 1)) (kk : ci_J E M d k0 n0 Qr Qx k n (pc + 1) lv (.int (xs i.toNatClampNeg) :: st) G) : ci_J E M d k0 n0 Qr Qx k n pc lv (.int i :: .ref b :: st) G := by
  intro R hR p l e s m args below meth c D tys A H locs c0 s0 ls C W0 S hc hn hl
  obtain ⟨h1, h2, h3⟩ := hE s A c C.e
  exact va_sld C.x C.b h1 h2 h3 S hin hd (kk R hR p l e s m args below meth c D tys A H locs c0 s0 ls C W0 S hc hn hl)
theorem ci_slen {b L : Nat} {xs : Nat → Int32} (hE : ∀ s A c, E s A c → va_X b L xs s s.heap ∧ b < s.heap.size ∧ ¬ A b) (hd : decode M.2.1 pc = .ok (.arraylength, 1)) (kk : ci_J E M d k0 n0 Qr Qx k n (pc + 1) lv (.int (nI L) :: st) G) : ci_J E M d k0 n0 Qr Qx k n pc lv (.ref b :: st) G := by
  intro R hR p l e s m args below meth c D tys A H locs c0 s0 ls C W0 S hc hn hl
  obtain ⟨h1, h2, h3⟩ := hE s A c C.e
  exact va_slen C.x C.b h1 h2 h3 S hd (kk R hR p l e s m args below meth c D tys A H locs c0 s0 ls C W0 S hc hn hl)
theorem ci_lald {a z : Nat} {f : Nat → Int64} {i : Int32} (hd : decode M.2.1 pc = .ok (.laload, 1)) (hG : G a = some (.inl (3, z, .inr (.inl f)))) (hin : vp_in i z) (kk : ci_J E M d k0 n0 Qr Qx k n (pc + 1) lv (.long (f i.toNatClampNeg) :: st) G) : ci_J E M d k0 n0 Qr Qx k n pc lv (.int i :: .ref a :: st) G := by
  intro R hR p l e s m args below meth c D tys A H locs c0 s0 ls C W0 S hc hn hl
  obtain ⟨ws, hP, hD, hI⟩ := id W0
  obtain ⟨q, hq⟩ := hI.1 a _ hG
  exact va_lald C.x C.b C.K hP q 3 hq (C.tyAt rfl) hin hd (kk R hR p l e s m args below meth c D tys A H locs c0 s0 ls C W0 S hc hn hl)
theorem ci_last {a z : Nat} {f : Nat → Int64} {i : Int32} {x : Int64} (hd : decode M.2.1 pc = .ok (.lastore, 1)) (hG : G a = some (.inl (3, z, .inr (.inl f)))) (hin : vp_in i z) (kk : ∀ f' : Nat → Int64, f' i.toNatClampNeg = x → ci_J E M d k0 n0 Qr Qx k n (pc + 1) lv st (cj_up G a (.inl (3, z, .inr (.inl f'))))) : ci_J E M d k0 n0 Qr Qx k n pc lv (.long x :: .int i :: .ref a :: st) G := by
  intro R hR p l e s m args below meth c D tys A H locs c0 s0 ls C W0 S hc hn hl
  obtain ⟨ws, hP, hD, hI⟩ := W0
  obtain ⟨q, hq⟩ := hI.1 a _ hG
  exact va_last C.x C.b C.K hP hD S q 3 hq (C.tyAt rfl) hin hd (fun H1 locs1 P1 D1 S1 => kk _ (by simp [vp_updL]) R hR p l e s m args below meth c D tys A H1 locs1 c0 s0 ls C ⟨_, P1, D1, hI.set (x := (.inl (3, z, .inr (.inl _)))) hD hq⟩ S1 hc hn hl)
theorem ci_lcmp {x y : Int64} (hd : decode M.2.1 pc = .ok (.lcmp, 1)) (kk : ci_J E M d k0 n0 Qr Qx k n (pc + 1) lv (.int (lg_cmp x y) :: st) G) : ci_J E M d k0 n0 Qr Qx k n pc lv (.long y :: .long x :: st) G := by
  intro R hR p l e s m args below meth c D tys A H locs c0 s0 ls C W0 S hc hn hl
  exact W.lcmp C.x C.b hd (kk R hR p l e s m args below meth c D tys A H locs c0 s0 ls C W0 S hc hn hl)
end CI
section VXK
variable {p : Program} {l : Launch} {e : Env} {R : Room} {s : State} {m : MethodId} {args : Array Value} {below : List Frame} {meth : Method} {c : Code} {H : Heap} {locs : List Loc} {cells slots : Nat} {Q : State → Prop} {ls : Array Slot} {rest : List Value} {pc : Nat}
theorem vx_catch {own name : String} {E : String} {ce : Cell} {q : Addr} (hown : s.vm.findClass own = some m.cls) (pre : List ExceptionTableEntry) (x : ExceptionTableEntry) (suf : List ExceptionTableEntry) (hsplit : c.exceptionTable.toList = pre ++ x :: suf)
    (hpass : ∀ z ∈ pre, covers z pc = false ∨ (z.catchType ≠ 0 ∧ ∃ nm : String, (Cond.classLink own z.catchType nm).before args s = true ∧ va_Nc E nm s)) (hx : covers x pc = true) (h0 : x.catchType ≠ 0)
    (hlink : (Cond.classLink own x.catchType name).before args s = true) (hcast : (Cond.castable E name).before args s = true) (hcell : H[q]? = some ce) (hv : ce.vm = .none) (hcl : s.vm.findClass E = some ce.cls)
    (kk : W p l e R s m args below meth c H locs cells slots Q (F0 m x.handlerPc ls [.ref q])) : vx_W p l e R s m args below meth c H locs cells slots Q (F0 m pc ls rest) q := by
  intro T hT X
  have hpl : e.platform.magicAccessors = ({} : Platform).magicAccessors := by rw [X.admits.platform]
  obtain ⟨c3, c4, hc3, hc4, hasg⟩ := Cond.castable_spec hcast
  cases Option.some.inj (hc3.symm.trans hcl)
  obtain ⟨c5, hc5, hcl5⟩ := Cond.classLink_spec hown hlink e.platform hpl
  cases Option.some.inj (hc4.symm.trans hc5)
  obtain ⟨vm', X', st⟩ := Jvm.Stand.thenCaughtThrough X q (g := F0 m pc ls rest) rfl (Steps.refl _) (by rw [hT]; exact hcell) (by rw [hv]; rfl) (by obtain ⟨k9, h9, -⟩ := Vm.findClass_spec hcl; exact ⟨k9, h9⟩) pre x suf hsplit
    (fun z hz => by
      rcases hpass z hz with h | ⟨hz0, nm, hl1, hn1⟩
      · exact Or.inl h
      · obtain ⟨c6, hc6, hcl6⟩ := Cond.classLink_spec hown hl1 e.platform hpl
        obtain ⟨a8, b8, h1, h2, h3⟩ := hn1
        cases Option.some.inj (h1.symm.trans hcl)
        cases Option.some.inj (h2.symm.trans hc6)
        exact Or.inr ⟨hz0, _, hcl6, h3⟩) hx (Or.inr ⟨h0, c4, hcl5, hasg⟩)
  obtain ⟨t, a1, b1⟩ := kk (T.setVm vm') hT X'
  exact ⟨t, st.trans a1, b1⟩
end VXK
section CIK
variable {E : State → (Nat → Prop) → Code → Prop} {M M' : cj_M} {d k0 n0 k n pc d' k' n' : Nat} {Qr Qr' : Option Value → cj_G → Prop} {Qx Qx' : String → cj_G → Prop} {lv : List (Nat × Value)} {st st0 rest As : List Value} {G : cj_G}
section CIK1
variable {R : Room} {p : Program} {l : Launch} {e : Env} {s : State} {m : MethodId} {args : Array Value} {below : List Frame} {meth : Method} {c : Code} {D : va_G} {tys : List (ClassId × FieldType)} {A : Nat → Prop} {H : Heap} {locs : List Loc} {c0 s0 : Nat} {ls : Array Slot}
theorem ci_sub_A (C : ci_C E M p l s m args meth c D tys A) (W0 : cj_W D tys A G H) (S : va_S A s.heap H locs) : ∀ q, cj_A G H.size q → A q := by
  intro q h
  rcases h with h | h
  · cases hg : G q with
    | none => exact absurd hg h
    | some x => exact (W0.lt hg).2
  · exact C.fr q (Nat.le_trans S.1 h)
theorem ci_pre (C : ci_C E M p l s m args meth c D tys A) (W0 : cj_W D tys A G H) (S : va_S A s.heap H locs) (U : State) (hU : U.heap = H) (hW : s.WarmedH U.vm) : cj_P D tys G H.size U := by
  have hsub := ci_sub_A C W0 S
  refine ⟨by rw [hU], va_K.moved hW.alike C.K, cj_B.warm hW C.B, ?_, by rw [hU]; exact W0.weaken (fun _ _ => trivial)⟩
  rw [hU]
  exact ⟨((vx_Zq.moved hW.alike (C.Z.1.kept S.2.1)).narrow hsub), ((vx_Zq.moved hW.alike (C.Z.2.kept S.2.1)).narrow hsub)⟩
/-- the row of the table that takes X -/
def ci_cat (E : State → (Nat → Prop) → Code → Prop) (M : cj_M) (pc : Nat) (X : String) (K : Nat → Prop) : Prop := ∃ (pre : List ExceptionTableEntry) (x : ExceptionTableEntry) (suf : List ExceptionTableEntry), (∀ s A c, E s A c → c.exceptionTable.toList = pre ++ x :: suf ∧ ∀ z ∈ pre, covers z pc = false ∨ (z.catchType ≠ 0 ∧ ∃ nm : String, Cond.classLink M.1.cls z.catchType nm ∈ cj_all ∧ va_Nc X nm s)) ∧ covers x pc = true ∧ x.catchType ≠ 0 ∧ Cond.classLink M.1.cls x.catchType X ∈ cj_all ∧ X ∈ cj_exc ∧ K x.handlerPc
/-- what a run of a callee gives, the rest of the body behind it -/
theorem ci_run (hR : R.cells = k0 ∧ R.slots = n0 ∧ d ≤ R.frames ∧ 48 * d ≤ R.locals) (C : ci_C E M p l s m args meth c D tys A) (W0 : cj_W D tys A G H) (S : va_S A s.heap H locs) (hc : c0 + (k + k') ≤ k0) (hn : s0 + (n + n') ≤ n0) (hl : lv_has ls M.2.2.1 lv) {av : Array Value}
    (hr : vx_Run p l e R s m args below meth c H locs c0 s0 k' n' (F0 m pc ls st0) rest (cj_Q D tys (cj_A G H.size) Qr' av) (cj_X D tys (cj_A G H.size) Qx') (cj_A G H.size))
    (kk : ∀ (v : Option Value) (G' : cj_G), Qr' v G' → ci_J E M d k0 n0 Qr Qx k n (pc + 3) lv (v.toList ++ rest) G') (kx : ∀ (X : String) (G' : cj_G), Qx' X G' → ci_cat E M pc X (fun hp => ∀ q : Nat, ci_J E M d k0 n0 Qr Qx k n hp lv [.ref q] G')) :
    W p l e R s m args below meth c H locs c0 s0 (vx_MQ below (cj_Q D tys A Qr) (cj_X D tys A Qx) args s k0 n0 A) (F0 m pc ls st0) := by
  have hsub := ci_sub_A C W0 S
  intro T hT X
  rcases hr T hT X with ⟨v, st₀, t, T', L, h0, X', hL, e1, e2, ⟨⟨v', G', hv, hq, hw⟩, hF⟩, st⟩ | ⟨q, st₀, t, T', L, X9, ce, h0, X', hL, e1, e2, ⟨⟨G', hq, hw⟩, hF⟩, hce, hcv, hcl, st⟩
  · cases hv
    obtain ⟨k1, k2, k3⟩ := vx_keep (A0 := A) (H0 := s.heap) h0 e1 S (fun q _ h => hsub q h) hsub hL hF
    obtain ⟨t2, a1, b1⟩ := kk v G' hq R hR p l e s m args below meth c D tys A T'.heap (locs ++ L) (c0 + k') (s0 + n') ls C (by rw [e1]; exact hw.weaken hsub) k3 (by omega) (by omega) hl T' rfl X'
    exact ⟨t2, st t2 a1, b1⟩
  · obtain ⟨k1, k2, k3⟩ := vx_keep (A0 := A) (H0 := s.heap) h0 e1 S (fun q _ h => hsub q h) hsub hL hF
    obtain ⟨pre, x, suf, g1, g2, g3, g4, g5, g6⟩ := kx X9 G' hq
    obtain ⟨g7, g8⟩ := g1 s A c C.e
    have hx : vx_W p l e R s m args below meth c T'.heap (locs ++ L) (c0 + k') (s0 + n') (vx_MQ below (cj_Q D tys A Qr) (cj_X D tys A Qx) args s k0 n0 A) (F0 m pc ls rest) q :=
      vx_catch (E := X9) (own := M.1.cls) C.own pre x suf g7 (fun z hz => by
        rcases g8 z hz with h | ⟨h1, nm, h2, h3⟩
        · exact Or.inl h
        · exact Or.inr ⟨h1, nm, C.ts _ h2, h3⟩) g2 g3 (C.ts _ g4) (va_Nw.use rfl (C.B.2.2.1 _ g5)) (by rw [e1]; exact hce) hcv hcl
        (g6 q R hR p l e s m args below meth c D tys A T'.heap (locs ++ L) (c0 + k') (s0 + n') ls C (by rw [e1]; exact hw.weaken hsub) k3 (by omega) (by omega) hl)
    obtain ⟨t2, a1, b1⟩ := hx T' rfl X'
    exact ⟨t2, st.trans a1, b1⟩
end CIK1
theorem ci_cb {np index : Nat} {s : State} {args : Array Value} {own : String} {R : Room} (hR : R.cells = k0 ∧ R.slots = n0 ∧ d ≤ R.frames ∧ 48 * d ≤ R.locals) (h : cj_mw M' np) (hts : ∀ w ∈ cj_all, w.before args s = true) (hd : d' + 1 ≤ d) (hlink : Cond.methodLink own index M'.1 ∈ cj_all) : CallB R s args own index M'.1 M'.2.1 M'.2.2.1 M'.2.2.2 (cj_ws M') (cj_rm d' k' n') k' n' np := by
  have h29 := h.2.2.2.2
  refine ⟨rfl, rfl, ?_, ?_, pay_in hts h.good, List.mem_cons_self, hts _ h.1, hts _ h.2.1, h.2.2.1, h.len, hts _ hlink⟩
  · show d' + 1 ≤ R.frames
    omega
  · show 8 + (M'.2.2.1 + 11) + 48 * d' ≤ R.locals
    omega
theorem ci_callV {index np ci b : Nat} {fs : List Value} (hd : decode M.2.1 pc = .ok (.invokevirtual index, 3)) (lk : cj_lV M.1.cls index M'.1) (mw : cj_mw M' np) (hT : cj_T M' d' k' n' (.ref b :: As) G Qr' Qx') (hdd : d' + 1 ≤ d) (hn : As.length = np) (hst : st0 = As.reverse ++ .ref b :: rest) (h8 : (rest.map fun v => v.category).sum ≤ 8) (hG : G b = some (.inr (ci, fs))) (hcl : (vwCl[ci]?).map (fun q => q.1) = some M'.1.cls)
    (kk : ∀ (v : Option Value) (G' : cj_G), Qr' v G' → ci_J E M d k0 n0 Qr Qx k n (pc + 3) lv (v.toList ++ rest) G') (kx : ∀ (X : String) (G' : cj_G), Qx' X G' → ci_cat E M pc X (fun hp => ∀ q : Nat, ci_J E M d k0 n0 Qr Qx k n hp lv [.ref q] G')) : ci_J E M d k0 n0 Qr Qx (k + k') (n + n') pc lv st0 G := by
  intro R hR p l e s m args below meth c D tys A H locs c0 s0 ls C W0 S hc hn9 hl
  obtain ⟨ws, hP, hD, hI⟩ := id W0
  obtain ⟨q, hq⟩ := hI.1 b _ hG
  cases hcc : vwCl[ci]? with
  | none => rw [hcc] at hcl; cases hcl
  | some r =>
    rw [hcc] at hcl
    have hr1 : r.1 = M'.1.cls := Option.some.inj hcl
    have hrecv := va_recv C.K hP (ci := ci) (q0 := q) hcc hq
    rw [hr1] at hrecv
    refine ci_run (av := (Value.ref b :: As).toArray) hR C W0 S hc hn9 hl (vx_runV (bytes := M'.2.1) (maxL := M'.2.2.1) (ret := M'.2.2.2) (As := As) (rest := rest) (C := M'.1.cls) ⟨C.x, C.b, C.ml, C.own, C.ts⟩ (hT l C.tr D tys C.ty H.size) ⟨ci_cb hR mw C.ts hdd lk.1, C.ts _ lk.2.1, C.ts _ lk.2.2⟩ ⟨cj_P.blind, hrecv, fun U hU hW => ⟨rfl, ci_pre C W0 S U hU hW⟩⟩ rfl hn hl.1 hst (lv_room h8) hd ⟨by rw [hR.1]; omega, by rw [hR.2.1]; omega⟩) kk kx
theorem ci_callI {index np b : Nat} (hd : decode M.2.1 pc = .ok (.invokespecial index, 3)) (lk : Cond.methodLink M.1.cls index M'.1 ∈ cj_all ∧ Cond.instanceMethod M'.1 ∈ cj_all ∧ M'.1.name = "<init>" ∧ M'.2.2.2 = none) (mw : cj_mw M' np) (hT : cj_T M' d' k' n' (.ref b :: As) G Qr' (fun _ _ => False)) (hdd : d' + 1 ≤ d) (hn : As.length = np) (hst : st0 = As.reverse ++ .ref b :: rest) (h8 : (rest.map fun v => v.category).sum ≤ 8)
    (kk : ∀ (v : Option Value) (G' : cj_G), Qr' v G' → ci_J E M d k0 n0 Qr Qx k n (pc + 3) lv (v.toList ++ rest) G') : ci_J E M d k0 n0 Qr Qx (k + k') (n + n') pc lv st0 G := by
  intro R hR p l e s m args below meth c D tys A H locs c0 s0 ls C W0 S hc hn9 hl
  have hM := hT.met C.tr (D := D) C.ty H.size
  have hcb := ci_cb (k' := k') (n' := n') hR mw C.ts hdd lk.1
  rw [lk.2.2.2] at hcb
  refine ci_run (av := (Value.ref b :: As).toArray) (Qx' := fun _ _ => False) hR C W0 S hc hn9 hl ?_ kk (fun _ _ h => absurd h id)
  intro T hT9 X
  exact Or.inl (va_runI (bytes := M'.2.1) (maxL := M'.2.2.1) (As := As) (rest := rest) ⟨C.x, C.b, C.ml, C.own, C.ts⟩ hM ⟨hcb, lk.2.2.1, C.ts _ lk.2.1⟩ ⟨cj_P.blind, fun U hU hW => ⟨rfl, ci_pre C W0 S U hU hW⟩⟩ rfl hn hl.1 hst (lv_room h8) hd ⟨by rw [hR.1]; omega, by rw [hR.2.1]; omega⟩ T hT9 X)
/-! contracts with a start of their own -/
def ci_PX (D : va_G) (tys : List (ClassId × FieldType)) (G : cj_G) (sz : Nat) (Y : State → Prop) : State → Prop := fun U => cj_P D tys G sz U ∧ Y U
def ci_bl (Y : State → Prop) : Prop := ∀ (U : State) (g : JFrame) (mk : MethodId) (a : Array Value), Y U → Y (U.calling g mk a)
theorem ci_blind {D : va_G} {tys : List (ClassId × FieldType)} {sz : Nat} {av : List Value} {Y : State → Prop} (hY : ci_bl Y) : FrameBlind (va_Pc av (ci_PX D tys G sz Y)) := by
  intro a U g mk h
  obtain ⟨h0, h1, h2⟩ := h
  exact ⟨h0, (cj_P.blind a U g mk (⟨h0, h1⟩ : va_Pc av (cj_P D tys G sz) a U)).2, hY U g mk a h2⟩
/-- w: the word of its code -/
def ci_T (w : Cond) (Y : State → Prop) (M : cj_M) (d k n : Nat) (av : List Value) (G : cj_G) (Qr : Option Value → cj_G → Prop) : Prop :=
  ∀ l : Launch, l.stackTraces = false → ∀ (D : va_G) (tys : List (ClassId × FieldType)), tys.map (fun q => q.2) = cj_tl → ∀ sz : Nat, vx_Met l M.1 (w :: cj_all) (cj_rm d k n) (va_Pc av (ci_PX D tys G sz Y)) (cj_Q D tys (cj_A G sz) Qr) (cj_X D tys (cj_A G sz) (fun _ _ => False)) k n (cj_A G sz)
theorem ci_W2 {D : va_G} {tys : List (ClassId × FieldType)} {s : State} (hW : cj_W D tys (fun _ => True) G s.heap) : cj_W D tys (cj_A G s.heap.size) G s.heap := by
  obtain ⟨ws, h1, h2, h3⟩ := hW
  exact ⟨ws, h1, ⟨h2.1, fun k9 q hk => by obtain ⟨x, hx⟩ := h3.2 k9 q.1 q.2 hk; exact Or.inl (by rw [hx]; simp)⟩, h3⟩
theorem ci_T_of {Y : State → Prop} {av : List Value} (hy : plainName M.1.cls = true) (hlen : (lg_sl av).length ≤ M.2.2.1) (hE : ∀ (s : State) (c : Code), Y s → E s (cj_A G s.heap.size) c) (kk : ci_J E M d k n Qr (fun _ _ => False) k n 0 (lv_args 0 av) [] G) : ci_T (.code M.1 M.2.1 M.2.2.1 M.2.2.2) Y M d k n av G Qr := by
  intro l hl9 D tys hty sz
  refine vx_ofW (cc := M.2.1) (maxL := M.2.2.1) (ret := M.2.2.2) hy rfl ?_
  intro p e s m args below meth c s₁ B hml htab hv
  obtain ⟨rfl, ⟨hsz, hK, hB, hZ, hW⟩, hY⟩ := hv
  have hts := atoms_spec (ws := .code M.1 M.2.1 M.2.2.1 M.2.2.2 :: cj_all) B.pre
  have hown : s.vm.findClass M.1.cls = some m.cls := findClass_of_methodNamed B.named
  subst hsz
  have hl := lv_entry av (n := M.2.2.1) hlen
  rw [lg_entry_eq]
  generalize (lg_sl av ++ List.replicate (M.2.2.1 - (lg_sl av).length) Slot.unset).toArray = ls at hl ⊢
  exact kk (cj_rm d k n) ⟨rfl, rfl, Nat.le_refl _, Nat.le_refl _⟩ p l e s m _ below meth c D tys (cj_A G s.heap.size) s.heap [] 0 0 ls ⟨B.exec, B.bytes, hml, hown, fun w hw => hts w (List.mem_cons_of_mem _ hw), B.returns, B.notSynchronized, hE s c hY, hl9, hK, hty, hB, hZ, fun q h => Or.inr h⟩ (ci_W2 hW) va_S.rf (by omega) (by omega) hl
theorem ci_TH_of {Y : State → Prop} {av : List Value} {hh : List (Nat × Nat × Nat × Nat)} (hy : plainName M.1.cls = true) (hlen : (lg_sl av).length ≤ M.2.2.1) (hE : ∀ (s : State) (c : Code), Y s → c.exceptionTable.toList = tableOf hh → E s (cj_A G s.heap.size) c) (kk : ci_J E M d k n Qr (fun _ _ => False) k n 0 (lv_args 0 av) [] G) : ci_T (.codeWith M.1 M.2.1 M.2.2.1 M.2.2.2 hh) Y M d k n av G Qr := by
  intro l hl9 D tys hty sz
  refine vx_ofWH (cc := M.2.1) (maxL := M.2.2.1) (ret := M.2.2.2) (hh := hh) hy rfl ?_
  intro p e s m args below meth c s₁ B hml hv
  obtain ⟨rfl, ⟨hsz, hK, hB, hZ, hW⟩, hY⟩ := hv
  have hts := atoms_spec (ws := .codeWith M.1 M.2.1 M.2.2.1 M.2.2.2 hh :: cj_all) B.pre
  have htab := vx_table (x := M.1) B (hts _ List.mem_cons_self)
  have hown : s.vm.findClass M.1.cls = some m.cls := findClass_of_methodNamed B.named
  subst hsz
  have hl := lv_entry av (n := M.2.2.1) hlen
  rw [lg_entry_eq]
  generalize (lg_sl av ++ List.replicate (M.2.2.1 - (lg_sl av).length) Slot.unset).toArray = ls at hl ⊢
  exact kk (cj_rm d k n) ⟨rfl, rfl, Nat.le_refl _, Nat.le_refl _⟩ p l e s m _ below meth c D tys (cj_A G s.heap.size) s.heap [] 0 0 ls ⟨B.exec, B.bytes, hml, hown, fun w hw => hts w (List.mem_cons_of_mem _ hw), B.returns, B.notSynchronized, hE s c hY htab, hl9, hK, hty, hB, hZ, fun q h => Or.inr h⟩ (ci_W2 hW) va_S.rf (by omega) (by omega) hl
theorem ci_T.met {w : Cond} {Y : State → Prop} {av : List Value} (h : ci_T w Y M d k n av G Qr) {l : Launch} (hl : l.stackTraces = false) {D : va_G} {tys : List (ClassId × FieldType)} (hty : tys.map (fun q => q.2) = cj_tl) (sz : Nat) : Met l M.1 (w :: cj_all) (cj_rm d k n) (va_Pc av (ci_PX D tys G sz Y)) (cj_Q D tys (cj_A G sz) Qr) k n (cj_A G sz) := by
  intro p e ha hc hk s m args below hf happ hP hK
  obtain ⟨t, o, h1, h2, h3, hQ⟩ := h l hl D tys hty sz p e ha hc hk s m args below hf happ hP hK
  refine ⟨t, o, h1, h2, h3, ?_⟩
  rcases hQ with h | ⟨q, e1, E, ce, L, ⟨⟨G', x1, x2⟩, x3⟩, x4⟩
  · exact h
  · exact absurd x1 id
theorem ci_good {w : Cond} (h : w ∈ cj_all) : GoodIn cj_all (w :: cj_all) := by
  intro z hz
  rcases List.mem_cons.mp hz with rfl | hz
  · exact ⟨h, good_of_word (List.mem_filter.mp h).2⟩
  · exact ⟨hz, good_of_word (List.mem_filter.mp hz).2⟩
/-- a static method that has a start of its own -/
theorem ci_callS {index np : Nat} {Y : State → Prop} (hY : ci_bl Y) (hd : decode M.2.1 pc = .ok (.invokestatic index, 3)) (lk : Cond.methodLink M.1.cls index M'.1 ∈ cj_all ∧ Cond.static M'.1 ∈ cj_all) (mw : cj_mw M' np) (hT : ci_T (.code M'.1 M'.2.1 M'.2.2.1 M'.2.2.2) Y M' d' k' n' As G Qr') (hdd : d' + 1 ≤ d) (hn : As.length = np) (hst : st0 = As.reverse ++ rest) (h8 : (rest.map fun v => v.category).sum ≤ 8)
    (hYs : ∀ (s : State) (A : Nat → Prop) (c : Code) (H : Heap) (locs : List Loc) (U : State), E s A c → va_S A s.heap H locs → (∀ q, G q ≠ none → A q) → U.heap = H → s.WarmedH U.vm → Y U)
    (kk : ∀ (v : Option Value) (G' : cj_G), Qr' v G' → ci_J E M d k0 n0 Qr Qx k n (pc + 3) lv (v.toList ++ rest) G') : ci_J E M d k0 n0 Qr Qx (k + k') (n + n') pc lv st0 G := by
  intro R hR p l e s m args below meth c D tys A H locs c0 s0 ls C W0 S hc hn9 hl
  have hM := hT.met C.tr (D := D) C.ty H.size
  have h29 := mw.2.2.2.2
  have hcb : CallB R s args M.1.cls index M'.1 M'.2.1 M'.2.2.1 M'.2.2.2 (.code M'.1 M'.2.1 M'.2.2.1 M'.2.2.2 :: cj_all) (cj_rm d' k' n') k' n' np := by
    refine ⟨rfl, rfl, ?_, ?_, pay_in C.ts (ci_good mw.1), List.mem_cons_self, C.ts _ mw.1, C.ts _ mw.2.1, mw.2.2.1, mw.len, C.ts _ lk.1⟩
    · show d' + 1 ≤ R.frames
      omega
    · show 8 + (M'.2.2.1 + 11) + 48 * d' ≤ R.locals
      omega
  have hsub := ci_sub_A C W0 S
  refine ci_run (av := As.toArray) (Qx' := fun _ _ => False) hR C W0 S hc hn9 hl ?_ kk (fun _ _ h => absurd h id)
  intro T hT9 X
  exact Or.inl (va_runS (bytes := M'.2.1) (maxL := M'.2.2.1) (ret := M'.2.2.2) (As := As) (rest := rest) ⟨C.x, C.b, C.ml, C.own, C.ts⟩ hM ⟨hcb, C.ts _ lk.2⟩ ⟨ci_blind hY, fun U hU hW => ⟨rfl, ci_pre C W0 S U hU hW, hYs s A c H locs U C.e S (fun q hq => hsub q (Or.inl hq)) hU hW⟩⟩ rfl hn hl.1 hst (lv_room h8) hd ⟨by rw [hR.1]; omega, by rw [hR.2.1]; omega⟩ T hT9 X)
/-- and a table of its own -/
theorem ci_callSW {index np : Nat} {Y : State → Prop} {hh : List (Nat × Nat × Nat × Nat)} (hY : ci_bl Y) (hd : decode M.2.1 pc = .ok (.invokestatic index, 3)) (lk : Cond.methodLink M.1.cls index M'.1 ∈ cj_all ∧ Cond.static M'.1 ∈ cj_all) (mw : Cond.codeWith M'.1 M'.2.1 M'.2.2.1 M'.2.2.2 hh ∈ cj_all ∧ Cond.initialized M'.1.cls ∈ cj_all ∧ (M'.1.cls ≠ "java/lang/invoke/MethodHandle" ∧ M'.1.cls ≠ "java/lang/invoke/VarHandle") ∧ (parseMethodDescriptor M'.1.desc).map (fun d => d.parameters.length) = some np ∧ M'.2.2.1 ≤ 29) (hT : ci_T (.codeWith M'.1 M'.2.1 M'.2.2.1 M'.2.2.2 hh) Y M' d' k' n' As G Qr') (hdd : d' + 1 ≤ d) (hn : As.length = np) (hst : st0 = As.reverse ++ rest) (h8 : (rest.map fun v => v.category).sum ≤ 8)
    (hYs : ∀ (s : State) (A : Nat → Prop) (c : Code) (H : Heap) (locs : List Loc) (U : State), E s A c → va_S A s.heap H locs → (∀ q, G q ≠ none → A q) → U.heap = H → s.WarmedH U.vm → Y U)
    (kk : ∀ (v : Option Value) (G' : cj_G), Qr' v G' → ci_J E M d k0 n0 Qr Qx k n (pc + 3) lv (v.toList ++ rest) G') : ci_J E M d k0 n0 Qr Qx (k + k') (n + n') pc lv st0 G := by
  intro R hR p l e s m args below meth c D tys A H locs c0 s0 ls C W0 S hc hn9 hl
  have hM := hT.met C.tr (D := D) C.ty H.size
  have h29 := mw.2.2.2.2
  have hcb : vx_CSW R s args M.1.cls index M'.1 M'.2.1 M'.2.2.1 M'.2.2.2 hh (.codeWith M'.1 M'.2.1 M'.2.2.1 M'.2.2.2 hh :: cj_all) (cj_rm d' k' n') k' n' np := by
    refine ⟨⟨rfl, rfl, ?_, ?_, pay_in C.ts (ci_good mw.1), List.mem_cons_self⟩, C.ts _ mw.1, C.ts _ mw.2.1, mw.2.2.1, fun sig hs => ?_, C.ts _ lk.1, C.ts _ lk.2⟩
    · show d' + 1 ≤ R.frames
      omega
    · show 8 + (M'.2.2.1 + 11) + 48 * d' ≤ R.locals
      omega
    · have h2 := mw.2.2.2.1
      rw [hs] at h2
      exact (Option.some.inj h2).symm
  have hsub := ci_sub_A C W0 S
  refine ci_run (av := As.toArray) (Qx' := fun _ _ => False) hR C W0 S hc hn9 hl ?_ kk (fun _ _ h => absurd h id)
  intro T hT9 X
  exact Or.inl (vx_runSW (bytes := M'.2.1) (maxL := M'.2.2.1) (ret := M'.2.2.2) (As := As) (rest := rest) ⟨C.x, C.b, C.ml, C.own, C.ts⟩ hM hcb ⟨ci_blind hY, fun U hU hW => ⟨rfl, ci_pre C W0 S U hU hW, hYs s A c H locs U C.e S (fun q hq => hsub q (Or.inl hq)) hU hW⟩⟩ rfl hn hl.1 hst (lv_room h8) hd ⟨by rw [hR.1]; omega, by rw [hR.2.1]; omega⟩ T hT9 X)
end CIK
