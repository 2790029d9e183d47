/-! CALLS, over pictures -/
section CK
variable {M M' : cj_M} {d k0 n0 k n pc d' k' n' : Nat} {Qr Qr' : Option Value → cj_G → Prop} {Qx Qx' : String → cj_G → Prop} {lv : List (Nat × Value)} {st st0 rest As : List Value} {G : cj_G}
theorem cj_P.blind {D : va_G} {tys : List (ClassId × FieldType)} {sz : Nat} {av : List Value} : FrameBlind (va_Pc av (cj_P D tys G sz)) := by
  intro a U g mk h
  obtain ⟨h0, h1, h2, h3, h4, h5⟩ := h
  exact ⟨h0, h1, va_K.moved (u := U) (U := U.calling g mk a) (Vm.Alike.refl U.vm) h2, cj_B.warm (s := U) (U := U.calling g mk a) (State.WarmedH.refl U) h3, ⟨vx_Zq.moved (u := U) (U := U.calling g mk a) (Vm.Alike.refl U.vm) h4.1, vx_Zq.moved (u := U) (U := U.calling g mk a) (Vm.Alike.refl U.vm) h4.2⟩, h5⟩
section CK1
variable {p : Program} {l : Launch} {e : Env} {s : State} {m : MethodId} {args : Array Value} {below : List Frame} {meth : Method} {c : Code} {D : va_G} {tys : List (ClassId × FieldType)} {A : Nat → Prop} {H : Heap} {locs : List Loc} {c0 s0 : Nat} {ls : Array Slot}
theorem cj_sub_A (C : cj_C M p l s m args meth c D tys A) (W0 : cj_W D tys A G H) (S : va_S A s.heap H locs) : ∀ q, cj_A G H.size q → A q := by
  intro q h
  rcases h with h | h
  · cases hg : G q with
    | none => exact absurd hg h
    | some x => exact (W0.lt hg).2
  · exact C.fr q (Nat.le_trans S.1 h)
theorem cj_pre (C : cj_C M p l s m args meth c D tys A) (W0 : cj_W D tys A G H) (S : va_S A s.heap H locs) (U : State) (hU : U.heap = H) (hW : s.WarmedH U.vm) : cj_P D tys G H.size U := by
  have hsub := cj_sub_A C W0 S
  refine ⟨by rw [hU], va_K.moved hW.alike C.K, cj_B.warm hW C.B, ?_, by rw [hU]; exact W0.weaken (fun _ _ => trivial)⟩
  rw [hU]
  exact ⟨((vx_Zq.moved hW.alike (C.Z.1.kept S.2.1)).narrow hsub), ((vx_Zq.moved hW.alike (C.Z.2.kept S.2.1)).narrow hsub)⟩
/-- what a run of a callee gives, the rest of the body behind it -/
theorem cj_run (C : cj_C M p l s m args meth c D tys A) (W0 : cj_W D tys A G H) (S : va_S A s.heap H locs) (hc : c0 + (k + k') ≤ k0) (hn : s0 + (n + n') ≤ n0) (hl : lv_has ls M.2.2.1 lv) {av : Array Value}
    (hr : vx_Run p l e (cj_rm d k0 n0) s m args below meth c H locs c0 s0 k' n' (F0 m pc ls st0) rest (cj_Q D tys (cj_A G H.size) Qr' av) (cj_X D tys (cj_A G H.size) Qx') (cj_A G H.size))
    (kk : ∀ (v : Option Value) (G' : cj_G), Qr' v G' → cj_J M d k0 n0 Qr Qx k n (pc + 3) lv (v.toList ++ rest) G') (kx : ∀ (E : String) (G' : cj_G), Qx' E G' → Qx E G') :
    W p l e (cj_rm d k0 n0) s m args below meth c H locs c0 s0 (vx_MQ below (cj_Q D tys A Qr) (cj_X D tys A Qx) args s k0 n0 A) (F0 m pc ls st0) := by
  have hsub := cj_sub_A C W0 S
  intro T hT X
  rcases hr T hT X with ⟨v, st₀, t, T', L, h0, X', hL, e1, e2, ⟨⟨v', G', hv, hq, hw⟩, hF⟩, st⟩ | ⟨q, st₀, t, T', L, E, ce, h0, X', hL, e1, e2, ⟨⟨G', hq, hw⟩, hF⟩, hce, hcv, hcl, st⟩
  · cases hv
    obtain ⟨k1, k2, k3⟩ := vx_keep (A0 := A) (H0 := s.heap) h0 e1 S (fun q _ h => hsub q h) hsub hL hF
    obtain ⟨t2, a1, b1⟩ := kk v G' hq p l e s m args below meth c D tys A T'.heap (locs ++ L) (c0 + k') (s0 + n') ls C (by rw [e1]; exact hw.weaken hsub) k3 (by omega) (by omega) hl T' rfl X'
    exact ⟨t2, st t2 a1, b1⟩
  · obtain ⟨k1, k2, k3⟩ := vx_keep (A0 := A) (H0 := s.heap) h0 e1 S (fun q _ h => hsub q h) hsub hL hF
    have hx : vx_W p l e (cj_rm d k0 n0) s m args below meth c T'.heap (locs ++ L) (c0 + k') (s0 + n') (vx_MQ below (cj_Q D tys A Qr) (cj_X D tys A Qx) args s k0 n0 A) (F0 m pc ls rest) q :=
      vx_out (E := E) (fun x hx => absurd hx (fun h => C.tb x h)) C.lk (by rw [e1]; exact hce) hcv hcl (fun t9 ht9 _ => ⟨⟨G', kx E G' hq, by rw [ht9, e1]; exact hw.weaken hsub⟩, k3.F ht9⟩) k3.2.2 (by omega) (by omega)
    obtain ⟨t2, a1, b1⟩ := hx T' rfl X'
    exact ⟨t2, st.trans a1, b1⟩
end CK1
/-- the words of a method that is called -/
def cj_mw (M' : cj_M) (np : Nat) : Prop := Cond.code M'.1 M'.2.1 M'.2.2.1 M'.2.2.2 ∈ cj_all ∧ Cond.initialized M'.1.cls ∈ cj_all ∧ (M'.1.cls ≠ "java/lang/invoke/MethodHandle" ∧ M'.1.cls ≠ "java/lang/invoke/VarHandle") ∧ (parseMethodDescriptor M'.1.desc).map (fun d => d.parameters.length) = some np ∧ M'.2.2.1 ≤ 29
theorem cj_mw.good {np : Nat} (h : cj_mw M' np) : GoodIn cj_all (cj_ws M') := by
  intro w hw
  rcases List.mem_cons.mp hw with rfl | hw
  · exact ⟨h.1, good_of_word (List.mem_filter.mp h.1).2⟩
  · exact ⟨hw, good_of_word (List.mem_filter.mp hw).2⟩
theorem cj_mw.len {np : Nat} (h : cj_mw M' np) : ∀ sig, parseMethodDescriptor M'.1.desc = some sig → np = sig.parameters.length := by
  intro sig hs
  have h2 := h.2.2.2.1
  rw [hs] at h2
  exact (Option.some.inj h2).symm
theorem cj_cb {np index : Nat} {s : State} {args : Array Value} {own : String} (h : cj_mw M' np) (hts : ∀ w ∈ cj_all, w.before args s = true) (hd : d' + 1 ≤ d) (hlink : Cond.methodLink own index M'.1 ∈ cj_all) : CallB (cj_rm d k0 n0) s args own index M'.1 M'.2.1 M'.2.2.1 M'.2.2.2 (cj_ws M') (cj_rm d' k' n') k' n' np := by
  have h29 := h.2.2.2.2
  refine ⟨rfl, rfl, hd, ?_, pay_in hts h.good, List.mem_cons_self, hts _ h.1, hts _ h.2.1, h.2.2.1, h.len, hts _ hlink⟩
  show 8 + (M'.2.2.1 + 11) + 48 * d' ≤ 48 * d
  omega
/-- a method on an object of its own class -/
def cj_lV (own : String) (index : Nat) (y : MethodName) : Prop := Cond.methodLink own index y ∈ cj_all ∧ Cond.instanceMethod y ∈ cj_all ∧ Cond.selects y.cls y y ∈ cj_all
theorem cj_callV {index np ci b : Nat} {fs : List Value} (hd : decode M.2.1 pc = .ok (.invokevirtual index, 3)) (lk : cj_lV M.1.cls index M'.1) (mw : cj_mw M' np) (hT : cj_T M' d' k' n' (.ref b :: As) G Qr' Qx') (hdd : d' + 1 ≤ d) (hn : As.length = np) (hst : st0 = As.reverse ++ .ref b :: rest) (h8 : (rest.map fun v => v.category).sum ≤ 8) (hG : G b = some (.inr (ci, fs))) (hcl : (vwCl[ci]?).map (fun q => q.1) = some M'.1.cls)
    (kk : ∀ (v : Option Value) (G' : cj_G), Qr' v G' → cj_J M d k0 n0 Qr Qx k n (pc + 3) lv (v.toList ++ rest) G') (kx : ∀ (E : String) (G' : cj_G), Qx' E G' → Qx E G') : cj_J M d k0 n0 Qr Qx (k + k') (n + n') pc lv st0 G := by
  intro p l e s m args below meth c D tys A H locs c0 s0 ls C W0 S hc hn9 hl
  obtain ⟨ws, hP, hD, hI⟩ := id W0
  obtain ⟨q, hq⟩ := hI.1 b _ hG
  cases hcc : vwCl[ci]? with
  | none => rw [hcc] at hcl; cases hcl
  | some r =>
    rw [hcc] at hcl
    have hr1 : r.1 = M'.1.cls := Option.some.inj hcl
    have hrecv := va_recv C.K hP (ci := ci) (q0 := q) hcc hq
    rw [hr1] at hrecv
    refine cj_run (av := (Value.ref b :: As).toArray) C W0 S hc hn9 hl (vx_runV (bytes := M'.2.1) (maxL := M'.2.2.1) (ret := M'.2.2.2) (As := As) (rest := rest) (C := M'.1.cls) ⟨C.x, C.b, C.ml, C.own, C.ts⟩ (hT l C.tr D tys C.ty H.size) ⟨cj_cb mw C.ts hdd lk.1, C.ts _ lk.2.1, C.ts _ lk.2.2⟩ ⟨cj_P.blind, hrecv, fun U hU hW => ⟨rfl, cj_pre C W0 S U hU hW⟩⟩ rfl hn hl.1 hst (lv_room h8) hd ⟨by show c0 + k' ≤ k0; omega, by show s0 + n' ≤ n0; omega⟩) kk kx
theorem cj_callS {index np : Nat} (hd : decode M.2.1 pc = .ok (.invokestatic index, 3)) (lk : Cond.methodLink M.1.cls index M'.1 ∈ cj_all ∧ Cond.static M'.1 ∈ cj_all) (mw : cj_mw M' np) (hT : cj_T M' d' k' n' As G Qr' Qx') (hdd : d' + 1 ≤ d) (hn : As.length = np) (hst : st0 = As.reverse ++ rest) (h8 : (rest.map fun v => v.category).sum ≤ 8)
    (kk : ∀ (v : Option Value) (G' : cj_G), Qr' v G' → cj_J M d k0 n0 Qr Qx k n (pc + 3) lv (v.toList ++ rest) G') (kx : ∀ (E : String) (G' : cj_G), Qx' E G' → Qx E G') : cj_J M d k0 n0 Qr Qx (k + k') (n + n') pc lv st0 G := by
  intro p l e s m args below meth c D tys A H locs c0 s0 ls C W0 S hc hn9 hl
  exact cj_run (av := As.toArray) C W0 S hc hn9 hl (vx_runS (bytes := M'.2.1) (maxL := M'.2.2.1) (ret := M'.2.2.2) (As := As) (rest := rest) ⟨C.x, C.b, C.ml, C.own, C.ts⟩ (hT l C.tr D tys C.ty H.size) ⟨cj_cb mw C.ts hdd lk.1, C.ts _ lk.2⟩ ⟨cj_P.blind, fun U hU hW => ⟨rfl, cj_pre C W0 S U hU hW⟩⟩ rfl hn hl.1 hst (lv_room h8) hd ⟨by show c0 + k' ≤ k0; omega, by show s0 + n' ≤ n0; omega⟩) kk kx
/-- a method that never throws -/
theorem cj_T.met {av : List Value} (h : cj_T M d k n av G Qr (fun _ _ => False)) {l : Launch} (hl : l.stackTraces = false) {D : va_G} {tys : List (ClassId × FieldType)} (hty : tys.map (fun q => q.2) = cj_tl) (sz : Nat) : Met l M.1 (cj_ws M) (cj_rm d k n) (va_Pc av (cj_P D tys G sz)) (cj_Q D tys (cj_A G sz) Qr) k n (cj_A G sz) := by
  intro p e ha hc hk s m args below hf happ hP hK
  obtain ⟨t, o, h1, h2, h3, hQ⟩ := h l hl D tys hty sz p e ha hc hk s m args below hf happ hP hK
  refine ⟨t, o, h1, h2, h3, ?_⟩
  rcases hQ with h | ⟨q, e1, E, ce, L, ⟨⟨G', x1, x2⟩, x3⟩, x4⟩
  · exact h
  · exact absurd x1 id
theorem cj_callI {index np b : Nat} (hd : decode M.2.1 pc = .ok (.invokespecial index, 3)) (lk : Cond.methodLink M.1.cls index M'.1 ∈ cj_all ∧ Cond.instanceMethod M'.1 ∈ cj_all ∧ M'.1.name = "<init>" ∧ M'.2.2.2 = none) (mw : cj_mw M' np) (hT : cj_T M' d' k' n' (.ref b :: As) G Qr' (fun _ _ => False)) (hdd : d' + 1 ≤ d) (hn : As.length = np) (hst : st0 = As.reverse ++ .ref b :: rest) (h8 : (rest.map fun v => v.category).sum ≤ 8)
    (kk : ∀ (v : Option Value) (G' : cj_G), Qr' v G' → cj_J M d k0 n0 Qr Qx k n (pc + 3) lv (v.toList ++ rest) G') : cj_J M d k0 n0 Qr Qx (k + k') (n + n') pc lv st0 G := by
  intro p l e s m args below meth c D tys A H locs c0 s0 ls C W0 S hc hn9 hl
  have hM := hT.met C.tr (D := D) C.ty H.size
  have hcb := cj_cb (k0 := k0) (n0 := n0) (k' := k') (n' := n') mw C.ts hdd lk.1
  rw [lk.2.2.2] at hcb
  refine cj_run (av := (Value.ref b :: As).toArray) (Qx' := fun _ _ => False) C W0 S hc hn9 hl ?_ kk (fun _ _ h => absurd h id)
  intro T hT9 X
  exact Or.inl (va_runI (bytes := M'.2.1) (maxL := M'.2.2.1) (As := As) (rest := rest) ⟨C.x, C.b, C.ml, C.own, C.ts⟩ hM ⟨hcb, lk.2.2.1, C.ts _ lk.2.1⟩ ⟨cj_P.blind, fun U hU hW => ⟨rfl, cj_pre C W0 S U hU hW⟩⟩ rfl hn hl.1 hst (lv_room h8) hd ⟨by show c0 + k' ≤ k0; omega, by show s0 + n' ≤ n0; omega⟩ T hT9 X)
/-- a private static of a nest mate -/
theorem cj_callSN {index np : Nat} (hd : decode M.2.1 pc = .ok (.invokestatic index, 3)) (lk : (M.1.cls, index, M'.1) ∈ cj_nest ∧ Cond.static M'.1 ∈ cj_all) (mw : cj_mw M' np) (hT : cj_T M' d' k' n' As G Qr' (fun _ _ => False)) (hdd : d' + 1 ≤ d) (hn : As.length = np) (hst : st0 = As.reverse ++ rest) (h8 : (rest.map fun v => v.category).sum ≤ 8)
    (kk : ∀ (v : Option Value) (G' : cj_G), Qr' v G' → cj_J M d k0 n0 Qr Qx k n (pc + 3) lv (v.toList ++ rest) G') : cj_J M d k0 n0 Qr Qx (k + k') (n + n') pc lv st0 G := by
  intro p l e s m args below meth c D tys A H locs c0 s0 ls C W0 S hc hn9 hl
  have h29 := mw.2.2.2.2
  have hM := hT.met C.tr (D := D) C.ty H.size
  have hcn : va_CN (cj_rm d k0 n0) s args M.1.cls index M'.1 RX6 M'.2.1 M'.2.2.1 M'.2.2.2 (cj_ws M') (cj_rm d' k' n') k' n' np := by
    refine ⟨⟨rfl, rfl, hdd, ?_, pay_in C.ts mw.good, List.mem_cons_self⟩, C.ts _ mw.1, C.ts _ mw.2.1, mw.2.2.1, mw.len, va_Nw.use rfl (C.B.1 _ lk.1)⟩
    show 8 + (M'.2.2.1 + 11) + 48 * d' ≤ 48 * d
    omega
  refine cj_run (av := As.toArray) (Qx' := fun _ _ => False) C W0 S hc hn9 hl ?_ kk (fun _ _ h => absurd h id)
  intro T hT9 X
  exact Or.inl (va_runSN (host := RX6) (bytes := M'.2.1) (maxL := M'.2.2.1) (ret := M'.2.2.2) (As := As) (rest := rest) ⟨C.x, C.b, C.ml, C.own, C.ts⟩ hM ⟨hcn, C.ts _ lk.2, trivial⟩ ⟨cj_P.blind, fun U hU hW => ⟨rfl, cj_pre C W0 S U hU hW⟩⟩ rfl hn hl.1 hst (lv_room h8) hd ⟨by show c0 + k' ≤ k0; omega, by show s0 + n' ≤ n0; omega⟩ T hT9 X)
/-- a private constructor of a nest mate -/
theorem cj_callIN {index np b : Nat} (hd : decode M.2.1 pc = .ok (.invokespecial index, 3)) (lk : (M.1.cls, index, M'.1) ∈ cj_nest ∧ Cond.instanceMethod M'.1 ∈ cj_all ∧ M'.1.name = "<init>" ∧ M'.2.2.2 = none) (mw : cj_mw M' np) (hT : cj_T M' d' k' n' (.ref b :: As) G Qr' (fun _ _ => False)) (hdd : d' + 1 ≤ d) (hn : As.length = np) (hst : st0 = As.reverse ++ .ref b :: rest) (h8 : (rest.map fun v => v.category).sum ≤ 8)
    (kk : ∀ (v : Option Value) (G' : cj_G), Qr' v G' → cj_J M d k0 n0 Qr Qx k n (pc + 3) lv (v.toList ++ rest) G') : cj_J M d k0 n0 Qr Qx (k + k') (n + n') pc lv st0 G := by
  intro p l e s m args below meth c D tys A H locs c0 s0 ls C W0 S hc hn9 hl
  have h29 := mw.2.2.2.2
  have hM := hT.met C.tr (D := D) C.ty H.size
  have hcn : va_CN (cj_rm d k0 n0) s args M.1.cls index M'.1 RX6 M'.2.1 M'.2.2.1 none (cj_ws M') (cj_rm d' k' n') k' n' np := by
    have hcw : Cond.code M'.1 M'.2.1 M'.2.2.1 none ∈ cj_ws M' := by rw [← lk.2.2.2]; exact List.mem_cons_self
    have hcd : (Cond.code M'.1 M'.2.1 M'.2.2.1 none).before args s = true := by rw [← lk.2.2.2]; exact C.ts _ mw.1
    refine ⟨⟨rfl, rfl, hdd, ?_, pay_in C.ts mw.good, hcw⟩, hcd, C.ts _ mw.2.1, mw.2.2.1, mw.len, va_Nw.use rfl (C.B.1 _ lk.1)⟩
    show 8 + (M'.2.2.1 + 11) + 48 * d' ≤ 48 * d
    omega
  refine cj_run (av := (Value.ref b :: As).toArray) (Qx' := fun _ _ => False) C W0 S hc hn9 hl ?_ kk (fun _ _ h => absurd h id)
  intro T hT9 X
  exact Or.inl (va_runIN (host := RX6) (bytes := M'.2.1) (maxL := M'.2.2.1) (As := As) (rest := rest) ⟨C.x, C.b, C.ml, C.own, C.ts⟩ hM ⟨hcn, lk.2.2.1, C.ts _ lk.2.1⟩ ⟨cj_P.blind, fun U hU hW => ⟨rfl, cj_pre C W0 S U hU hW⟩⟩ rfl hn hl.1 hst (lv_room h8) hd ⟨by show c0 + k' ≤ k0; omega, by show s0 + n' ≤ n0; omega⟩ T hT9 X)
/-- Object.<init> -/
theorem cj_obj {index a : Nat} (hd : decode M.2.1 pc = .ok (.invokespecial index, 3)) (lk : Cond.methodLink M.1.cls index Lib.objectInit ∈ cj_all ∧ Cond.instanceMethod Lib.objectInit ∈ cj_all ∧ Cond.code Lib.objectInit ⟨#[0xb1]⟩ 1 none ∈ cj_all) (hdd : 1 ≤ d) (h8 : (rest.map fun v => v.category).sum ≤ 8) (kk : cj_J M d k0 n0 Qr Qx k n (pc + 3) lv rest G) : cj_J M d k0 n0 Qr Qx k n pc lv (.ref a :: rest) G := by
  intro p l e s m args below meth c D tys A H locs c0 s0 ls C W0 S hc hn9 hl
  have h9 := lv_room (m := m) (pc := pc) (ls := ls) (rest := .ref a :: rest) h8
  refine W.objInit C.x C.b C.own (C.ts _ lk.1) (C.ts _ lk.2.1) (C.ts _ lk.2.2) rfl (by rw [C.ml]; exact hl.1) rfl hd hdd (by show _ ≤ 48 * d; omega) ?_
  exact kk p l e s m args below meth c D tys A H locs c0 s0 ls C W0 S hc hn9 hl
/-- Math.max, Math.min of ints -/
theorem cj_max {index : Nat} {x y : Int32} (hd : decode M.2.1 pc = .ok (.invokestatic index, 3)) (lk : Cond.methodLink M.1.cls index Lib.Math.max.name ∈ cj_all ∧ Cond.static Lib.Math.max.name ∈ cj_all ∧ Cond.initialized "java/lang/Math" ∈ cj_all ∧ Cond.code Lib.Math.max.name Lib.Math.max.code 2 (some .int) ∈ cj_all) (hdd : 1 ≤ d) (h8 : (rest.map fun v => v.category).sum ≤ 8) (kk : cj_J M d k0 n0 Qr Qx k n (pc + 3) lv (.int (if x < y then y else x) :: rest) G) : cj_J M d k0 n0 Qr Qx k n pc lv (.int y :: .int x :: rest) G := by
  intro p l e s m args below meth c D tys A H locs c0 s0 ls C W0 S hc hn9 hl
  refine va_mmax C.x C.b (by rw [C.ml]; exact hl.1.symm) C.own (C.ts _ lk.1) (C.ts _ lk.2.1) (C.ts _ lk.2.2.1) (C.ts _ lk.2.2.2) hdd (by show _ ≤ 48 * d; omega) (by show c0 ≤ k0; omega) (by show s0 ≤ n0; omega) hd ?_
  exact kk p l e s m args below meth c D tys A H locs c0 s0 ls C W0 S hc hn9 hl
theorem cj_min {index : Nat} {x y : Int32} (hd : decode M.2.1 pc = .ok (.invokestatic index, 3)) (lk : Cond.methodLink M.1.cls index Lib.Math.min.name ∈ cj_all ∧ Cond.static Lib.Math.min.name ∈ cj_all ∧ Cond.initialized "java/lang/Math" ∈ cj_all ∧ Cond.code Lib.Math.min.name Lib.Math.min.code 2 (some .int) ∈ cj_all) (hdd : 1 ≤ d) (h8 : (rest.map fun v => v.category).sum ≤ 8) (kk : cj_J M d k0 n0 Qr Qx k n (pc + 3) lv (.int (if y < x then y else x) :: rest) G) : cj_J M d k0 n0 Qr Qx k n pc lv (.int y :: .int x :: rest) G := by
  intro p l e s m args below meth c D tys A H locs c0 s0 ls C W0 S hc hn9 hl
  refine va_mmin C.x C.b (by rw [C.ml]; exact hl.1.symm) C.own (C.ts _ lk.1) (C.ts _ lk.2.1) (C.ts _ lk.2.2.1) (C.ts _ lk.2.2.2) hdd (by show _ ≤ 48 * d; omega) (by show c0 ≤ k0; omega) (by show s0 ≤ n0; omega) hd ?_
  exact kk p l e s m args below meth c D tys A H locs c0 s0 ls C W0 S hc hn9 hl
/-- System.arraycopy between two int arrays -/
theorem cj_copyi {index a0 a1 z0 z1 : Nat} {f g : Nat → Int32} {sp dp z : Int32} (hd : decode M.2.1 pc = .ok (.invokestatic index, 3)) (lk : Cond.methodLink M.1.cls index arraycopyName ∈ cj_all ∧ Cond.native arraycopyName ∈ cj_all ∧ Cond.static arraycopyName ∈ cj_all ∧ Cond.initialized "java/lang/System" ∈ cj_all) (hdd : 1 ≤ d) (h8 : (rest.map fun v => v.category).sum ≤ 8) (hG0 : G a0 = some (.inl (0, z0, .inl f))) (hG1 : G a1 = some (.inl (0, z1, .inl g))) (h1 : ¬ sp < 0) (h2 : ¬ dp < 0) (h3 : ¬ z < 0) (h4 : sp.toNatClampNeg + z.toNatClampNeg ≤ z0) (h5 : dp.toNatClampNeg + z.toNatClampNeg ≤ z1)
    (kk : cj_J M d k0 n0 Qr Qx k n (pc + 3) lv rest (cj_up G a1 (.inl (0, z1, .inl (va_cpy f g sp.toNatClampNeg dp.toNatClampNeg z.toNatClampNeg))))) : cj_J M d k0 n0 Qr Qx k n pc lv (.int z :: .int dp :: .ref a1 :: .int sp :: .ref a0 :: rest) G := by
  intro p l e s m args below meth c D tys A H locs c0 s0 ls C W0 S hc hn9 hl
  obtain ⟨ws, hP, hD, hI⟩ := W0
  obtain ⟨q0, hq0⟩ := hI.1 a0 _ hG0
  obtain ⟨q1, hq1⟩ := hI.1 a1 _ hG1
  refine va_copyi C.x C.b (by rw [C.ml]; exact hl.1.symm) C.own (C.ts _ lk.1) (C.ts _ lk.2.1) (C.ts _ lk.2.2.1) (C.ts _ lk.2.2.2) C.K hP hD S q0 q1 0 0 hq0 hq1 (C.tyAt rfl) (C.tyAt rfl) rfl h1 h2 h3 h4 h5 (fun _ _ => rfl) hdd ?_ hd (fun H1 locs1 P1 D1 S1 => ?_)
  · have h9 : nativeFrameWords "java/lang/System" "arraycopy" 5 ≤ 20 := by decide +kernel
    show _ ≤ 48 * d
    omega
  · exact kk p l e s m args below meth c D tys A H1 locs1 c0 s0 ls C ⟨_, P1, D1, hI.set (x := .inl (0, z1, .inl (va_cpy f g sp.toNatClampNeg dp.toNatClampNeg z.toNatClampNeg))) hD hq1⟩ S1 hc hn9 hl
/-- throw new E("text") -/
theorem cj_throw {ik is ic : Nat} {X text : String} {names : List String} (hl9 : Bundle.fit X = true ∧ (∀ n ∈ names, Bundle.fit n = true) ∧ Cond.classLink M.1.cls ik X ∈ cj_all ∧ Cond.initialized X ∈ cj_all ∧ (M.1.cls, is, text) ∈ cj_strs ∧ X ∈ cj_exc ∧ (∀ w ∈ (vx_atS M.1.cls ic X names).filter goodWord, w ∈ cj_all) ∧ (∀ w ∈ (vx_atS M.1.cls ic X names).filter (fun w => !goodWord w), w ∈ Cond.castable X X :: cj_dec.map Cond.declares) ∧ (∀ w ∈ Cond.classLink M.1.cls ik X :: Cond.initialized X :: vx_atS M.1.cls ic X names, vx_ot w = true) ∧ names.length ≤ 2)
    (d0 : decode M.2.1 pc = .ok (.new ik, 3)) (d3 : decode M.2.1 (pc + 3) = .ok (.dup, 1)) (d4 : decode M.2.1 (pc + 4) = .ok (.ldc is, 2)) (d6 : decode M.2.1 (pc + 6) = .ok (.invokespecial ic, 3)) (d9 : decode M.2.1 (pc + 9) = .ok (.athrow, 1)) (hdd : 6 ≤ d) (h8 : (rest.map fun v => v.category).sum ≤ 8) (hq : Qx X G) : cj_J M d k0 n0 Qr Qx (k + 1) (n + 6) pc lv rest G := by
  intro p l e s m args below meth c D tys A H locs c0 s0 ls C W0 S hc hn9 hl
  obtain ⟨f1, f2, f3, f4, f5, f6, f7, f8, f9, f10⟩ := hl9
  obtain ⟨sa, hsa⟩ := C.B.2.1 _ f5
  have hat : ∀ w ∈ vx_atS M.1.cls ic X names, w.before args s = true := vx_hat (fun w hw => C.ts _ (f7 w hw)) f8 (vx_c (va_Nw.use rfl (C.B.2.2.1 X f6)) (fun w hw => by obtain ⟨y, hy, rfl⟩ := List.mem_map.mp hw; exact va_Nw.use rfl (C.B.2.2.2 y hy)))
  exact vx_throwS C.x C.b C.tr C.own f1 f2 (C.ts _ f3) (C.ts _ f4) hsa hat f9 C.Z.1 C.Z.2 S (by rw [C.ml]; exact hl.1) d0 d3 d4 d6 d9 (fun x hx => absurd hx (fun h => C.tb x h)) (by show names.length + 3 < d; omega) (by show _ ≤ 48 * d; omega) (by show c0 + 1 ≤ k0; omega) (by show s0 + 6 ≤ n0; omega) C.lk
    (fun t hvm hz hk => ⟨⟨G, hq, W0.kept hk⟩, ⟨Nat.le_trans S.1 hz, fun q h1 h2 => by rw [hk q (Nat.lt_of_lt_of_le h1 S.1)]; exact S.2.1 q h1 h2⟩⟩) S.2.2 (by omega) (by omega)
end CK
