/-! naming a picture, a stack; what a picture leaves alone -/
section CL
variable {M : cj_M} {d k0 n0 k n pc : Nat} {Qr : Option Value → cj_G → Prop} {Qx : String → cj_G → Prop} {lv : List (Nat × Value)} {st st' : List Value} {G : cj_G}
theorem cj_nm (h : ∀ G1 : cj_G, G1 = G → cj_J M d k0 n0 Qr Qx k n pc lv st G1) : cj_J M d k0 n0 Qr Qx k n pc lv st G := h G rfl
theorem cj_st (h : st = st') (kk : cj_J M d k0 n0 Qr Qx k n pc lv st' G) : cj_J M d k0 n0 Qr Qx k n pc lv st G := h ▸ kk
theorem cj_lvs {lv' : List (Nat × Value)} (h : lv = lv') (kk : cj_J M d k0 n0 Qr Qx k n pc lv' st G) : cj_J M d k0 n0 Qr Qx k n pc lv st G := h ▸ kk
theorem cj_pc {pc' : Nat} (h : pc = pc') (kk : cj_J M d k0 n0 Qr Qx k n pc' lv st G) : cj_J M d k0 n0 Qr Qx k n pc lv st G := h ▸ kk
end CL
theorem cj_ne {G : cj_G} {a b : Nat} {x y : cj_E} (ha : G a = some x) (hb : G b = some y) (h : x ≠ y) : a ≠ b := fun e => by subst e; rw [ha] at hb; exact h (Option.some.inj hb)
theorem cj_nn {G : cj_G} {a q : Nat} {x : cj_E} (ha : G a = some x) (hq : G q = none) : a ≠ q := fun e => by subst e; rw [ha] at hq; cases hq
/-- of G to G' only the things at S have changed; there may be new ones -/
def cj_fr (S : List Nat) (G G' : cj_G) : Prop := ∀ (q : Nat) (x : cj_E), q ∉ S → G q = some x → G' q = some x
theorem cj_fr.rf {S : List Nat} {G : cj_G} : cj_fr S G G := fun _ _ _ h => h
theorem cj_fr.up {S : List Nat} {G G1 : cj_G} {a : Nat} {x : cj_E} (h : cj_fr S G G1) (ha : a ∈ S) : cj_fr S G (cj_up G1 a x) := fun q y hq hy => by
  have hne : q ≠ a := fun e => hq (e ▸ ha)
  rw [cj_up_n hne]
  exact h q y hq hy
theorem cj_fr.new {S : List Nat} {G G1 : cj_G} {a : Nat} {x : cj_E} (h : cj_fr S G G1) (ha : G1 a = none) : cj_fr S G (cj_up G1 a x) := fun q y hq hy => by
  have h1 := h q y hq hy
  exact cj_up_ne h1 ha
theorem cj_fr.trans {S : List Nat} {G G1 G2 : cj_G} (h : cj_fr S G G1) (h2 : cj_fr S G1 G2) : cj_fr S G G2 := fun q y hq hy => h2 q y hq (h q y hq hy)
theorem cj_fr.mono {S S' : List Nat} {G G1 : cj_G} (h : cj_fr S G G1) (hs : ∀ q ∈ S, q ∈ S') : cj_fr S' G G1 := fun q y hq hy => h q y (fun h9 => hq (hs q h9)) hy
abbrev cj_no : String → cj_G → Prop := fun _ _ => False
/-- the answer is an int, nothing has changed -/
abbrev cj_rd (G : cj_G) (x : Int32) : Option Value → cj_G → Prop := fun v G' => v = some (.int x) ∧ G' = G

/-! the small static methods of ClosureHeap -/
set_option maxHeartbeats 4000000 in
set_option maxRecDepth 100000 in
theorem t_fieldsOf {G : cj_G} {x : Int32} : cj_T mX6_fieldsOf 0 0 0 [.int x] G (cj_rd G (x &&& 3)) (cj_no) := by
  refine cj_T_of (by decide) (Nat.le_of_ble_eq_true rfl) ?_
  refine cj_lvs (lv' := [(0, .int x)]) rfl ?_
  refine cj_iload_n dX6_fieldsOf_0 rfl ?_
  refine cj_iconst (v := 3) dX6_fieldsOf_1 (by decide) ?_
  refine cj_iand dX6_fieldsOf_2 ?_
  refine cj_iret rfl dX6_fieldsOf_3 ?_
  exact ⟨rfl, rfl⟩
set_option maxHeartbeats 4000000 in
set_option maxRecDepth 100000 in
theorem t_wordOfInt {G : cj_G} {x : Int32} : cj_T mX6_wordOfInt 0 0 0 [.int x] G (cj_rd G (2 * x + 1)) (cj_no) := by
  refine cj_T_of (by decide) (Nat.le_of_ble_eq_true rfl) ?_
  refine cj_lvs (lv' := [(0, .int x)]) rfl ?_
  refine cj_iconst (v := 2) dX6_wordOfInt_0 (by decide) ?_
  refine cj_iload_n dX6_wordOfInt_1 rfl ?_
  refine cj_imul dX6_wordOfInt_2 ?_
  refine cj_iconst (v := 1) dX6_wordOfInt_3 (by decide) ?_
  refine cj_iadd dX6_wordOfInt_4 ?_
  refine cj_iret rfl dX6_wordOfInt_5 ?_
  exact ⟨rfl, rfl⟩
set_option maxHeartbeats 4000000 in
set_option maxRecDepth 100000 in
theorem t_wordOfTag {G : cj_G} {x : Int32} : cj_T mX6_wordOfTag 0 0 0 [.int x] G (cj_rd G (4 * x + 2)) (cj_no) := by
  refine cj_T_of (by decide) (Nat.le_of_ble_eq_true rfl) ?_
  refine cj_lvs (lv' := [(0, .int x)]) rfl ?_
  refine cj_iconst (v := 4) dX6_wordOfTag_0 (by decide) ?_
  refine cj_iload_n dX6_wordOfTag_1 rfl ?_
  refine cj_imul dX6_wordOfTag_2 ?_
  refine cj_iconst (v := 2) dX6_wordOfTag_3 (by decide) ?_
  refine cj_iadd dX6_wordOfTag_4 ?_
  refine cj_iret rfl dX6_wordOfTag_5 ?_
  exact ⟨rfl, rfl⟩
set_option maxHeartbeats 4000000 in
set_option maxRecDepth 100000 in
theorem t_intOf {G : cj_G} {x : Int32} : cj_T mX6_intOf 0 0 0 [.int x] G (cj_rd G (x >>> (1 &&& 31))) (cj_no) := by
  refine cj_T_of (by decide) (Nat.le_of_ble_eq_true rfl) ?_
  refine cj_lvs (lv' := [(0, .int x)]) rfl ?_
  refine cj_iload_n dX6_intOf_0 rfl ?_
  refine cj_iconst (v := 1) dX6_intOf_1 (by decide) ?_
  refine cj_ishr dX6_intOf_2 ?_
  refine cj_iret rfl dX6_intOf_3 ?_
  exact ⟨rfl, rfl⟩
set_option maxHeartbeats 4000000 in
set_option maxRecDepth 100000 in
theorem t_tagOf {G : cj_G} {x : Int32} : cj_T mX6_tagOf 0 0 0 [.int x] G (cj_rd G (x >>> (2 &&& 31))) (cj_no) := by
  refine cj_T_of (by decide) (Nat.le_of_ble_eq_true rfl) ?_
  refine cj_lvs (lv' := [(0, .int x)]) rfl ?_
  refine cj_iload_n dX6_tagOf_0 rfl ?_
  refine cj_iconst (v := 2) dX6_tagOf_1 (by decide) ?_
  refine cj_ishr dX6_tagOf_2 ?_
  refine cj_iret rfl dX6_tagOf_3 ?_
  exact ⟨rfl, rfl⟩
def ch_b (p : Prop) [Decidable p] : Int32 := if p then 1 else 0
theorem ch_b0 {p : Prop} [Decidable p] : ch_b p = 0 ↔ ¬ p := by unfold ch_b; by_cases h : p <;> simp [h]
theorem ch_b1 {p : Prop} [Decidable p] : ch_b p = 1 ↔ p := by unfold ch_b; by_cases h : p <;> simp [h]
set_option maxHeartbeats 4000000 in
set_option maxRecDepth 100000 in
theorem t_isInt {G : cj_G} {x : Int32} : cj_T mX6_isInt 0 0 0 [.int x] G (cj_rd G (ch_b (x &&& 1 = 1))) (cj_no) := by
  refine cj_T_of (by decide) (Nat.le_of_ble_eq_true rfl) ?_
  refine cj_lvs (lv' := [(0, .int x)]) rfl ?_
  refine cj_iload_n dX6_isInt_0 rfl ?_
  refine cj_iconst (v := 1) dX6_isInt_1 (by decide) ?_
  refine cj_iand dX6_isInt_2 ?_
  refine cj_iconst (v := 1) dX6_isInt_3 (by decide) ?_
  refine cj_icmp_ne (tgt := 11) dX6_isInt_4 (by decide) (fun h1 => ?_) (fun h1 => ?_)
  · refine cj_iconst (v := 0) dX6_isInt_11 (by decide) ?_
    refine cj_zret rfl rfl dX6_isInt_12 ?_
    refine ⟨congrArg (fun z => some (Value.int z)) ?_, rfl⟩
    simp_all [ch_b0, ch_b]
  · refine cj_iconst (v := 1) dX6_isInt_7 (by decide) ?_
    refine cj_goto (tgt := 12) dX6_isInt_8 (by decide) ?_
    refine cj_zret rfl rfl dX6_isInt_12 ?_
    refine ⟨congrArg (fun z => some (Value.int z)) ?_, rfl⟩
    simp_all [ch_b0, ch_b]
set_option maxHeartbeats 4000000 in
set_option maxRecDepth 100000 in
theorem t_isTag {G : cj_G} {x : Int32} : cj_T mX6_isTag 0 0 0 [.int x] G (cj_rd G (ch_b (x &&& 3 = 2))) (cj_no) := by
  refine cj_T_of (by decide) (Nat.le_of_ble_eq_true rfl) ?_
  refine cj_lvs (lv' := [(0, .int x)]) rfl ?_
  refine cj_iload_n dX6_isTag_0 rfl ?_
  refine cj_iconst (v := 3) dX6_isTag_1 (by decide) ?_
  refine cj_iand dX6_isTag_2 ?_
  refine cj_iconst (v := 2) dX6_isTag_3 (by decide) ?_
  refine cj_icmp_ne (tgt := 11) dX6_isTag_4 (by decide) (fun h1 => ?_) (fun h1 => ?_)
  · refine cj_iconst (v := 0) dX6_isTag_11 (by decide) ?_
    refine cj_zret rfl rfl dX6_isTag_12 ?_
    refine ⟨congrArg (fun z => some (Value.int z)) ?_, rfl⟩
    simp_all [ch_b0, ch_b]
  · refine cj_iconst (v := 1) dX6_isTag_7 (by decide) ?_
    refine cj_goto (tgt := 12) dX6_isTag_8 (by decide) ?_
    refine cj_zret rfl rfl dX6_isTag_12 ?_
    refine ⟨congrArg (fun z => some (Value.int z)) ?_, rfl⟩
    simp_all [ch_b0, ch_b]
/-! reads of the heap -/
def hp_isp (t w : Int32) : Bool := decide (w &&& 3 = 0) && (decide (¬ w < 0) && decide (¬ t ≤ w >>> (2 &&& 31)))
theorem hp_in {t w : Int32} {N : Nat} (h : hp_isp t w = true) (ht : t.toInt ≤ N) : vp_in (w >>> (2 &&& 31)) N := by
  simp only [hp_isp, Bool.and_eq_true, decide_eq_true_eq] at h
  obtain ⟨-, h1, h2⟩ := h
  have e : (w >>> ((2 : Int32) &&& 31)).toInt = w.toInt >>> 2 := pk_shr w _ 2 (by decide)
  rw [vp_in_iff]
  have h3 : (0 : Int) ≤ w.toInt := by
    have := Int32.not_lt.mp h1
    simpa using Int32.le_iff_toInt_le.mp this
  have h4 : (w >>> ((2 : Int32) &&& 31)).toInt < t.toInt := by
    have := Int32.not_le.mp h2
    exact Int32.lt_iff_toInt_lt.mp this
  refine ⟨?_, by omega⟩
  rw [e, Int.shiftRight_eq_div_pow]
  exact Int.ediv_nonneg h3 (by decide)
def hp_bk (f : Nat → Int32) (t w : Int32) : Int32 := if hp_isp t w then f (w >>> (2 &&& 31)).toNatClampNeg &&& 15 else -1
def hp_bw (f : Nat → Int32) (t w : Int32) : Int32 := if hp_isp t w then f (w >>> (2 &&& 31)).toNatClampNeg >>> (4 &&& 31) else 0
set_option maxHeartbeats 4000000 in
set_option maxRecDepth 100000 in
theorem t_isPointer {G : cj_G} {o a b c : Nat} {t cp tn w : Int32} (k_o : G o = some (.inr (1, [.ref a, .ref b, .ref c, .int t, .int cp, .int tn]))) : cj_T mX1_isPointer 0 0 0 [.ref o, .int w] G (cj_rd G (ch_b (hp_isp t w = true))) (cj_no) := by
  refine cj_T_of (by decide) (Nat.le_of_ble_eq_true rfl) ?_
  refine cj_lvs (lv' := [(0, .ref o), (1, .int w)]) rfl ?_
  refine cj_iload_n dX1_isPointer_0 rfl ?_
  refine cj_iconst (v := 3) dX1_isPointer_1 (by decide) ?_
  refine cj_iand dX1_isPointer_2 ?_
  refine cj_if_ne (tgt := 24) dX1_isPointer_3 (by decide) (fun h1 => ?_) (fun h1 => ?_)
  · refine cj_iconst (v := 0) dX1_isPointer_24 (by decide) ?_
    refine cj_zret rfl rfl dX1_isPointer_25 ?_
    refine ⟨congrArg (fun z => some (Value.int z)) ?_, rfl⟩
    simp_all [ch_b0, ch_b, hp_isp]
  · refine cj_iload_n dX1_isPointer_6 rfl ?_
    refine cj_if_lt (tgt := 24) dX1_isPointer_7 (by decide) (fun h2 => ?_) (fun h2 => ?_)
    · refine cj_iconst (v := 0) dX1_isPointer_24 (by decide) ?_
      refine cj_zret rfl rfl dX1_isPointer_25 ?_
      refine ⟨congrArg (fun z => some (Value.int z)) ?_, rfl⟩
      simp_all [ch_b0, ch_b, hp_isp]
    · refine cj_iload_n dX1_isPointer_10 rfl ?_
      refine cj_iconst (v := 2) dX1_isPointer_11 (by decide) ?_
      refine cj_ishr dX1_isPointer_12 ?_
      refine cj_aload_n dX1_isPointer_13 rfl ?_
      refine cj_get flX1_9 dX1_isPointer_14 k_o rfl ?_
      refine cj_icmp_ge (tgt := 24) dX1_isPointer_17 (by decide) (fun h3 => ?_) (fun h3 => ?_)
      · refine cj_iconst (v := 0) dX1_isPointer_24 (by decide) ?_
        refine cj_zret rfl rfl dX1_isPointer_25 ?_
        refine ⟨congrArg (fun z => some (Value.int z)) ?_, rfl⟩
        simp_all [ch_b0, ch_b, hp_isp]
      · refine cj_iconst (v := 1) dX1_isPointer_20 (by decide) ?_
        refine cj_goto (tgt := 25) dX1_isPointer_21 (by decide) ?_
        refine cj_zret rfl rfl dX1_isPointer_25 ?_
        refine ⟨congrArg (fun z => some (Value.int z)) ?_, rfl⟩
        simp_all [ch_b0, ch_b, hp_isp]
set_option maxHeartbeats 4000000 in
set_option maxRecDepth 100000 in
theorem t_blockKind {G : cj_G} {o a b c N : Nat} {f : Nat → Int32} {t cp tn w : Int32} (k_o : G o = some (.inr (1, [.ref a, .ref b, .ref c, .int t, .int cp, .int tn]))) (k_a : G a = some (.inl (0, N, .inl f))) (ht : t.toInt ≤ N) : cj_T mX1_blockKind 1 0 0 [.ref o, .int w] G (cj_rd G (hp_bk f t w)) (cj_no) := by
  refine cj_T_of (by decide) (Nat.le_of_ble_eq_true rfl) ?_
  refine cj_lvs (lv' := [(0, .ref o), (1, .int w)]) rfl ?_
  refine cj_aload_n dX1_blockKind_0 rfl ?_
  refine cj_iload_n dX1_blockKind_1 rfl ?_
  refine cj_callV (As := [.int w]) (rest := []) dX1_blockKind_2 lkX1_39 mwX1_isPointer (t_isPointer k_o) (by omega) rfl rfl (Nat.le_of_ble_eq_true rfl) k_o rfl (fun v9 G9 q1 => ?_) (fun _ _ h => absurd h id)
  obtain ⟨rfl, rfl⟩ := q1
  refine cj_st (st' := [.int (ch_b (hp_isp t w = true))]) rfl ?_
  refine cj_if_eq (tgt := 22) dX1_blockKind_5 (by decide) (fun h2 => ?_) (fun h2 => ?_)
  · refine cj_iconst (v := (-1)) dX1_blockKind_22 (by decide) ?_
    refine cj_iret rfl dX1_blockKind_23 ?_
    refine ⟨congrArg (fun z => some (Value.int z)) ?_, rfl⟩
    simp_all [ch_b0, hp_bk]
  · refine cj_aload_n dX1_blockKind_8 rfl ?_
    refine cj_get flX1_21 dX1_blockKind_9 k_o rfl ?_
    refine cj_iload_n dX1_blockKind_12 rfl ?_
    refine cj_iconst (v := 2) dX1_blockKind_13 (by decide) ?_
    refine cj_ishr dX1_blockKind_14 ?_
    have i3 : vp_in (w >>> (2 &&& 31)) N := by
      refine hp_in ?_ ht
      simp_all [ch_b0]
    refine cj_iald dX1_blockKind_15 k_a i3 ?_
    refine cj_bipush (v := 15) dX1_blockKind_16 (by decide) ?_
    refine cj_iand dX1_blockKind_18 ?_
    refine cj_goto (tgt := 23) dX1_blockKind_19 (by decide) ?_
    refine cj_iret rfl dX1_blockKind_23 ?_
    refine ⟨congrArg (fun z => some (Value.int z)) ?_, rfl⟩
    simp_all [ch_b0, hp_bk]
set_option maxHeartbeats 4000000 in
set_option maxRecDepth 100000 in
theorem t_blockWords {G : cj_G} {o a b c N : Nat} {f : Nat → Int32} {t cp tn w : Int32} (k_o : G o = some (.inr (1, [.ref a, .ref b, .ref c, .int t, .int cp, .int tn]))) (k_a : G a = some (.inl (0, N, .inl f))) (ht : t.toInt ≤ N) : cj_T mX1_blockWords 1 0 0 [.ref o, .int w] G (cj_rd G (hp_bw f t w)) (cj_no) := by
  refine cj_T_of (by decide) (Nat.le_of_ble_eq_true rfl) ?_
  refine cj_lvs (lv' := [(0, .ref o), (1, .int w)]) rfl ?_
  refine cj_aload_n dX1_blockWords_0 rfl ?_
  refine cj_iload_n dX1_blockWords_1 rfl ?_
  refine cj_callV (As := [.int w]) (rest := []) dX1_blockWords_2 lkX1_39 mwX1_isPointer (t_isPointer k_o) (by omega) rfl rfl (Nat.le_of_ble_eq_true rfl) k_o rfl (fun v9 G9 q1 => ?_) (fun _ _ h => absurd h id)
  obtain ⟨rfl, rfl⟩ := q1
  refine cj_st (st' := [.int (ch_b (hp_isp t w = true))]) rfl ?_
  refine cj_if_eq (tgt := 21) dX1_blockWords_5 (by decide) (fun h2 => ?_) (fun h2 => ?_)
  · refine cj_iconst (v := 0) dX1_blockWords_21 (by decide) ?_
    refine cj_iret rfl dX1_blockWords_22 ?_
    refine ⟨congrArg (fun z => some (Value.int z)) ?_, rfl⟩
    simp_all [ch_b0, hp_bw]
  · refine cj_aload_n dX1_blockWords_8 rfl ?_
    refine cj_get flX1_21 dX1_blockWords_9 k_o rfl ?_
    refine cj_iload_n dX1_blockWords_12 rfl ?_
    refine cj_iconst (v := 2) dX1_blockWords_13 (by decide) ?_
    refine cj_ishr dX1_blockWords_14 ?_
    have i3 : vp_in (w >>> (2 &&& 31)) N := by
      refine hp_in ?_ ht
      simp_all [ch_b0]
    refine cj_iald dX1_blockWords_15 k_a i3 ?_
    refine cj_iconst (v := 4) dX1_blockWords_16 (by decide) ?_
    refine cj_ishr dX1_blockWords_17 ?_
    refine cj_goto (tgt := 22) dX1_blockWords_18 (by decide) ?_
    refine cj_iret rfl dX1_blockWords_22 ?_
    refine ⟨congrArg (fun z => some (Value.int z)) ?_, rfl⟩
    simp_all [ch_b0, hp_bw]
