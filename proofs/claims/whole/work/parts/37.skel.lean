/-! SKELETONS of methods of the class: wq_<method> says of pictures what must hold so that the method comes to its end with Qr, or throws with Qx; tq_<method> is its contract -/
section SKD
variable {M : cj_M} {d k0 n0 k n pc : Nat} {Qr : Option Value → cj_G → Prop} {Qx : String → cj_G → Prop} {lv : List (Nat × Value)} {st : List Value} {G : cj_G}
theorem cj_nmk (h : ∀ k1 n1 : Nat, k1 = k → n1 = n → cj_J M d k0 n0 Qr Qx k1 n1 pc lv st G) : cj_J M d k0 n0 Qr Qx k n pc lv st G := h k n rfl rfl
end SKD
def sk_gi (G : cj_G) (a ci kf : Nat) (K : Int32 → Prop) : Prop := ∃ (fs : List Value) (x : Int32), G a = some (.inr (ci, fs)) ∧ fs[kf]? = some (.int x) ∧ K x
def sk_gr (G : cj_G) (a ci kf : Nat) (K : Nat → Prop) : Prop := ∃ (fs : List Value) (x : Nat), G a = some (.inr (ci, fs)) ∧ fs[kf]? = some (.ref x) ∧ K x
def sk_pt (G : cj_G) (a ci kf : Nat) (v : Value) (K : cj_G → Prop) : Prop := ∃ fs : List Value, G a = some (.inr (ci, fs)) ∧ kf < fs.length ∧ K (cj_up G a (.inr (ci, fs.set kf v)))
def sk_new (G : cj_G) (k n ci N : Nat) (fs : List Value) (K : Nat → cj_G → Nat → Nat → Prop) : Prop := 1 ≤ k ∧ N ≤ n ∧ ∀ q : Nat, G q = none → K q (cj_up G q (.inr (ci, fs))) (k - 1) (n - N)
def sk_V (G : cj_G) (b ci : Nat) : Prop := ∃ fs : List Value, G b = some (.inr (ci, fs))
def sk_c (M' : cj_M) (d k n : Nat) (As : List Value) (G : cj_G) (Qx : String → cj_G → Prop) (K : Option Value → cj_G → Nat → Nat → Prop) : Prop := ∃ (d' k' n' : Nat) (Qr' : Option Value → cj_G → Prop) (Qx' : String → cj_G → Prop), d' + 1 ≤ d ∧ k' ≤ k ∧ n' ≤ n ∧ cj_T M' d' k' n' As G Qr' Qx' ∧ (∀ E G', Qx' E G' → Qx E G') ∧ ∀ v G', Qr' v G' → K v G' (k - k') (n - n')
def sk_n (M' : cj_M) (d k n : Nat) (As : List Value) (G : cj_G) (K : Option Value → cj_G → Nat → Nat → Prop) : Prop := ∃ (d' k' n' : Nat) (Qr' : Option Value → cj_G → Prop), d' + 1 ≤ d ∧ k' ≤ k ∧ n' ≤ n ∧ cj_T M' d' k' n' As G Qr' (fun _ _ => False) ∧ ∀ v G', Qr' v G' → K v G' (k - k') (n - n')
abbrev sk_c_i (M' : cj_M) (d k n : Nat) (As : List Value) (G : cj_G) (Qx : String → cj_G → Prop) (K : Int32 → cj_G → Nat → Nat → Prop) : Prop := sk_c M' d k n As G Qx (fun v G1 k1 n1 => ∃ x : Int32, v = some (.int x) ∧ K x G1 k1 n1)
abbrev sk_c_r (M' : cj_M) (d k n : Nat) (As : List Value) (G : cj_G) (Qx : String → cj_G → Prop) (K : Nat → cj_G → Nat → Nat → Prop) : Prop := sk_c M' d k n As G Qx (fun v G1 k1 n1 => ∃ x : Nat, v = some (.ref x) ∧ K x G1 k1 n1)
abbrev sk_c_v (M' : cj_M) (d k n : Nat) (As : List Value) (G : cj_G) (Qx : String → cj_G → Prop) (K : cj_G → Nat → Nat → Prop) : Prop := sk_c M' d k n As G Qx (fun v G1 k1 n1 => v = none ∧ K G1 k1 n1)
abbrev sk_n_i (M' : cj_M) (d k n : Nat) (As : List Value) (G : cj_G) (K : Int32 → cj_G → Nat → Nat → Prop) : Prop := sk_n M' d k n As G (fun v G1 k1 n1 => ∃ x : Int32, v = some (.int x) ∧ K x G1 k1 n1)
abbrev sk_n_r (M' : cj_M) (d k n : Nat) (As : List Value) (G : cj_G) (K : Nat → cj_G → Nat → Nat → Prop) : Prop := sk_n M' d k n As G (fun v G1 k1 n1 => ∃ x : Nat, v = some (.ref x) ∧ K x G1 k1 n1)
abbrev sk_n_v (M' : cj_M) (d k n : Nat) (As : List Value) (G : cj_G) (K : cj_G → Nat → Nat → Prop) : Prop := sk_n M' d k n As G (fun v G1 k1 n1 => v = none ∧ K G1 k1 n1)
def wk_X3_numeral_4 (d : Nat) (v0 : Nat) (Qr : Option Value → cj_G → Prop) (Qx : String → cj_G → Prop) (K : Int32 → Int32 → cj_G → Nat → Nat → Prop) : Nat → Int32 → Int32 → cj_G → Nat → Nat → Prop
  | 0, _, _, _, _, _ => False
  | n + 1, v1, v2, G, k, n1 => ((4 ≤ v2 → K v1 v2 G k n1) ∧ (¬ 4 ≤ v2 → (sk_V G v0 3 ∧ sk_c_i mX3_peek d k n1 [.ref v0] G Qx (fun x6 G3 k4 n5 => (sk_c_i mX3_isDigit d k4 n5 [.int x6] G3 Qx (fun x11 G8 k9 n10 => ((x11 = 0 → K v1 v2 G8 k9 n10) ∧ (¬ x11 = 0 → (sk_V G8 v0 3 ∧ sk_c_i mX3_peek d k9 n10 [.ref v0] G8 Qx (fun x17 G14 k15 n16 => sk_gi G14 v0 3 2 (fun x18 => sk_pt G14 v0 3 2 (.int (x18 + 1)) (fun G20 => wk_X3_numeral_4 d v0 Qr Qx K n ((10 * v1) + (x17 - 48)) (v2 + 1) G20 k15 n16))))))))))))
def wq_X3_numeral (d k n1 : Nat) (o : Nat) (G : cj_G) (Qr : Option Value → cj_G → Prop) (Qx : String → cj_G → Prop) : Prop := (∃ n9 : Nat, wk_X3_numeral_4 d o Qr Qx (fun w24 w25 G21 k22 n23 => (sk_c_r mX3_rowOf d k22 n23 [.int 1, .int w24] G21 Qx (fun x30 G27 k28 n29 => Qr (some (.ref x30)) G27))) n9 0 0 G k n1)
set_option maxHeartbeats 4000000 in
set_option maxRecDepth 100000 in
theorem wk_X3_numeral_4_ok {d k0 n0 : Nat} (hd9 : 6 ≤ d) (v0 : Nat) {Qr : Option Value → cj_G → Prop} {Qx : String → cj_G → Prop} {K : Int32 → Int32 → cj_G → Nat → Nat → Prop} (hK : ∀ (v1 : Int32) (v2 : Int32) (G : cj_G) (k n1 : Nat), K v1 v2 G k n1 → cj_J mX3_numeral d k0 n0 Qr Qx k n1 48 [(0, .ref v0), (1, .int v1), (2, .int v2)] [] G) : ∀ (n : Nat) (v1 : Int32) (v2 : Int32) (G : cj_G) (k n1 : Nat), wk_X3_numeral_4 d v0 Qr Qx K n v1 v2 G k n1 → cj_J mX3_numeral d k0 n0 Qr Qx k n1 4 [(0, .ref v0), (1, .int v1), (2, .int v2)] [] G := by
  intro n
  induction n with
  | zero => intro v1 v2 G k n1 h; exact absurd h id
  | succ n ih =>
    intro v1 v2 G k n1 h
    unfold wk_X3_numeral_4 at h
    refine cj_iload_n dX3_numeral_4 rfl ?_
    refine cj_iconst (v := 4) dX3_numeral_5 (by decide) ?_
    refine cj_icmp_ge (tgt := 48) dX3_numeral_6 (by decide) (fun c1 => ?_) (fun c1 => ?_)
    · replace h := h.1 c1
      refine cj_sub (lv' := [(0, .ref v0), (1, .int v1), (2, .int v2)]) (by simp) ?_
      exact hK _ _ _ _ _ h
    · replace h := h.2 c1
      refine cj_aload_n dX3_numeral_9 rfl ?_
      refine cj_pc (pc' := 10) rfl ?_
      obtain ⟨⟨fs9, e9⟩, h⟩ := h
      obtain ⟨d', k', n', Qr', Qx', h1, h2, h3, hT, hx, h⟩ := h
      refine cj_fewer (k' := (k - k') + k') (n' := (n1 - n') + n') (by omega) (by omega) ?_
      refine cj_callV (M' := mX3_peek) (d' := d') (k' := k') (n' := n') (index := 64) (np := 0) (As := []) (rest := []) dX3_numeral_10 lkX3_64 mwX3_peek hT h1 rfl rfl (Nat.le_of_ble_eq_true rfl) e9 rfl (fun v9 G3 q2 => ?_) hx
      replace h := h v9 G3 q2
      obtain ⟨x6, e8, h⟩ := h
      subst e8
      refine cj_nmk (fun k4 n5 e6 e7 => ?_)
      (try rw [← e6] at h); (try rw [← e7] at h)
      refine cj_st (st' := [.int x6]) rfl ?_
      obtain ⟨d', k', n', Qr', Qx', h1, h2, h3, hT, hx, h⟩ := h
      refine cj_fewer (k' := (k4 - k') + k') (n' := (n5 - n') + n') (by omega) (by omega) ?_
      refine cj_callS (M' := mX3_isDigit) (d' := d') (k' := k') (n' := n') (index := 162) (np := 1) (As := [.int x6]) (rest := []) dX3_numeral_13 lkX3_162 mwX3_isDigit hT h1 rfl rfl (Nat.le_of_ble_eq_true rfl) (fun v9 G8 q7 => ?_) hx
      replace h := h v9 G8 q7
      obtain ⟨x11, e8, h⟩ := h
      subst e8
      refine cj_nmk (fun k9 n10 e6 e7 => ?_)
      (try rw [← e6] at h); (try rw [← e7] at h)
      refine cj_st (st' := [.int x11]) rfl ?_
      refine cj_if_eq (tgt := 48) dX3_numeral_16 (by decide) (fun c12 => ?_) (fun c12 => ?_)
      · replace h := h.1 c12
        refine cj_sub (lv' := [(0, .ref v0), (1, .int v1), (2, .int v2)]) (by simp) ?_
        exact hK _ _ _ _ _ h
      · replace h := h.2 c12
        refine cj_bipush (v := 10) dX3_numeral_19 (by decide) ?_
        refine cj_pc (pc' := 21) rfl ?_
        refine cj_iload_n dX3_numeral_21 rfl ?_
        refine cj_imul dX3_numeral_22 ?_
        refine cj_aload_n dX3_numeral_23 rfl ?_
        obtain ⟨⟨fs9, e9⟩, h⟩ := h
        obtain ⟨d', k', n', Qr', Qx', h1, h2, h3, hT, hx, h⟩ := h
        refine cj_fewer (k' := (k9 - k') + k') (n' := (n10 - n') + n') (by omega) (by omega) ?_
        refine cj_callV (M' := mX3_peek) (d' := d') (k' := k') (n' := n') (index := 64) (np := 0) (As := []) (rest := [.int (10 * v1)]) dX3_numeral_24 lkX3_64 mwX3_peek hT h1 rfl rfl (Nat.le_of_ble_eq_true rfl) e9 rfl (fun v9 G14 q13 => ?_) hx
        replace h := h v9 G14 q13
        obtain ⟨x17, e8, h⟩ := h
        subst e8
        refine cj_nmk (fun k15 n16 e6 e7 => ?_)
        (try rw [← e6] at h); (try rw [← e7] at h)
        refine cj_st (st' := [.int x17, .int (10 * v1)]) rfl ?_
        refine cj_pc (pc' := 27) rfl ?_
        refine cj_bipush (v := 48) dX3_numeral_27 (by decide) ?_
        refine cj_isub dX3_numeral_29 ?_
        refine cj_iadd dX3_numeral_30 ?_
        refine cj_istore_n (lv' := [(1, .int ((10 * v1) + (x17 - 48))), (0, .ref v0), (2, .int v2)]) dX3_numeral_31 (by decide) rfl ?_
        refine cj_pc (pc' := 32) rfl ?_
        refine cj_aload_n dX3_numeral_32 rfl ?_
        refine cj_dup dX3_numeral_33 rfl ?_
        obtain ⟨fs9, x18, g19, e9, h⟩ := h
        refine cj_get flX3_19 dX3_numeral_34 g19 e9 ?_
        refine cj_iconst (v := 1) dX3_numeral_37 (by decide) ?_
        refine cj_pc (pc' := 38) rfl ?_
        refine cj_iadd dX3_numeral_38 ?_
        obtain ⟨fs9, e8, e9, h⟩ := h
        refine cj_put flX3_19 dX3_numeral_39 e8 rfl rfl e9 ?_
        refine cj_nm (fun G20 e7 => ?_)
        rw [← e7] at h
        clear e7
        refine cj_iinc (v := v2 + 1) (lv' := [(2, .int (v2 + 1)), (1, .int ((10 * v1) + (x17 - 48))), (0, .ref v0)]) dX3_numeral_42 rfl rfl (by decide) rfl ?_
        refine cj_goto (tgt := 4) dX3_numeral_45 (by decide) ?_
        refine cj_sub (lv' := [(0, .ref v0), (1, .int ((10 * v1) + (x17 - 48))), (2, .int (v2 + 1))]) (by simp) ?_
        exact ih _ _ _ _ _ h
set_option maxHeartbeats 4000000 in
set_option maxRecDepth 100000 in
theorem tq_X3_numeral {d k n1 : Nat} (hd9 : 6 ≤ d) {o : Nat} {G : cj_G} {Qr : Option Value → cj_G → Prop} {Qx : String → cj_G → Prop} (h : wq_X3_numeral d k n1 o G Qr Qx) : cj_T mX3_numeral d k n1 [.ref o] G Qr Qx := by
  refine cj_T_of (by decide +kernel) (Nat.le_of_ble_eq_true rfl) ?_
  refine cj_lvs (lv' := [(0, .ref o)]) rfl ?_
  unfold wq_X3_numeral at h
  refine cj_iconst (v := 0) dX3_numeral_0 (by decide) ?_
  refine cj_istore_n (lv' := [(1, .int 0), (0, .ref o)]) dX3_numeral_1 (by decide) rfl ?_
  refine cj_iconst (v := 0) dX3_numeral_2 (by decide) ?_
  refine cj_pc (pc' := 3) rfl ?_
  refine cj_istore_n (lv' := [(2, .int 0), (1, .int 0), (0, .ref o)]) dX3_numeral_3 (by decide) rfl ?_
  obtain ⟨n9, h⟩ := h
  refine cj_sub (lv' := [(0, .ref o), (1, .int 0), (2, .int 0)]) (by simp) ?_
  refine wk_X3_numeral_4_ok hd9 _ ?_ n9 _ _ _ _ _ h
  clear h
  intro w24 w25 G21 k22 n23 h
  refine cj_iconst (v := 1) dX3_numeral_48 (by decide) ?_
  refine cj_pc (pc' := 49) rfl ?_
  refine cj_iload_n dX3_numeral_49 rfl ?_
  obtain ⟨d', k', n', Qr', Qx', h1, h2, h3, hT, hx, h⟩ := h
  refine cj_fewer (k' := (k22 - k') + k') (n' := (n23 - n') + n') (by omega) (by omega) ?_
  refine cj_callS (M' := mX3_rowOf) (d' := d') (k' := k') (n' := n') (index := 178) (np := 2) (As := [.int 1, .int w24]) (rest := []) dX3_numeral_50 lkX3_178 mwX3_rowOf hT h1 rfl rfl (Nat.le_of_ble_eq_true rfl) (fun v9 G27 q26 => ?_) hx
  replace h := h v9 G27 q26
  obtain ⟨x30, e8, h⟩ := h
  subst e8
  refine cj_nmk (fun k28 n29 e6 e7 => ?_)
  (try rw [← e6] at h); (try rw [← e7] at h)
  refine cj_st (st' := [.ref x30]) rfl ?_
  refine cj_aret rfl dX3_numeral_53 ?_
  exact h
def wq_X3_access (d k n1 : Nat) (o : Nat) (G : cj_G) (Qr : Option Value → cj_G → Prop) (Qx : String → cj_G → Prop) : Prop := (sk_V G o 3 ∧ sk_c_i mX3_peek d k n1 [.ref o] G Qx (fun x5 G2 k3 n4 => (sk_V G2 o 3 ∧ sk_c_i mX3_furtherOn d k3 n4 [.ref o, .int x5] G2 Qx (fun x10 G7 k8 n9 => ((¬ x10 = (-1) → sk_gi G7 o 3 2 (fun x12 => sk_pt G7 o 3 2 (.int (x12 + 1)) (fun G14 => (sk_c_r mX3_rowOf d k8 n9 [.int 2, .int x10] G14 Qx (fun x19 G16 k17 n18 => Qr (some (.ref x19)) G16))))) ∧ (x10 = (-1) → (sk_V G7 o 3 ∧ sk_c_v mX3_refuse d k8 n9 [.ref o] G7 Qx (fun G21 k22 n23 => sk_gi G21 o 3 2 (fun x24 => sk_pt G21 o 3 2 (.int (x24 + 1)) (fun G26 => (sk_c_r mX3_rowOf d k22 n23 [.int 2, .int x10] G26 Qx (fun x31 G28 k29 n30 => Qr (some (.ref x31)) G28))))))))))))
set_option maxHeartbeats 4000000 in
set_option maxRecDepth 100000 in
theorem tq_X3_access {d k n1 : Nat} (hd9 : 6 ≤ d) {o : Nat} {G : cj_G} {Qr : Option Value → cj_G → Prop} {Qx : String → cj_G → Prop} (h : wq_X3_access d k n1 o G Qr Qx) : cj_T mX3_access d k n1 [.ref o] G Qr Qx := by
  refine cj_T_of (by decide +kernel) (Nat.le_of_ble_eq_true rfl) ?_
  refine cj_lvs (lv' := [(0, .ref o)]) rfl ?_
  unfold wq_X3_access at h
  refine cj_aload_n dX3_access_0 rfl ?_
  refine cj_aload_n dX3_access_1 rfl ?_
  obtain ⟨⟨fs9, e9⟩, h⟩ := h
  obtain ⟨d', k', n', Qr', Qx', h1, h2, h3, hT, hx, h⟩ := h
  refine cj_fewer (k' := (k - k') + k') (n' := (n1 - n') + n') (by omega) (by omega) ?_
  refine cj_callV (M' := mX3_peek) (d' := d') (k' := k') (n' := n') (index := 64) (np := 0) (As := []) (rest := [.ref o]) dX3_access_2 lkX3_64 mwX3_peek hT h1 rfl rfl (Nat.le_of_ble_eq_true rfl) e9 rfl (fun v9 G2 q1 => ?_) hx
  replace h := h v9 G2 q1
  obtain ⟨x5, e8, h⟩ := h
  subst e8
  refine cj_nmk (fun k3 n4 e6 e7 => ?_)
  (try rw [← e6] at h); (try rw [← e7] at h)
  refine cj_st (st' := [.int x5, .ref o]) rfl ?_
  refine cj_pc (pc' := 5) rfl ?_
  obtain ⟨⟨fs9, e9⟩, h⟩ := h
  obtain ⟨d', k', n', Qr', Qx', h1, h2, h3, hT, hx, h⟩ := h
  refine cj_fewer (k' := (k3 - k') + k') (n' := (n4 - n') + n') (by omega) (by omega) ?_
  refine cj_callV (M' := mX3_furtherOn) (d' := d') (k' := k') (n' := n') (index := 139) (np := 1) (As := [.int x5]) (rest := []) dX3_access_5 lkX3_139 mwX3_furtherOn hT h1 rfl rfl (Nat.le_of_ble_eq_true rfl) e9 rfl (fun v9 G7 q6 => ?_) hx
  replace h := h v9 G7 q6
  obtain ⟨x10, e8, h⟩ := h
  subst e8
  refine cj_nmk (fun k8 n9 e6 e7 => ?_)
  (try rw [← e6] at h); (try rw [← e7] at h)
  refine cj_st (st' := [.int x10]) rfl ?_
  refine cj_istore_n (lv' := [(1, .int x10), (0, .ref o)]) dX3_access_8 (by decide) rfl ?_
  refine cj_iload_n dX3_access_9 rfl ?_
  refine cj_iconst (v := (-1)) dX3_access_10 (by decide) ?_
  refine cj_pc (pc' := 11) rfl ?_
  refine cj_icmp_ne (tgt := 18) dX3_access_11 (by decide) (fun c11 => ?_) (fun c11 => ?_)
  · replace h := h.1 c11
    refine cj_aload_n dX3_access_18 rfl ?_
    refine cj_dup dX3_access_19 rfl ?_
    obtain ⟨fs9, x12, g13, e9, h⟩ := h
    refine cj_get flX3_19 dX3_access_20 g13 e9 ?_
    refine cj_pc (pc' := 23) rfl ?_
    refine cj_iconst (v := 1) dX3_access_23 (by decide) ?_
    refine cj_iadd dX3_access_24 ?_
    obtain ⟨fs9, e8, e9, h⟩ := h
    refine cj_put flX3_19 dX3_access_25 e8 rfl rfl e9 ?_
    refine cj_nm (fun G14 e7 => ?_)
    rw [← e7] at h
    clear e7
    refine cj_iconst (v := 2) dX3_access_28 (by decide) ?_
    refine cj_pc (pc' := 29) rfl ?_
    refine cj_iload_n dX3_access_29 rfl ?_
    obtain ⟨d', k', n', Qr', Qx', h1, h2, h3, hT, hx, h⟩ := h
    refine cj_fewer (k' := (k8 - k') + k') (n' := (n9 - n') + n') (by omega) (by omega) ?_
    refine cj_callS (M' := mX3_rowOf) (d' := d') (k' := k') (n' := n') (index := 178) (np := 2) (As := [.int 2, .int x10]) (rest := []) dX3_access_30 lkX3_178 mwX3_rowOf hT h1 rfl rfl (Nat.le_of_ble_eq_true rfl) (fun v9 G16 q15 => ?_) hx
    replace h := h v9 G16 q15
    obtain ⟨x19, e8, h⟩ := h
    subst e8
    refine cj_nmk (fun k17 n18 e6 e7 => ?_)
    (try rw [← e6] at h); (try rw [← e7] at h)
    refine cj_st (st' := [.ref x19]) rfl ?_
    refine cj_aret rfl dX3_access_33 ?_
    exact h
  · replace h := h.2 c11
    refine cj_aload_n dX3_access_14 rfl ?_
    refine cj_pc (pc' := 15) rfl ?_
    obtain ⟨⟨fs9, e9⟩, h⟩ := h
    obtain ⟨d', k', n', Qr', Qx', h1, h2, h3, hT, hx, h⟩ := h
    refine cj_fewer (k' := (k8 - k') + k') (n' := (n9 - n') + n') (by omega) (by omega) ?_
    refine cj_callV (M' := mX3_refuse) (d' := d') (k' := k') (n' := n') (index := 39) (np := 0) (As := []) (rest := []) dX3_access_15 lkX3_39 mwX3_refuse hT h1 rfl rfl (Nat.le_of_ble_eq_true rfl) e9 rfl (fun v9 G21 q20 => ?_) hx
    replace h := h v9 G21 q20
    obtain ⟨e8, h⟩ := h
    subst e8
    refine cj_nmk (fun k22 n23 e6 e7 => ?_)
    (try rw [← e6] at h); (try rw [← e7] at h)
    refine cj_st (st' := []) rfl ?_
    refine cj_aload_n dX3_access_18 rfl ?_
    refine cj_dup dX3_access_19 rfl ?_
    obtain ⟨fs9, x24, g25, e9, h⟩ := h
    refine cj_get flX3_19 dX3_access_20 g25 e9 ?_
    refine cj_pc (pc' := 23) rfl ?_
    refine cj_iconst (v := 1) dX3_access_23 (by decide) ?_
    refine cj_iadd dX3_access_24 ?_
    obtain ⟨fs9, e8, e9, h⟩ := h
    refine cj_put flX3_19 dX3_access_25 e8 rfl rfl e9 ?_
    refine cj_nm (fun G26 e7 => ?_)
    rw [← e7] at h
    clear e7
    refine cj_iconst (v := 2) dX3_access_28 (by decide) ?_
    refine cj_pc (pc' := 29) rfl ?_
    refine cj_iload_n dX3_access_29 rfl ?_
    obtain ⟨d', k', n', Qr', Qx', h1, h2, h3, hT, hx, h⟩ := h
    refine cj_fewer (k' := (k22 - k') + k') (n' := (n23 - n') + n') (by omega) (by omega) ?_
    refine cj_callS (M' := mX3_rowOf) (d' := d') (k' := k') (n' := n') (index := 178) (np := 2) (As := [.int 2, .int x10]) (rest := []) dX3_access_30 lkX3_178 mwX3_rowOf hT h1 rfl rfl (Nat.le_of_ble_eq_true rfl) (fun v9 G28 q27 => ?_) hx
    replace h := h v9 G28 q27
    obtain ⟨x31, e8, h⟩ := h
    subst e8
    refine cj_nmk (fun k29 n30 e6 e7 => ?_)
    (try rw [← e6] at h); (try rw [← e7] at h)
    refine cj_st (st' := [.ref x31]) rfl ?_
    refine cj_aret rfl dX3_access_33 ?_
    exact h
def wk_X3_construction_34 (d : Nat) (v0 : Nat) (v1 : Int32) (v2 : Int32) (v3 : Int32) (v4 : Nat) (Qr : Option Value → cj_G → Prop) (Qx : String → cj_G → Prop) (K : Int32 → cj_G → Nat → Nat → Prop) : Nat → Int32 → cj_G → Nat → Nat → Prop
  | 0, _, _, _, _ => False
  | n + 1, v5, G, k, n1 => ((v3 ≤ v5 → K v5 G k n1) ∧ (¬ v3 ≤ v5 → ((v5 ≤ 0 → ((¬ v5 = 0 → (sk_V G v0 3 ∧ sk_c_v mX3_expect d k n1 [.ref v0, .int 44] G Qx (fun G24 k25 n26 => (sk_V G24 v0 3 ∧ sk_c_r mX3_expression d k25 n26 [.ref v0, .int (v1 + 1)] G24 Qx (fun x31 G28 k29 n30 => (sk_V G28 v4 4 ∧ sk_c_v mX4_append d k29 n30 [.ref v4, .ref x31] G28 Qx (fun G33 k34 n35 => wk_X3_construction_34 d v0 v1 v2 v3 v4 Qr Qx K n (v5 + 1) G33 k34 n35))))))) ∧ (v5 = 0 → (sk_V G v0 3 ∧ sk_c_v mX3_expect d k n1 [.ref v0, .int 40] G Qx (fun G37 k38 n39 => (sk_V G37 v0 3 ∧ sk_c_r mX3_expression d k38 n39 [.ref v0, .int (v1 + 1)] G37 Qx (fun x44 G41 k42 n43 => (sk_V G41 v4 4 ∧ sk_c_v mX4_append d k42 n43 [.ref v4, .ref x44] G41 Qx (fun G46 k47 n48 => wk_X3_construction_34 d v0 v1 v2 v3 v4 Qr Qx K n (v5 + 1) G46 k47 n48))))))))) ∧ (¬ v5 ≤ 0 → (sk_V G v4 4 ∧ sk_c_v mX4_add_ d k n1 [.ref v4, .int 3, .int 0] G Qx (fun G50 k51 n52 => ((¬ v5 = 0 → (sk_V G50 v0 3 ∧ sk_c_v mX3_expect d k51 n52 [.ref v0, .int 44] G50 Qx (fun G55 k56 n57 => (sk_V G55 v0 3 ∧ sk_c_r mX3_expression d k56 n57 [.ref v0, .int (v1 + 1)] G55 Qx (fun x62 G59 k60 n61 => (sk_V G59 v4 4 ∧ sk_c_v mX4_append d k60 n61 [.ref v4, .ref x62] G59 Qx (fun G64 k65 n66 => wk_X3_construction_34 d v0 v1 v2 v3 v4 Qr Qx K n (v5 + 1) G64 k65 n66))))))) ∧ (v5 = 0 → (sk_V G50 v0 3 ∧ sk_c_v mX3_expect d k51 n52 [.ref v0, .int 40] G50 Qx (fun G68 k69 n70 => (sk_V G68 v0 3 ∧ sk_c_r mX3_expression d k69 n70 [.ref v0, .int (v1 + 1)] G68 Qx (fun x75 G72 k73 n74 => (sk_V G72 v4 4 ∧ sk_c_v mX4_append d k73 n74 [.ref v4, .ref x75] G72 Qx (fun G77 k78 n79 => wk_X3_construction_34 d v0 v1 v2 v3 v4 Qr Qx K n (v5 + 1) G77 k78 n79))))))))))))))
def wq_X3_construction (d k n1 : Nat) (o : Nat) (a1 : Int32) (G : cj_G) (Qr : Option Value → cj_G → Prop) (Qx : String → cj_G → Prop) : Prop := (sk_V G o 3 ∧ sk_c_i mX3_takeTagNotIn d k n1 [.ref o, .int 0] G Qx (fun x5 G2 k3 n4 => (sk_n_i mX6_fieldsOf d k3 n4 [.int x5] G2 (fun x10 G7 k8 n9 => ((¬ x10 = 0 → sk_new G7 k8 n9 4 2 [.null, .null] (fun q12 G13 k14 n15 => (sk_n_v mX4_init d k14 n15 [.ref q12] G13 (fun G17 k18 n19 => (∃ n9 : Nat, wk_X3_construction_34 d o a1 x5 x10 q12 Qr Qx (fun w83 G80 k81 n82 => (sk_V G80 o 3 ∧ sk_c_v mX3_expect d k81 n82 [.ref o, .int 41] G80 Qx (fun G85 k86 n87 => (sk_V G85 q12 4 ∧ sk_c_v mX4_add_ d k86 n87 [.ref q12, .int 17, .int x5] G85 Qx (fun G89 k90 n91 => Qr (some (.ref q12)) G89))))) n9 0 G17 k18 n19))))) ∧ (x10 = 0 → (sk_c_r mX3_rowOf d k8 n9 [.int 16, .int x5] G7 Qx (fun x96 G93 k94 n95 => Qr (some (.ref x96)) G93))))))))
set_option maxHeartbeats 4000000 in
set_option maxRecDepth 100000 in
theorem wk_X3_construction_34_ok {d k0 n0 : Nat} (hd9 : 6 ≤ d) (v0 : Nat) (v1 : Int32) (v2 : Int32) (v3 : Int32) (v4 : Nat) {Qr : Option Value → cj_G → Prop} {Qx : String → cj_G → Prop} {K : Int32 → cj_G → Nat → Nat → Prop} (hK : ∀ (v5 : Int32) (G : cj_G) (k n1 : Nat), K v5 G k n1 → cj_J mX3_construction d k0 n0 Qr Qx k n1 86 [(0, .ref v0), (1, .int v1), (2, .int v2), (3, .int v3), (4, .ref v4), (5, .int v5)] [] G) : ∀ (n : Nat) (v5 : Int32) (G : cj_G) (k n1 : Nat), wk_X3_construction_34 d v0 v1 v2 v3 v4 Qr Qx K n v5 G k n1 → cj_J mX3_construction d k0 n0 Qr Qx k n1 34 [(0, .ref v0), (1, .int v1), (2, .int v2), (3, .int v3), (4, .ref v4), (5, .int v5)] [] G := by
  intro n
  induction n with
  | zero => intro v5 G k n1 h; exact absurd h id
  | succ n ih =>
    intro v5 G k n1 h
    unfold wk_X3_construction_34 at h
    refine cj_iload dX3_construction_34 rfl ?_
    refine cj_pc (pc' := 36) rfl ?_
    refine cj_iload_n dX3_construction_36 rfl ?_
    refine cj_icmp_ge (tgt := 86) dX3_construction_37 (by decide) (fun c20 => ?_) (fun c20 => ?_)
    · replace h := h.1 c20
      refine cj_sub (lv' := [(0, .ref v0), (1, .int v1), (2, .int v2), (3, .int v3), (4, .ref v4), (5, .int v5)]) (by simp) ?_
      exact hK _ _ _ _ h
    · replace h := h.2 c20
      refine cj_iload dX3_construction_40 rfl ?_
      refine cj_if_le (tgt := 52) dX3_construction_42 (by decide) (fun c21 => ?_) (fun c21 => ?_)
      · replace h := h.1 c21
        refine cj_aload_n dX3_construction_52 rfl ?_
        refine cj_pc (pc' := 53) rfl ?_
        refine cj_iload dX3_construction_53 rfl ?_
        refine cj_if_ne (tgt := 63) dX3_construction_55 (by decide) (fun c22 => ?_) (fun c22 => ?_)
        · replace h := h.1 c22
          refine cj_bipush (v := 44) dX3_construction_63 (by decide) ?_
          obtain ⟨⟨fs9, e9⟩, h⟩ := h
          obtain ⟨d', k', n', Qr', Qx', h1, h2, h3, hT, hx, h⟩ := h
          refine cj_fewer (k' := (k - k') + k') (n' := (n1 - n') + n') (by omega) (by omega) ?_
          refine cj_callV (M' := mX3_expect) (d' := d') (k' := k') (n' := n') (index := 120) (np := 1) (As := [.int 44]) (rest := []) dX3_construction_65 lkX3_120 mwX3_expect hT h1 rfl rfl (Nat.le_of_ble_eq_true rfl) e9 rfl (fun v9 G24 q23 => ?_) hx
          replace h := h v9 G24 q23
          obtain ⟨e8, h⟩ := h
          subst e8
          refine cj_nmk (fun k25 n26 e6 e7 => ?_)
          (try rw [← e6] at h); (try rw [← e7] at h)
          refine cj_st (st' := []) rfl ?_
          refine cj_pc (pc' := 68) rfl ?_
          refine cj_aload dX3_construction_68 rfl ?_
          refine cj_aload_n dX3_construction_70 rfl ?_
          refine cj_iload_n dX3_construction_71 rfl ?_
          refine cj_iconst (v := 1) dX3_construction_72 (by decide) ?_
          refine cj_pc (pc' := 73) rfl ?_
          refine cj_iadd dX3_construction_73 ?_
          obtain ⟨⟨fs9, e9⟩, h⟩ := h
          obtain ⟨d', k', n', Qr', Qx', h1, h2, h3, hT, hx, h⟩ := h
          refine cj_fewer (k' := (k25 - k') + k') (n' := (n26 - n') + n') (by omega) (by omega) ?_
          refine cj_callV (M' := mX3_expression) (d' := d') (k' := k') (n' := n') (index := 35) (np := 1) (As := [.int (v1 + 1)]) (rest := [.ref v4]) dX3_construction_74 lkX3_35 mwX3_expression hT h1 rfl rfl (Nat.le_of_ble_eq_true rfl) e9 rfl (fun v9 G28 q27 => ?_) hx
          replace h := h v9 G28 q27
          obtain ⟨x31, e8, h⟩ := h
          subst e8
          refine cj_nmk (fun k29 n30 e6 e7 => ?_)
          (try rw [← e6] at h); (try rw [← e7] at h)
          refine cj_st (st' := [.ref x31, .ref v4]) rfl ?_
          obtain ⟨⟨fs9, e9⟩, h⟩ := h
          obtain ⟨d', k', n', Qr', Qx', h1, h2, h3, hT, hx, h⟩ := h
          refine cj_fewer (k' := (k29 - k') + k') (n' := (n30 - n') + n') (by omega) (by omega) ?_
          refine cj_callV (M' := mX4_append) (d' := d') (k' := k') (n' := n') (index := 74) (np := 1) (As := [.ref x31]) (rest := []) dX3_construction_77 lkX3_74 mwX4_append hT h1 rfl rfl (Nat.le_of_ble_eq_true rfl) e9 rfl (fun v9 G33 q32 => ?_) hx
          replace h := h v9 G33 q32
          obtain ⟨e8, h⟩ := h
          subst e8
          refine cj_nmk (fun k34 n35 e6 e7 => ?_)
          (try rw [← e6] at h); (try rw [← e7] at h)
          refine cj_st (st' := []) rfl ?_
          refine cj_iinc (v := v5 + 1) (lv' := [(5, .int (v5 + 1)), (0, .ref v0), (1, .int v1), (2, .int v2), (3, .int v3), (4, .ref v4)]) dX3_construction_80 rfl rfl (by decide) rfl ?_
          refine cj_pc (pc' := 83) rfl ?_
          refine cj_goto (tgt := 34) dX3_construction_83 (by decide) ?_
          refine cj_sub (lv' := [(0, .ref v0), (1, .int v1), (2, .int v2), (3, .int v3), (4, .ref v4), (5, .int (v5 + 1))]) (by simp) ?_
          exact ih _ _ _ _ h
        · replace h := h.2 c22
          refine cj_bipush (v := 40) dX3_construction_58 (by decide) ?_
          refine cj_goto (tgt := 65) dX3_construction_60 (by decide) ?_
          obtain ⟨⟨fs9, e9⟩, h⟩ := h
          obtain ⟨d', k', n', Qr', Qx', h1, h2, h3, hT, hx, h⟩ := h
          refine cj_fewer (k' := (k - k') + k') (n' := (n1 - n') + n') (by omega) (by omega) ?_
          refine cj_callV (M' := mX3_expect) (d' := d') (k' := k') (n' := n') (index := 120) (np := 1) (As := [.int 40]) (rest := []) dX3_construction_65 lkX3_120 mwX3_expect hT h1 rfl rfl (Nat.le_of_ble_eq_true rfl) e9 rfl (fun v9 G37 q36 => ?_) hx
          replace h := h v9 G37 q36
          obtain ⟨e8, h⟩ := h
          subst e8
          refine cj_nmk (fun k38 n39 e6 e7 => ?_)
          (try rw [← e6] at h); (try rw [← e7] at h)
          refine cj_st (st' := []) rfl ?_
          refine cj_pc (pc' := 68) rfl ?_
          refine cj_aload dX3_construction_68 rfl ?_
          refine cj_aload_n dX3_construction_70 rfl ?_
          refine cj_iload_n dX3_construction_71 rfl ?_
          refine cj_iconst (v := 1) dX3_construction_72 (by decide) ?_
          refine cj_pc (pc' := 73) rfl ?_
          refine cj_iadd dX3_construction_73 ?_
          obtain ⟨⟨fs9, e9⟩, h⟩ := h
          obtain ⟨d', k', n', Qr', Qx', h1, h2, h3, hT, hx, h⟩ := h
          refine cj_fewer (k' := (k38 - k') + k') (n' := (n39 - n') + n') (by omega) (by omega) ?_
          refine cj_callV (M' := mX3_expression) (d' := d') (k' := k') (n' := n') (index := 35) (np := 1) (As := [.int (v1 + 1)]) (rest := [.ref v4]) dX3_construction_74 lkX3_35 mwX3_expression hT h1 rfl rfl (Nat.le_of_ble_eq_true rfl) e9 rfl (fun v9 G41 q40 => ?_) hx
          replace h := h v9 G41 q40
          obtain ⟨x44, e8, h⟩ := h
          subst e8
          refine cj_nmk (fun k42 n43 e6 e7 => ?_)
          (try rw [← e6] at h); (try rw [← e7] at h)
          refine cj_st (st' := [.ref x44, .ref v4]) rfl ?_
          obtain ⟨⟨fs9, e9⟩, h⟩ := h
          obtain ⟨d', k', n', Qr', Qx', h1, h2, h3, hT, hx, h⟩ := h
          refine cj_fewer (k' := (k42 - k') + k') (n' := (n43 - n') + n') (by omega) (by omega) ?_
          refine cj_callV (M' := mX4_append) (d' := d') (k' := k') (n' := n') (index := 74) (np := 1) (As := [.ref x44]) (rest := []) dX3_construction_77 lkX3_74 mwX4_append hT h1 rfl rfl (Nat.le_of_ble_eq_true rfl) e9 rfl (fun v9 G46 q45 => ?_) hx
          replace h := h v9 G46 q45
          obtain ⟨e8, h⟩ := h
          subst e8
          refine cj_nmk (fun k47 n48 e6 e7 => ?_)
          (try rw [← e6] at h); (try rw [← e7] at h)
          refine cj_st (st' := []) rfl ?_
          refine cj_iinc (v := v5 + 1) (lv' := [(5, .int (v5 + 1)), (0, .ref v0), (1, .int v1), (2, .int v2), (3, .int v3), (4, .ref v4)]) dX3_construction_80 rfl rfl (by decide) rfl ?_
          refine cj_pc (pc' := 83) rfl ?_
          refine cj_goto (tgt := 34) dX3_construction_83 (by decide) ?_
          refine cj_sub (lv' := [(0, .ref v0), (1, .int v1), (2, .int v2), (3, .int v3), (4, .ref v4), (5, .int (v5 + 1))]) (by simp) ?_
          exact ih _ _ _ _ h
      · replace h := h.2 c21
        refine cj_aload dX3_construction_45 rfl ?_
        refine cj_iconst (v := 3) dX3_construction_47 (by decide) ?_
        refine cj_iconst (v := 0) dX3_construction_48 (by decide) ?_
        refine cj_pc (pc' := 49) rfl ?_
        obtain ⟨⟨fs9, e9⟩, h⟩ := h
        obtain ⟨d', k', n', Qr', Qx', h1, h2, h3, hT, hx, h⟩ := h
        refine cj_fewer (k' := (k - k') + k') (n' := (n1 - n') + n') (by omega) (by omega) ?_
        refine cj_callV (M' := mX4_add_) (d' := d') (k' := k') (n' := n') (index := 42) (np := 2) (As := [.int 3, .int 0]) (rest := []) dX3_construction_49 lkX3_42 mwX4_add_ hT h1 rfl rfl (Nat.le_of_ble_eq_true rfl) e9 rfl (fun v9 G50 q49 => ?_) hx
        replace h := h v9 G50 q49
        obtain ⟨e8, h⟩ := h
        subst e8
        refine cj_nmk (fun k51 n52 e6 e7 => ?_)
        (try rw [← e6] at h); (try rw [← e7] at h)
        refine cj_st (st' := []) rfl ?_
        refine cj_aload_n dX3_construction_52 rfl ?_
        refine cj_iload dX3_construction_53 rfl ?_
        refine cj_if_ne (tgt := 63) dX3_construction_55 (by decide) (fun c53 => ?_) (fun c53 => ?_)
        · replace h := h.1 c53
          refine cj_bipush (v := 44) dX3_construction_63 (by decide) ?_
          refine cj_pc (pc' := 65) rfl ?_
          obtain ⟨⟨fs9, e9⟩, h⟩ := h
          obtain ⟨d', k', n', Qr', Qx', h1, h2, h3, hT, hx, h⟩ := h
          refine cj_fewer (k' := (k51 - k') + k') (n' := (n52 - n') + n') (by omega) (by omega) ?_
          refine cj_callV (M' := mX3_expect) (d' := d') (k' := k') (n' := n') (index := 120) (np := 1) (As := [.int 44]) (rest := []) dX3_construction_65 lkX3_120 mwX3_expect hT h1 rfl rfl (Nat.le_of_ble_eq_true rfl) e9 rfl (fun v9 G55 q54 => ?_) hx
          replace h := h v9 G55 q54
          obtain ⟨e8, h⟩ := h
          subst e8
          refine cj_nmk (fun k56 n57 e6 e7 => ?_)
          (try rw [← e6] at h); (try rw [← e7] at h)
          refine cj_st (st' := []) rfl ?_
          refine cj_aload dX3_construction_68 rfl ?_
          refine cj_aload_n dX3_construction_70 rfl ?_
          refine cj_iload_n dX3_construction_71 rfl ?_
          refine cj_pc (pc' := 72) rfl ?_
          refine cj_iconst (v := 1) dX3_construction_72 (by decide) ?_
          refine cj_iadd dX3_construction_73 ?_
          obtain ⟨⟨fs9, e9⟩, h⟩ := h
          obtain ⟨d', k', n', Qr', Qx', h1, h2, h3, hT, hx, h⟩ := h
          refine cj_fewer (k' := (k56 - k') + k') (n' := (n57 - n') + n') (by omega) (by omega) ?_
          refine cj_callV (M' := mX3_expression) (d' := d') (k' := k') (n' := n') (index := 35) (np := 1) (As := [.int (v1 + 1)]) (rest := [.ref v4]) dX3_construction_74 lkX3_35 mwX3_expression hT h1 rfl rfl (Nat.le_of_ble_eq_true rfl) e9 rfl (fun v9 G59 q58 => ?_) hx
          replace h := h v9 G59 q58
          obtain ⟨x62, e8, h⟩ := h
          subst e8
          refine cj_nmk (fun k60 n61 e6 e7 => ?_)
          (try rw [← e6] at h); (try rw [← e7] at h)
          refine cj_st (st' := [.ref x62, .ref v4]) rfl ?_
          obtain ⟨⟨fs9, e9⟩, h⟩ := h
          obtain ⟨d', k', n', Qr', Qx', h1, h2, h3, hT, hx, h⟩ := h
          refine cj_fewer (k' := (k60 - k') + k') (n' := (n61 - n') + n') (by omega) (by omega) ?_
          refine cj_callV (M' := mX4_append) (d' := d') (k' := k') (n' := n') (index := 74) (np := 1) (As := [.ref x62]) (rest := []) dX3_construction_77 lkX3_74 mwX4_append hT h1 rfl rfl (Nat.le_of_ble_eq_true rfl) e9 rfl (fun v9 G64 q63 => ?_) hx
          replace h := h v9 G64 q63
          obtain ⟨e8, h⟩ := h
          subst e8
          refine cj_nmk (fun k65 n66 e6 e7 => ?_)
          (try rw [← e6] at h); (try rw [← e7] at h)
          refine cj_st (st' := []) rfl ?_
          refine cj_pc (pc' := 80) rfl ?_
          refine cj_iinc (v := v5 + 1) (lv' := [(5, .int (v5 + 1)), (0, .ref v0), (1, .int v1), (2, .int v2), (3, .int v3), (4, .ref v4)]) dX3_construction_80 rfl rfl (by decide) rfl ?_
          refine cj_goto (tgt := 34) dX3_construction_83 (by decide) ?_
          refine cj_sub (lv' := [(0, .ref v0), (1, .int v1), (2, .int v2), (3, .int v3), (4, .ref v4), (5, .int (v5 + 1))]) (by simp) ?_
          exact ih _ _ _ _ h
        · replace h := h.2 c53
          refine cj_bipush (v := 40) dX3_construction_58 (by decide) ?_
          refine cj_goto (tgt := 65) dX3_construction_60 (by decide) ?_
          refine cj_pc (pc' := 65) rfl ?_
          obtain ⟨⟨fs9, e9⟩, h⟩ := h
          obtain ⟨d', k', n', Qr', Qx', h1, h2, h3, hT, hx, h⟩ := h
          refine cj_fewer (k' := (k51 - k') + k') (n' := (n52 - n') + n') (by omega) (by omega) ?_
          refine cj_callV (M' := mX3_expect) (d' := d') (k' := k') (n' := n') (index := 120) (np := 1) (As := [.int 40]) (rest := []) dX3_construction_65 lkX3_120 mwX3_expect hT h1 rfl rfl (Nat.le_of_ble_eq_true rfl) e9 rfl (fun v9 G68 q67 => ?_) hx
          replace h := h v9 G68 q67
          obtain ⟨e8, h⟩ := h
          subst e8
          refine cj_nmk (fun k69 n70 e6 e7 => ?_)
          (try rw [← e6] at h); (try rw [← e7] at h)
          refine cj_st (st' := []) rfl ?_
          refine cj_aload dX3_construction_68 rfl ?_
          refine cj_aload_n dX3_construction_70 rfl ?_
          refine cj_iload_n dX3_construction_71 rfl ?_
          refine cj_pc (pc' := 72) rfl ?_
          refine cj_iconst (v := 1) dX3_construction_72 (by decide) ?_
          refine cj_iadd dX3_construction_73 ?_
          obtain ⟨⟨fs9, e9⟩, h⟩ := h
          obtain ⟨d', k', n', Qr', Qx', h1, h2, h3, hT, hx, h⟩ := h
          refine cj_fewer (k' := (k69 - k') + k') (n' := (n70 - n') + n') (by omega) (by omega) ?_
          refine cj_callV (M' := mX3_expression) (d' := d') (k' := k') (n' := n') (index := 35) (np := 1) (As := [.int (v1 + 1)]) (rest := [.ref v4]) dX3_construction_74 lkX3_35 mwX3_expression hT h1 rfl rfl (Nat.le_of_ble_eq_true rfl) e9 rfl (fun v9 G72 q71 => ?_) hx
          replace h := h v9 G72 q71
          obtain ⟨x75, e8, h⟩ := h
          subst e8
          refine cj_nmk (fun k73 n74 e6 e7 => ?_)
          (try rw [← e6] at h); (try rw [← e7] at h)
          refine cj_st (st' := [.ref x75, .ref v4]) rfl ?_
          obtain ⟨⟨fs9, e9⟩, h⟩ := h
          obtain ⟨d', k', n', Qr', Qx', h1, h2, h3, hT, hx, h⟩ := h
          refine cj_fewer (k' := (k73 - k') + k') (n' := (n74 - n') + n') (by omega) (by omega) ?_
          refine cj_callV (M' := mX4_append) (d' := d') (k' := k') (n' := n') (index := 74) (np := 1) (As := [.ref x75]) (rest := []) dX3_construction_77 lkX3_74 mwX4_append hT h1 rfl rfl (Nat.le_of_ble_eq_true rfl) e9 rfl (fun v9 G77 q76 => ?_) hx
          replace h := h v9 G77 q76
          obtain ⟨e8, h⟩ := h
          subst e8
          refine cj_nmk (fun k78 n79 e6 e7 => ?_)
          (try rw [← e6] at h); (try rw [← e7] at h)
          refine cj_st (st' := []) rfl ?_
          refine cj_pc (pc' := 80) rfl ?_
          refine cj_iinc (v := v5 + 1) (lv' := [(5, .int (v5 + 1)), (0, .ref v0), (1, .int v1), (2, .int v2), (3, .int v3), (4, .ref v4)]) dX3_construction_80 rfl rfl (by decide) rfl ?_
          refine cj_goto (tgt := 34) dX3_construction_83 (by decide) ?_
          refine cj_sub (lv' := [(0, .ref v0), (1, .int v1), (2, .int v2), (3, .int v3), (4, .ref v4), (5, .int (v5 + 1))]) (by simp) ?_
          exact ih _ _ _ _ h
set_option maxHeartbeats 4000000 in
set_option maxRecDepth 100000 in
theorem tq_X3_construction {d k n1 : Nat} (hd9 : 6 ≤ d) {o : Nat} {a1 : Int32} {G : cj_G} {Qr : Option Value → cj_G → Prop} {Qx : String → cj_G → Prop} (h : wq_X3_construction d k n1 o a1 G Qr Qx) : cj_T mX3_construction d k n1 [.ref o, .int a1] G Qr Qx := by
  refine cj_T_of (by decide +kernel) (Nat.le_of_ble_eq_true rfl) ?_
  refine cj_lvs (lv' := [(0, .ref o), (1, .int a1)]) rfl ?_
  unfold wq_X3_construction at h
  refine cj_aload_n dX3_construction_0 rfl ?_
  refine cj_iconst (v := 0) dX3_construction_1 (by decide) ?_
  obtain ⟨⟨fs9, e9⟩, h⟩ := h
  obtain ⟨d', k', n', Qr', Qx', h1, h2, h3, hT, hx, h⟩ := h
  refine cj_fewer (k' := (k - k') + k') (n' := (n1 - n') + n') (by omega) (by omega) ?_
  refine cj_callV (M' := mX3_takeTagNotIn) (d' := d') (k' := k') (n' := n') (index := 125) (np := 1) (As := [.int 0]) (rest := []) dX3_construction_2 lkX3_125 mwX3_takeTagNotIn hT h1 rfl rfl (Nat.le_of_ble_eq_true rfl) e9 rfl (fun v9 G2 q1 => ?_) hx
  replace h := h v9 G2 q1
  obtain ⟨x5, e8, h⟩ := h
  subst e8
  refine cj_nmk (fun k3 n4 e6 e7 => ?_)
  (try rw [← e6] at h); (try rw [← e7] at h)
  refine cj_st (st' := [.int x5]) rfl ?_
  refine cj_pc (pc' := 5) rfl ?_
  refine cj_istore_n (lv' := [(2, .int x5), (0, .ref o), (1, .int a1)]) dX3_construction_5 (by decide) rfl ?_
  refine cj_iload_n dX3_construction_6 rfl ?_
  obtain ⟨d', k', n', Qr', h1, h2, h3, hT, h⟩ := h
  refine cj_fewer (k' := (k3 - k') + k') (n' := (n4 - n') + n') (by omega) (by omega) ?_
  refine cj_callSN (M' := mX6_fieldsOf) (d' := d') (k' := k') (n' := n') (index := 136) (np := 1) (As := [.int x5]) (rest := []) dX3_construction_7 lkX3_136 mwX6_fieldsOf hT h1 rfl rfl (Nat.le_of_ble_eq_true rfl) (fun v9 G7 q6 => ?_)
  replace h := h v9 G7 q6
  obtain ⟨x10, e8, h⟩ := h
  subst e8
  refine cj_nmk (fun k8 n9 e6 e7 => ?_)
  (try rw [← e6] at h); (try rw [← e7] at h)
  refine cj_st (st' := [.int x10]) rfl ?_
  refine cj_istore_n (lv' := [(3, .int x10), (2, .int x5), (0, .ref o), (1, .int a1)]) dX3_construction_10 (by decide) rfl ?_
  refine cj_pc (pc' := 11) rfl ?_
  refine cj_iload_n dX3_construction_11 rfl ?_
  refine cj_if_ne (tgt := 22) dX3_construction_12 (by decide) (fun c11 => ?_) (fun c11 => ?_)
  · replace h := h.1 c11
    obtain ⟨h1, h2, h⟩ := h
    refine cj_fewer (k' := (k8 - 1) + 1) (n' := (n9 - 2) + 2) (by omega) (by omega) ?_
    refine cj_new (ci := 4) (fs := [.null, .null]) rfl uw_X4 tyX4_ok klX3_43.1 klX3_43.2.1 klX3_43.2.2 (by intro j hj; rcases (show j = 0 ∨ j = 1 by omega) with rfl | rfl <;> rfl) dX3_construction_22 (fun q12 z9 => ?_)
    replace h := h q12 z9
    refine cj_nm (fun G13 e7 => ?_)
    (try rw [← e7] at h)
    clear e7
    refine cj_nmk (fun k14 n15 e6 e7 => ?_)
    (try rw [← e6] at h); (try rw [← e7] at h)
    refine cj_dup dX3_construction_25 rfl ?_
    refine cj_pc (pc' := 26) rfl ?_
    obtain ⟨d', k', n', Qr', h1, h2, h3, hT, h⟩ := h
    refine cj_fewer (k' := (k14 - k') + k') (n' := (n15 - n') + n') (by omega) (by omega) ?_
    refine cj_callIN (M' := mX4_init) (d' := d') (k' := k') (n' := n') (index := 55) (np := 0) (As := []) (rest := [.ref q12]) dX3_construction_26 lkX3_55 mwX4_init hT h1 rfl rfl (Nat.le_of_ble_eq_true rfl) (fun v9 G17 q16 => ?_)
    replace h := h v9 G17 q16
    obtain ⟨e8, h⟩ := h
    subst e8
    refine cj_nmk (fun k18 n19 e6 e7 => ?_)
    (try rw [← e6] at h); (try rw [← e7] at h)
    refine cj_st (st' := [.ref q12]) rfl ?_
    refine cj_astore (lv' := [(4, .ref q12), (3, .int x10), (2, .int x5), (0, .ref o), (1, .int a1)]) dX3_construction_29 (by decide) rfl ?_
    refine cj_iconst (v := 0) dX3_construction_31 (by decide) ?_
    refine cj_istore (lv' := [(5, .int 0), (4, .ref q12), (3, .int x10), (2, .int x5), (0, .ref o), (1, .int a1)]) dX3_construction_32 (by decide) rfl ?_
    obtain ⟨n9, h⟩ := h
    refine cj_sub (lv' := [(0, .ref o), (1, .int a1), (2, .int x5), (3, .int x10), (4, .ref q12), (5, .int 0)]) (by simp) ?_
    refine wk_X3_construction_34_ok hd9 _ _ _ _ _ ?_ n9 _ _ _ _ h
    clear h
    intro w83 G80 k81 n82 h
    refine cj_aload_n dX3_construction_86 rfl ?_
    refine cj_bipush (v := 41) dX3_construction_87 (by decide) ?_
    refine cj_pc (pc' := 89) rfl ?_
    obtain ⟨⟨fs9, e9⟩, h⟩ := h
    obtain ⟨d', k', n', Qr', Qx', h1, h2, h3, hT, hx, h⟩ := h
    refine cj_fewer (k' := (k81 - k') + k') (n' := (n82 - n') + n') (by omega) (by omega) ?_
    refine cj_callV (M' := mX3_expect) (d' := d') (k' := k') (n' := n') (index := 120) (np := 1) (As := [.int 41]) (rest := []) dX3_construction_89 lkX3_120 mwX3_expect hT h1 rfl rfl (Nat.le_of_ble_eq_true rfl) e9 rfl (fun v9 G85 q84 => ?_) hx
    replace h := h v9 G85 q84
    obtain ⟨e8, h⟩ := h
    subst e8
    refine cj_nmk (fun k86 n87 e6 e7 => ?_)
    (try rw [← e6] at h); (try rw [← e7] at h)
    refine cj_st (st' := []) rfl ?_
    refine cj_aload dX3_construction_92 rfl ?_
    refine cj_bipush (v := 17) dX3_construction_94 (by decide) ?_
    refine cj_iload_n dX3_construction_96 rfl ?_
    refine cj_pc (pc' := 97) rfl ?_
    obtain ⟨⟨fs9, e9⟩, h⟩ := h
    obtain ⟨d', k', n', Qr', Qx', h1, h2, h3, hT, hx, h⟩ := h
    refine cj_fewer (k' := (k86 - k') + k') (n' := (n87 - n') + n') (by omega) (by omega) ?_
    refine cj_callV (M' := mX4_add_) (d' := d') (k' := k') (n' := n') (index := 42) (np := 2) (As := [.int 17, .int x5]) (rest := []) dX3_construction_97 lkX3_42 mwX4_add_ hT h1 rfl rfl (Nat.le_of_ble_eq_true rfl) e9 rfl (fun v9 G89 q88 => ?_) hx
    replace h := h v9 G89 q88
    obtain ⟨e8, h⟩ := h
    subst e8
    refine cj_nmk (fun k90 n91 e6 e7 => ?_)
    (try rw [← e6] at h); (try rw [← e7] at h)
    refine cj_st (st' := []) rfl ?_
    refine cj_aload dX3_construction_100 rfl ?_
    refine cj_aret rfl dX3_construction_102 ?_
    exact h
  · replace h := h.2 c11
    refine cj_bipush (v := 16) dX3_construction_15 (by decide) ?_
    refine cj_pc (pc' := 17) rfl ?_
    refine cj_iload_n dX3_construction_17 rfl ?_
    obtain ⟨d', k', n', Qr', Qx', h1, h2, h3, hT, hx, h⟩ := h
    refine cj_fewer (k' := (k8 - k') + k') (n' := (n9 - n') + n') (by omega) (by omega) ?_
    refine cj_callS (M' := mX3_rowOf) (d' := d') (k' := k') (n' := n') (index := 178) (np := 2) (As := [.int 16, .int x5]) (rest := []) dX3_construction_18 lkX3_178 mwX3_rowOf hT h1 rfl rfl (Nat.le_of_ble_eq_true rfl) (fun v9 G93 q92 => ?_) hx
    replace h := h v9 G93 q92
    obtain ⟨x96, e8, h⟩ := h
    subst e8
    refine cj_nmk (fun k94 n95 e6 e7 => ?_)
    (try rw [← e6] at h); (try rw [← e7] at h)
    refine cj_st (st' := [.ref x96]) rfl ?_
    refine cj_aret rfl dX3_construction_21 ?_
    exact h
def wq_X3_atom (d k n1 : Nat) (o : Nat) (a1 : Int32) (G : cj_G) (Qr : Option Value → cj_G → Prop) (Qx : String → cj_G → Prop) : Prop := (sk_V G o 3 ∧ sk_c_i mX3_peek d k n1 [.ref o] G Qx (fun x5 G2 k3 n4 => (sk_c_i mX3_isDigit d k3 n4 [.int x5] G2 Qx (fun x10 G7 k8 n9 => ((x10 = 0 → (sk_c_i mX3_isName d k8 n9 [.int x5] G7 Qx (fun x16 G13 k14 n15 => ((x16 = 0 → (sk_c_i mX3_isConstructor d k14 n15 [.int x5] G13 Qx (fun x22 G19 k20 n21 => ((x22 = 0 → (sk_V G19 o 3 ∧ sk_c_v mX3_expect d k20 n21 [.ref o, .int 40] G19 Qx (fun G25 k26 n27 => (sk_V G25 o 3 ∧ sk_c_r mX3_expression d k26 n27 [.ref o, .int (a1 + 1)] G25 Qx (fun x32 G29 k30 n31 => (sk_V G29 o 3 ∧ sk_c_v mX3_expect d k30 n31 [.ref o, .int 41] G29 Qx (fun G34 k35 n36 => Qr (some (.ref x32)) G34))))))) ∧ (¬ x22 = 0 → (sk_V G19 o 3 ∧ sk_c_r mX3_construction d k20 n21 [.ref o, .int a1] G19 Qx (fun x41 G38 k39 n40 => Qr (some (.ref x41)) G38))))))) ∧ (¬ x16 = 0 → (sk_V G13 o 3 ∧ sk_c_r mX3_access d k14 n15 [.ref o] G13 Qx (fun x46 G43 k44 n45 => Qr (some (.ref x46)) G43))))))) ∧ (¬ x10 = 0 → (sk_V G7 o 3 ∧ sk_c_r mX3_numeral d k8 n9 [.ref o] G7 Qx (fun x51 G48 k49 n50 => Qr (some (.ref x51)) G48))))))))
set_option maxHeartbeats 4000000 in
set_option maxRecDepth 100000 in
theorem tq_X3_atom {d k n1 : Nat} (hd9 : 6 ≤ d) {o : Nat} {a1 : Int32} {G : cj_G} {Qr : Option Value → cj_G → Prop} {Qx : String → cj_G → Prop} (h : wq_X3_atom d k n1 o a1 G Qr Qx) : cj_T mX3_atom d k n1 [.ref o, .int a1] G Qr Qx := by
  refine cj_T_of (by decide +kernel) (Nat.le_of_ble_eq_true rfl) ?_
  refine cj_lvs (lv' := [(0, .ref o), (1, .int a1)]) rfl ?_
  unfold wq_X3_atom at h
  refine cj_aload_n dX3_atom_0 rfl ?_
  obtain ⟨⟨fs9, e9⟩, h⟩ := h
  obtain ⟨d', k', n', Qr', Qx', h1, h2, h3, hT, hx, h⟩ := h
  refine cj_fewer (k' := (k - k') + k') (n' := (n1 - n') + n') (by omega) (by omega) ?_
  refine cj_callV (M' := mX3_peek) (d' := d') (k' := k') (n' := n') (index := 64) (np := 0) (As := []) (rest := []) dX3_atom_1 lkX3_64 mwX3_peek hT h1 rfl rfl (Nat.le_of_ble_eq_true rfl) e9 rfl (fun v9 G2 q1 => ?_) hx
  replace h := h v9 G2 q1
  obtain ⟨x5, e8, h⟩ := h
  subst e8
  refine cj_nmk (fun k3 n4 e6 e7 => ?_)
  (try rw [← e6] at h); (try rw [← e7] at h)
  refine cj_st (st' := [.int x5]) rfl ?_
  refine cj_istore_n (lv' := [(2, .int x5), (0, .ref o), (1, .int a1)]) dX3_atom_4 (by decide) rfl ?_
  refine cj_pc (pc' := 5) rfl ?_
  refine cj_iload_n dX3_atom_5 rfl ?_
  obtain ⟨d', k', n', Qr', Qx', h1, h2, h3, hT, hx, h⟩ := h
  refine cj_fewer (k' := (k3 - k') + k') (n' := (n4 - n') + n') (by omega) (by omega) ?_
  refine cj_callS (M' := mX3_isDigit) (d' := d') (k' := k') (n' := n') (index := 162) (np := 1) (As := [.int x5]) (rest := []) dX3_atom_6 lkX3_162 mwX3_isDigit hT h1 rfl rfl (Nat.le_of_ble_eq_true rfl) (fun v9 G7 q6 => ?_) hx
  replace h := h v9 G7 q6
  obtain ⟨x10, e8, h⟩ := h
  subst e8
  refine cj_nmk (fun k8 n9 e6 e7 => ?_)
  (try rw [← e6] at h); (try rw [← e7] at h)
  refine cj_st (st' := [.int x10]) rfl ?_
  refine cj_if_eq (tgt := 17) dX3_atom_9 (by decide) (fun c11 => ?_) (fun c11 => ?_)
  · replace h := h.1 c11
    refine cj_iload_n dX3_atom_17 rfl ?_
    refine cj_pc (pc' := 18) rfl ?_
    obtain ⟨d', k', n', Qr', Qx', h1, h2, h3, hT, hx, h⟩ := h
    refine cj_fewer (k' := (k8 - k') + k') (n' := (n9 - n') + n') (by omega) (by omega) ?_
    refine cj_callS (M' := mX3_isName) (d' := d') (k' := k') (n' := n') (index := 78) (np := 1) (As := [.int x5]) (rest := []) dX3_atom_18 lkX3_78 mwX3_isName hT h1 rfl rfl (Nat.le_of_ble_eq_true rfl) (fun v9 G13 q12 => ?_) hx
    replace h := h v9 G13 q12
    obtain ⟨x16, e8, h⟩ := h
    subst e8
    refine cj_nmk (fun k14 n15 e6 e7 => ?_)
    (try rw [← e6] at h); (try rw [← e7] at h)
    refine cj_st (st' := [.int x16]) rfl ?_
    refine cj_if_eq (tgt := 29) dX3_atom_21 (by decide) (fun c17 => ?_) (fun c17 => ?_)
    · replace h := h.1 c17
      refine cj_iload_n dX3_atom_29 rfl ?_
      obtain ⟨d', k', n', Qr', Qx', h1, h2, h3, hT, hx, h⟩ := h
      refine cj_fewer (k' := (k14 - k') + k') (n' := (n15 - n') + n') (by omega) (by omega) ?_
      refine cj_callS (M' := mX3_isConstructor) (d' := d') (k' := k') (n' := n') (index := 172) (np := 1) (As := [.int x5]) (rest := []) dX3_atom_30 lkX3_172 mwX3_isConstructor hT h1 rfl rfl (Nat.le_of_ble_eq_true rfl) (fun v9 G19 q18 => ?_) hx
      replace h := h v9 G19 q18
      obtain ⟨x22, e8, h⟩ := h
      subst e8
      refine cj_nmk (fun k20 n21 e6 e7 => ?_)
      (try rw [← e6] at h); (try rw [← e7] at h)
      refine cj_st (st' := [.int x22]) rfl ?_
      refine cj_pc (pc' := 33) rfl ?_
      refine cj_if_eq (tgt := 42) dX3_atom_33 (by decide) (fun c23 => ?_) (fun c23 => ?_)
      · replace h := h.1 c23
        refine cj_aload_n dX3_atom_42 rfl ?_
        refine cj_bipush (v := 40) dX3_atom_43 (by decide) ?_
        obtain ⟨⟨fs9, e9⟩, h⟩ := h
        obtain ⟨d', k', n', Qr', Qx', h1, h2, h3, hT, hx, h⟩ := h
        refine cj_fewer (k' := (k20 - k') + k') (n' := (n21 - n') + n') (by omega) (by omega) ?_
        refine cj_callV (M' := mX3_expect) (d' := d') (k' := k') (n' := n') (index := 120) (np := 1) (As := [.int 40]) (rest := []) dX3_atom_45 lkX3_120 mwX3_expect hT h1 rfl rfl (Nat.le_of_ble_eq_true rfl) e9 rfl (fun v9 G25 q24 => ?_) hx
        replace h := h v9 G25 q24
        obtain ⟨e8, h⟩ := h
        subst e8
        refine cj_nmk (fun k26 n27 e6 e7 => ?_)
        (try rw [← e6] at h); (try rw [← e7] at h)
        refine cj_st (st' := []) rfl ?_
        refine cj_pc (pc' := 48) rfl ?_
        refine cj_aload_n dX3_atom_48 rfl ?_
        refine cj_iload_n dX3_atom_49 rfl ?_
        refine cj_iconst (v := 1) dX3_atom_50 (by decide) ?_
        refine cj_iadd dX3_atom_51 ?_
        refine cj_pc (pc' := 52) rfl ?_
        obtain ⟨⟨fs9, e9⟩, h⟩ := h
        obtain ⟨d', k', n', Qr', Qx', h1, h2, h3, hT, hx, h⟩ := h
        refine cj_fewer (k' := (k26 - k') + k') (n' := (n27 - n') + n') (by omega) (by omega) ?_
        refine cj_callV (M' := mX3_expression) (d' := d') (k' := k') (n' := n') (index := 35) (np := 1) (As := [.int (a1 + 1)]) (rest := []) dX3_atom_52 lkX3_35 mwX3_expression hT h1 rfl rfl (Nat.le_of_ble_eq_true rfl) e9 rfl (fun v9 G29 q28 => ?_) hx
        replace h := h v9 G29 q28
        obtain ⟨x32, e8, h⟩ := h
        subst e8
        refine cj_nmk (fun k30 n31 e6 e7 => ?_)
        (try rw [← e6] at h); (try rw [← e7] at h)
        refine cj_st (st' := [.ref x32]) rfl ?_
        refine cj_astore_n (lv' := [(3, .ref x32), (2, .int x5), (0, .ref o), (1, .int a1)]) dX3_atom_55 (by decide) rfl ?_
        refine cj_aload_n dX3_atom_56 rfl ?_
        refine cj_bipush (v := 41) dX3_atom_57 (by decide) ?_
        refine cj_pc (pc' := 59) rfl ?_
        obtain ⟨⟨fs9, e9⟩, h⟩ := h
        obtain ⟨d', k', n', Qr', Qx', h1, h2, h3, hT, hx, h⟩ := h
        refine cj_fewer (k' := (k30 - k') + k') (n' := (n31 - n') + n') (by omega) (by omega) ?_
        refine cj_callV (M' := mX3_expect) (d' := d') (k' := k') (n' := n') (index := 120) (np := 1) (As := [.int 41]) (rest := []) dX3_atom_59 lkX3_120 mwX3_expect hT h1 rfl rfl (Nat.le_of_ble_eq_true rfl) e9 rfl (fun v9 G34 q33 => ?_) hx
        replace h := h v9 G34 q33
        obtain ⟨e8, h⟩ := h
        subst e8
        refine cj_nmk (fun k35 n36 e6 e7 => ?_)
        (try rw [← e6] at h); (try rw [← e7] at h)
        refine cj_st (st' := []) rfl ?_
        refine cj_aload_n dX3_atom_62 rfl ?_
        refine cj_aret rfl dX3_atom_63 ?_
        exact h
      · replace h := h.2 c23
        refine cj_aload_n dX3_atom_36 rfl ?_
        refine cj_pc (pc' := 37) rfl ?_
        refine cj_iload_n dX3_atom_37 rfl ?_
        obtain ⟨⟨fs9, e9⟩, h⟩ := h
        obtain ⟨d', k', n', Qr', Qx', h1, h2, h3, hT, hx, h⟩ := h
        refine cj_fewer (k' := (k20 - k') + k') (n' := (n21 - n') + n') (by omega) (by omega) ?_
        refine cj_callV (M' := mX3_construction) (d' := d') (k' := k') (n' := n') (index := 175) (np := 1) (As := [.int a1]) (rest := []) dX3_atom_38 lkX3_175 mwX3_construction hT h1 rfl rfl (Nat.le_of_ble_eq_true rfl) e9 rfl (fun v9 G38 q37 => ?_) hx
        replace h := h v9 G38 q37
        obtain ⟨x41, e8, h⟩ := h
        subst e8
        refine cj_nmk (fun k39 n40 e6 e7 => ?_)
        (try rw [← e6] at h); (try rw [← e7] at h)
        refine cj_st (st' := [.ref x41]) rfl ?_
        refine cj_aret rfl dX3_atom_41 ?_
        exact h
    · replace h := h.2 c17
      refine cj_aload_n dX3_atom_24 rfl ?_
      refine cj_pc (pc' := 25) rfl ?_
      obtain ⟨⟨fs9, e9⟩, h⟩ := h
      obtain ⟨d', k', n', Qr', Qx', h1, h2, h3, hT, hx, h⟩ := h
      refine cj_fewer (k' := (k14 - k') + k') (n' := (n15 - n') + n') (by omega) (by omega) ?_
      refine cj_callV (M' := mX3_access) (d' := d') (k' := k') (n' := n') (index := 169) (np := 0) (As := []) (rest := []) dX3_atom_25 lkX3_169 mwX3_access hT h1 rfl rfl (Nat.le_of_ble_eq_true rfl) e9 rfl (fun v9 G43 q42 => ?_) hx
      replace h := h v9 G43 q42
      obtain ⟨x46, e8, h⟩ := h
      subst e8
      refine cj_nmk (fun k44 n45 e6 e7 => ?_)
      (try rw [← e6] at h); (try rw [← e7] at h)
      refine cj_st (st' := [.ref x46]) rfl ?_
      refine cj_aret rfl dX3_atom_28 ?_
      exact h
  · replace h := h.2 c11
    refine cj_aload_n dX3_atom_12 rfl ?_
    obtain ⟨⟨fs9, e9⟩, h⟩ := h
    obtain ⟨d', k', n', Qr', Qx', h1, h2, h3, hT, hx, h⟩ := h
    refine cj_fewer (k' := (k8 - k') + k') (n' := (n9 - n') + n') (by omega) (by omega) ?_
    refine cj_callV (M' := mX3_numeral) (d' := d') (k' := k') (n' := n') (index := 165) (np := 0) (As := []) (rest := []) dX3_atom_13 lkX3_165 mwX3_numeral hT h1 rfl rfl (Nat.le_of_ble_eq_true rfl) e9 rfl (fun v9 G48 q47 => ?_) hx
    replace h := h v9 G48 q47
    obtain ⟨x51, e8, h⟩ := h
    subst e8
    refine cj_nmk (fun k49 n50 e6 e7 => ?_)
    (try rw [← e6] at h); (try rw [← e7] at h)
    refine cj_st (st' := [.ref x51]) rfl ?_
    refine cj_pc (pc' := 16) rfl ?_
    refine cj_aret rfl dX3_atom_16 ?_
    exact h
def wk_X3_application_17 (d : Nat) (v0 : Nat) (v1 : Int32) (v2 : Nat) (Qr : Option Value → cj_G → Prop) (Qx : String → cj_G → Prop) (K : Nat → Int32 → cj_G → Nat → Nat → Prop) : Nat → Nat → Int32 → cj_G → Nat → Nat → Prop
  | 0, _, _, _, _, _ => False
  | n + 1, v3, v4, G, k, n1 => sk_gi G v0 3 1 (fun x14 => ((x14 ≤ v4 → K v3 v4 G k n1) ∧ (¬ x14 ≤ v4 → (sk_V G v0 3 ∧ sk_c_i mX3_peek d k n1 [.ref v0] G Qx (fun x21 G18 k19 n20 => (sk_c_i mX3_beginsAtom d k19 n20 [.int x21] G18 Qx (fun x26 G23 k24 n25 => ((x26 = 0 → K v3 v4 G23 k24 n25) ∧ (¬ x26 = 0 → (sk_V G23 v0 3 ∧ sk_c_r mX3_atom d k24 n25 [.ref v0, .int v1] G23 Qx (fun x32 G29 k30 n31 => (sk_V G29 x32 4 ∧ sk_c_v mX4_add_ d k30 n31 [.ref x32, .int 3, .int 0] G29 Qx (fun G34 k35 n36 => (sk_V G34 x32 4 ∧ sk_c_v mX4_append d k35 n36 [.ref x32, .ref v3] G34 Qx (fun G38 k39 n40 => wk_X3_application_17 d v0 v1 v2 Qr Qx K n x32 (v4 + 1) G38 k39 n40)))))))))))))))
def wk_X3_application_73 (d : Nat) (v0 : Nat) (v1 : Int32) (v2 : Nat) (v3 : Nat) (v4 : Int32) (Qr : Option Value → cj_G → Prop) (Qx : String → cj_G → Prop) (K : Int32 → cj_G → Nat → Nat → Prop) : Nat → Int32 → cj_G → Nat → Nat → Prop
  | 0, _, _, _, _ => False
  | n + 1, v5, G, k, n1 => ((v4 ≤ v5 → K v5 G k n1) ∧ (¬ v4 ≤ v5 → (sk_V G v3 4 ∧ sk_c_v mX4_add_ d k n1 [.ref v3, .int 13, .int 0] G Qx (fun G52 k53 n54 => wk_X3_application_73 d v0 v1 v2 v3 v4 Qr Qx K n (v5 + 1) G52 k53 n54))))
def wq_X3_application (d k n1 : Nat) (o : Nat) (a1 : Int32) (G : cj_G) (Qr : Option Value → cj_G → Prop) (Qx : String → cj_G → Prop) : Prop := (sk_V G o 3 ∧ sk_c_r mX3_atom d k n1 [.ref o, .int a1] G Qx (fun x5 G2 k3 n4 => sk_new G2 k3 n4 4 2 [.null, .null] (fun q6 G7 k8 n9 => (sk_n_v mX4_init d k8 n9 [.ref q6] G7 (fun G11 k12 n13 => (∃ n9 : Nat, wk_X3_application_17 d o a1 x5 Qr Qx (fun w44 w45 G41 k42 n43 => (sk_V G41 w44 4 ∧ sk_c_v mX4_append d k42 n43 [.ref w44, .ref x5] G41 Qx (fun G47 k48 n49 => (∃ n9 : Nat, wk_X3_application_73 d o a1 x5 w44 w45 Qr Qx (fun w58 G55 k56 n57 => Qr (some (.ref w44)) G55) n9 0 G47 k48 n49)))) n9 q6 0 G11 k12 n13))))))
set_option maxHeartbeats 4000000 in
set_option maxRecDepth 100000 in
theorem wk_X3_application_17_ok {d k0 n0 : Nat} (hd9 : 6 ≤ d) (v0 : Nat) (v1 : Int32) (v2 : Nat) {Qr : Option Value → cj_G → Prop} {Qx : String → cj_G → Prop} {K : Nat → Int32 → cj_G → Nat → Nat → Prop} (hK : ∀ (v3 : Nat) (v4 : Int32) (G : cj_G) (k n1 : Nat), K v3 v4 G k n1 → cj_J mX3_application d k0 n0 Qr Qx k n1 65 [(0, .ref v0), (1, .int v1), (2, .ref v2), (3, .ref v3), (4, .int v4)] [] G) : ∀ (n : Nat) (v3 : Nat) (v4 : Int32) (G : cj_G) (k n1 : Nat), wk_X3_application_17 d v0 v1 v2 Qr Qx K n v3 v4 G k n1 → cj_J mX3_application d k0 n0 Qr Qx k n1 17 [(0, .ref v0), (1, .int v1), (2, .ref v2), (3, .ref v3), (4, .int v4)] [] G := by
  intro n
  induction n with
  | zero => intro v3 v4 G k n1 h; exact absurd h id
  | succ n ih =>
    intro v3 v4 G k n1 h
    unfold wk_X3_application_17 at h
    refine cj_iload dX3_application_17 rfl ?_
    refine cj_pc (pc' := 19) rfl ?_
    refine cj_aload_n dX3_application_19 rfl ?_
    obtain ⟨fs9, x14, g15, e9, h⟩ := h
    refine cj_get flX3_15 dX3_application_20 g15 e9 ?_
    refine cj_icmp_ge (tgt := 65) dX3_application_23 (by decide) (fun c16 => ?_) (fun c16 => ?_)
    · replace h := h.1 c16
      refine cj_sub (lv' := [(0, .ref v0), (1, .int v1), (2, .ref v2), (3, .ref v3), (4, .int v4)]) (by simp) ?_
      exact hK _ _ _ _ _ h
    · replace h := h.2 c16
      refine cj_aload_n dX3_application_26 rfl ?_
      refine cj_pc (pc' := 27) rfl ?_
      obtain ⟨⟨fs9, e9⟩, h⟩ := h
      obtain ⟨d', k', n', Qr', Qx', h1, h2, h3, hT, hx, h⟩ := h
      refine cj_fewer (k' := (k - k') + k') (n' := (n1 - n') + n') (by omega) (by omega) ?_
      refine cj_callV (M' := mX3_peek) (d' := d') (k' := k') (n' := n') (index := 64) (np := 0) (As := []) (rest := []) dX3_application_27 lkX3_64 mwX3_peek hT h1 rfl rfl (Nat.le_of_ble_eq_true rfl) e9 rfl (fun v9 G18 q17 => ?_) hx
      replace h := h v9 G18 q17
      obtain ⟨x21, e8, h⟩ := h
      subst e8
      refine cj_nmk (fun k19 n20 e6 e7 => ?_)
      (try rw [← e6] at h); (try rw [← e7] at h)
      refine cj_st (st' := [.int x21]) rfl ?_
      obtain ⟨d', k', n', Qr', Qx', h1, h2, h3, hT, hx, h⟩ := h
      refine cj_fewer (k' := (k19 - k') + k') (n' := (n20 - n') + n') (by omega) (by omega) ?_
      refine cj_callS (M' := mX3_beginsAtom) (d' := d') (k' := k') (n' := n') (index := 159) (np := 1) (As := [.int x21]) (rest := []) dX3_application_30 lkX3_159 mwX3_beginsAtom hT h1 rfl rfl (Nat.le_of_ble_eq_true rfl) (fun v9 G23 q22 => ?_) hx
      replace h := h v9 G23 q22
      obtain ⟨x26, e8, h⟩ := h
      subst e8
      refine cj_nmk (fun k24 n25 e6 e7 => ?_)
      (try rw [← e6] at h); (try rw [← e7] at h)
      refine cj_st (st' := [.int x26]) rfl ?_
      refine cj_if_eq (tgt := 65) dX3_application_33 (by decide) (fun c27 => ?_) (fun c27 => ?_)
      · replace h := h.1 c27
        refine cj_sub (lv' := [(0, .ref v0), (1, .int v1), (2, .ref v2), (3, .ref v3), (4, .int v4)]) (by simp) ?_
        exact hK _ _ _ _ _ h
      · replace h := h.2 c27
        refine cj_aload_n dX3_application_36 rfl ?_
        refine cj_pc (pc' := 37) rfl ?_
        refine cj_iload_n dX3_application_37 rfl ?_
        obtain ⟨⟨fs9, e9⟩, h⟩ := h
        obtain ⟨d', k', n', Qr', Qx', h1, h2, h3, hT, hx, h⟩ := h
        refine cj_fewer (k' := (k24 - k') + k') (n' := (n25 - n') + n') (by omega) (by omega) ?_
        refine cj_callV (M' := mX3_atom) (d' := d') (k' := k') (n' := n') (index := 156) (np := 1) (As := [.int v1]) (rest := []) dX3_application_38 lkX3_156 mwX3_atom hT h1 rfl rfl (Nat.le_of_ble_eq_true rfl) e9 rfl (fun v9 G29 q28 => ?_) hx
        replace h := h v9 G29 q28
        obtain ⟨x32, e8, h⟩ := h
        subst e8
        refine cj_nmk (fun k30 n31 e6 e7 => ?_)
        (try rw [← e6] at h); (try rw [← e7] at h)
        refine cj_st (st' := [.ref x32]) rfl ?_
        refine cj_astore (lv' := [(5, .ref x32), (0, .ref v0), (1, .int v1), (2, .ref v2), (3, .ref v3), (4, .int v4)]) dX3_application_41 (by decide) rfl ?_
        refine cj_aload dX3_application_43 rfl ?_
        refine cj_pc (pc' := 45) rfl ?_
        refine cj_iconst (v := 3) dX3_application_45 (by decide) ?_
        refine cj_iconst (v := 0) dX3_application_46 (by decide) ?_
        obtain ⟨⟨fs9, e9⟩, h⟩ := h
        obtain ⟨d', k', n', Qr', Qx', h1, h2, h3, hT, hx, h⟩ := h
        refine cj_fewer (k' := (k30 - k') + k') (n' := (n31 - n') + n') (by omega) (by omega) ?_
        refine cj_callV (M' := mX4_add_) (d' := d') (k' := k') (n' := n') (index := 42) (np := 2) (As := [.int 3, .int 0]) (rest := []) dX3_application_47 lkX3_42 mwX4_add_ hT h1 rfl rfl (Nat.le_of_ble_eq_true rfl) e9 rfl (fun v9 G34 q33 => ?_) hx
        replace h := h v9 G34 q33
        obtain ⟨e8, h⟩ := h
        subst e8
        refine cj_nmk (fun k35 n36 e6 e7 => ?_)
        (try rw [← e6] at h); (try rw [← e7] at h)
        refine cj_st (st' := []) rfl ?_
        refine cj_aload dX3_application_50 rfl ?_
        refine cj_pc (pc' := 52) rfl ?_
        refine cj_aload_n dX3_application_52 rfl ?_
        obtain ⟨⟨fs9, e9⟩, h⟩ := h
        obtain ⟨d', k', n', Qr', Qx', h1, h2, h3, hT, hx, h⟩ := h
        refine cj_fewer (k' := (k35 - k') + k') (n' := (n36 - n') + n') (by omega) (by omega) ?_
        refine cj_callV (M' := mX4_append) (d' := d') (k' := k') (n' := n') (index := 74) (np := 1) (As := [.ref v3]) (rest := []) dX3_application_53 lkX3_74 mwX4_append hT h1 rfl rfl (Nat.le_of_ble_eq_true rfl) e9 rfl (fun v9 G38 q37 => ?_) hx
        replace h := h v9 G38 q37
        obtain ⟨e8, h⟩ := h
        subst e8
        refine cj_nmk (fun k39 n40 e6 e7 => ?_)
        (try rw [← e6] at h); (try rw [← e7] at h)
        refine cj_st (st' := []) rfl ?_
        refine cj_aload dX3_application_56 rfl ?_
        refine cj_astore_n (lv' := [(3, .ref x32), (5, .ref x32), (0, .ref v0), (1, .int v1), (2, .ref v2), (4, .int v4)]) dX3_application_58 (by decide) rfl ?_
        refine cj_pc (pc' := 59) rfl ?_
        refine cj_iinc (v := v4 + 1) (lv' := [(4, .int (v4 + 1)), (3, .ref x32), (5, .ref x32), (0, .ref v0), (1, .int v1), (2, .ref v2)]) dX3_application_59 rfl rfl (by decide) rfl ?_
        refine cj_goto (tgt := 17) dX3_application_62 (by decide) ?_
        refine cj_sub (lv' := [(0, .ref v0), (1, .int v1), (2, .ref v2), (3, .ref x32), (4, .int (v4 + 1))]) (by simp) ?_
        exact ih _ _ _ _ _ h
set_option maxHeartbeats 4000000 in
set_option maxRecDepth 100000 in
theorem wk_X3_application_73_ok {d k0 n0 : Nat} (hd9 : 6 ≤ d) (v0 : Nat) (v1 : Int32) (v2 : Nat) (v3 : Nat) (v4 : Int32) {Qr : Option Value → cj_G → Prop} {Qx : String → cj_G → Prop} {K : Int32 → cj_G → Nat → Nat → Prop} (hK : ∀ (v5 : Int32) (G : cj_G) (k n1 : Nat), K v5 G k n1 → cj_J mX3_application d k0 n0 Qr Qx k n1 93 [(0, .ref v0), (1, .int v1), (2, .ref v2), (3, .ref v3), (4, .int v4), (5, .int v5)] [] G) : ∀ (n : Nat) (v5 : Int32) (G : cj_G) (k n1 : Nat), wk_X3_application_73 d v0 v1 v2 v3 v4 Qr Qx K n v5 G k n1 → cj_J mX3_application d k0 n0 Qr Qx k n1 73 [(0, .ref v0), (1, .int v1), (2, .ref v2), (3, .ref v3), (4, .int v4), (5, .int v5)] [] G := by
  intro n
  induction n with
  | zero => intro v5 G k n1 h; exact absurd h id
  | succ n ih =>
    intro v5 G k n1 h
    unfold wk_X3_application_73 at h
    refine cj_iload dX3_application_73 rfl ?_
    refine cj_pc (pc' := 75) rfl ?_
    refine cj_iload dX3_application_75 rfl ?_
    refine cj_icmp_ge (tgt := 93) dX3_application_77 (by decide) (fun c50 => ?_) (fun c50 => ?_)
    · replace h := h.1 c50
      refine cj_sub (lv' := [(0, .ref v0), (1, .int v1), (2, .ref v2), (3, .ref v3), (4, .int v4), (5, .int v5)]) (by simp) ?_
      exact hK _ _ _ _ h
    · replace h := h.2 c50
      refine cj_aload_n dX3_application_80 rfl ?_
      refine cj_bipush (v := 13) dX3_application_81 (by decide) ?_
      refine cj_pc (pc' := 83) rfl ?_
      refine cj_iconst (v := 0) dX3_application_83 (by decide) ?_
      obtain ⟨⟨fs9, e9⟩, h⟩ := h
      obtain ⟨d', k', n', Qr', Qx', h1, h2, h3, hT, hx, h⟩ := h
      refine cj_fewer (k' := (k - k') + k') (n' := (n1 - n') + n') (by omega) (by omega) ?_
      refine cj_callV (M' := mX4_add_) (d' := d') (k' := k') (n' := n') (index := 42) (np := 2) (As := [.int 13, .int 0]) (rest := []) dX3_application_84 lkX3_42 mwX4_add_ hT h1 rfl rfl (Nat.le_of_ble_eq_true rfl) e9 rfl (fun v9 G52 q51 => ?_) hx
      replace h := h v9 G52 q51
      obtain ⟨e8, h⟩ := h
      subst e8
      refine cj_nmk (fun k53 n54 e6 e7 => ?_)
      (try rw [← e6] at h); (try rw [← e7] at h)
      refine cj_st (st' := []) rfl ?_
      refine cj_iinc (v := v5 + 1) (lv' := [(5, .int (v5 + 1)), (0, .ref v0), (1, .int v1), (2, .ref v2), (3, .ref v3), (4, .int v4)]) dX3_application_87 rfl rfl (by decide) rfl ?_
      refine cj_goto (tgt := 73) dX3_application_90 (by decide) ?_
      refine cj_sub (lv' := [(0, .ref v0), (1, .int v1), (2, .ref v2), (3, .ref v3), (4, .int v4), (5, .int (v5 + 1))]) (by simp) ?_
      exact ih _ _ _ _ h
set_option maxHeartbeats 4000000 in
set_option maxRecDepth 100000 in
theorem tq_X3_application {d k n1 : Nat} (hd9 : 6 ≤ d) {o : Nat} {a1 : Int32} {G : cj_G} {Qr : Option Value → cj_G → Prop} {Qx : String → cj_G → Prop} (h : wq_X3_application d k n1 o a1 G Qr Qx) : cj_T mX3_application d k n1 [.ref o, .int a1] G Qr Qx := by
  refine cj_T_of (by decide +kernel) (Nat.le_of_ble_eq_true rfl) ?_
  refine cj_lvs (lv' := [(0, .ref o), (1, .int a1)]) rfl ?_
  unfold wq_X3_application at h
  refine cj_aload_n dX3_application_0 rfl ?_
  refine cj_iload_n dX3_application_1 rfl ?_
  obtain ⟨⟨fs9, e9⟩, h⟩ := h
  obtain ⟨d', k', n', Qr', Qx', h1, h2, h3, hT, hx, h⟩ := h
  refine cj_fewer (k' := (k - k') + k') (n' := (n1 - n') + n') (by omega) (by omega) ?_
  refine cj_callV (M' := mX3_atom) (d' := d') (k' := k') (n' := n') (index := 156) (np := 1) (As := [.int a1]) (rest := []) dX3_application_2 lkX3_156 mwX3_atom hT h1 rfl rfl (Nat.le_of_ble_eq_true rfl) e9 rfl (fun v9 G2 q1 => ?_) hx
  replace h := h v9 G2 q1
  obtain ⟨x5, e8, h⟩ := h
  subst e8
  refine cj_nmk (fun k3 n4 e6 e7 => ?_)
  (try rw [← e6] at h); (try rw [← e7] at h)
  refine cj_st (st' := [.ref x5]) rfl ?_
  refine cj_pc (pc' := 5) rfl ?_
  refine cj_astore_n (lv' := [(2, .ref x5), (0, .ref o), (1, .int a1)]) dX3_application_5 (by decide) rfl ?_
  obtain ⟨h1, h2, h⟩ := h
  refine cj_fewer (k' := (k3 - 1) + 1) (n' := (n4 - 2) + 2) (by omega) (by omega) ?_
  refine cj_new (ci := 4) (fs := [.null, .null]) rfl uw_X4 tyX4_ok klX3_43.1 klX3_43.2.1 klX3_43.2.2 (by intro j hj; rcases (show j = 0 ∨ j = 1 by omega) with rfl | rfl <;> rfl) dX3_application_6 (fun q6 z9 => ?_)
  replace h := h q6 z9
  refine cj_nm (fun G7 e7 => ?_)
  (try rw [← e7] at h)
  clear e7
  refine cj_nmk (fun k8 n9 e6 e7 => ?_)
  (try rw [← e6] at h); (try rw [← e7] at h)
  refine cj_dup dX3_application_9 rfl ?_
  obtain ⟨d', k', n', Qr', h1, h2, h3, hT, h⟩ := h
  refine cj_fewer (k' := (k8 - k') + k') (n' := (n9 - n') + n') (by omega) (by omega) ?_
  refine cj_callIN (M' := mX4_init) (d' := d') (k' := k') (n' := n') (index := 55) (np := 0) (As := []) (rest := [.ref q6]) dX3_application_10 lkX3_55 mwX4_init hT h1 rfl rfl (Nat.le_of_ble_eq_true rfl) (fun v9 G11 q10 => ?_)
  replace h := h v9 G11 q10
  obtain ⟨e8, h⟩ := h
  subst e8
  refine cj_nmk (fun k12 n13 e6 e7 => ?_)
  (try rw [← e6] at h); (try rw [← e7] at h)
  refine cj_st (st' := [.ref q6]) rfl ?_
  refine cj_pc (pc' := 13) rfl ?_
  refine cj_astore_n (lv' := [(3, .ref q6), (2, .ref x5), (0, .ref o), (1, .int a1)]) dX3_application_13 (by decide) rfl ?_
  refine cj_iconst (v := 0) dX3_application_14 (by decide) ?_
  refine cj_istore (lv' := [(4, .int 0), (3, .ref q6), (2, .ref x5), (0, .ref o), (1, .int a1)]) dX3_application_15 (by decide) rfl ?_
  obtain ⟨n9, h⟩ := h
  refine cj_sub (lv' := [(0, .ref o), (1, .int a1), (2, .ref x5), (3, .ref q6), (4, .int 0)]) (by simp) ?_
  refine wk_X3_application_17_ok hd9 _ _ _ ?_ n9 _ _ _ _ _ h
  clear h
  intro w44 w45 G41 k42 n43 h
  refine cj_aload_n dX3_application_65 rfl ?_
  refine cj_aload_n dX3_application_66 rfl ?_
  refine cj_pc (pc' := 67) rfl ?_
  obtain ⟨⟨fs9, e9⟩, h⟩ := h
  obtain ⟨d', k', n', Qr', Qx', h1, h2, h3, hT, hx, h⟩ := h
  refine cj_fewer (k' := (k42 - k') + k') (n' := (n43 - n') + n') (by omega) (by omega) ?_
  refine cj_callV (M' := mX4_append) (d' := d') (k' := k') (n' := n') (index := 74) (np := 1) (As := [.ref x5]) (rest := []) dX3_application_67 lkX3_74 mwX4_append hT h1 rfl rfl (Nat.le_of_ble_eq_true rfl) e9 rfl (fun v9 G47 q46 => ?_) hx
  replace h := h v9 G47 q46
  obtain ⟨e8, h⟩ := h
  subst e8
  refine cj_nmk (fun k48 n49 e6 e7 => ?_)
  (try rw [← e6] at h); (try rw [← e7] at h)
  refine cj_st (st' := []) rfl ?_
  refine cj_iconst (v := 0) dX3_application_70 (by decide) ?_
  refine cj_istore (lv' := [(5, .int 0), (0, .ref o), (1, .int a1), (2, .ref x5), (3, .ref w44), (4, .int w45)]) dX3_application_71 (by decide) rfl ?_
  obtain ⟨n9, h⟩ := h
  refine cj_sub (lv' := [(0, .ref o), (1, .int a1), (2, .ref x5), (3, .ref w44), (4, .int w45), (5, .int 0)]) (by simp) ?_
  refine wk_X3_application_73_ok hd9 _ _ _ _ _ ?_ n9 _ _ _ _ h
  clear h
  intro w58 G55 k56 n57 h
  refine cj_aload_n dX3_application_93 rfl ?_
  refine cj_pc (pc' := 94) rfl ?_
  refine cj_aret rfl dX3_application_94 ?_
  exact h
def wk_X3_product_6 (d : Nat) (v0 : Nat) (v1 : Int32) (v2 : Nat) (Qr : Option Value → cj_G → Prop) (Qx : String → cj_G → Prop) (K : cj_G → Nat → Nat → Prop) : Nat → cj_G → Nat → Nat → Prop
  | 0, _, _, _ => False
  | n + 1, G, k, n1 => sk_gi G v0 3 2 (fun x6 => sk_gi G v0 3 1 (fun x8 => ((x8 ≤ x6 → K G k n1) ∧ (¬ x8 ≤ x6 → (sk_V G v0 3 ∧ sk_c_i mX3_peek d k n1 [.ref v0] G Qx (fun x15 G12 k13 n14 => ((¬ x15 = 42 → K G12 k13 n14) ∧ (x15 = 42 → sk_gi G12 v0 3 2 (fun x17 => sk_pt G12 v0 3 2 (.int (x17 + 1)) (fun G19 => (sk_V G19 v0 3 ∧ sk_c_r mX3_application d k13 n14 [.ref v0, .int v1] G19 Qx (fun x24 G21 k22 n23 => (sk_V G21 v2 4 ∧ sk_c_v mX4_operate d k22 n23 [.ref v2, .int 6, .ref x24] G21 Qx (fun G26 k27 n28 => wk_X3_product_6 d v0 v1 v2 Qr Qx K n G26 k27 n28))))))))))))))
def wq_X3_product (d k n1 : Nat) (o : Nat) (a1 : Int32) (G : cj_G) (Qr : Option Value → cj_G → Prop) (Qx : String → cj_G → Prop) : Prop := (sk_V G o 3 ∧ sk_c_r mX3_application d k n1 [.ref o, .int a1] G Qx (fun x5 G2 k3 n4 => (∃ n9 : Nat, wk_X3_product_6 d o a1 x5 Qr Qx (fun G29 k30 n31 => Qr (some (.ref x5)) G29) n9 G2 k3 n4)))
set_option maxHeartbeats 4000000 in
set_option maxRecDepth 100000 in
theorem wk_X3_product_6_ok {d k0 n0 : Nat} (hd9 : 6 ≤ d) (v0 : Nat) (v1 : Int32) (v2 : Nat) {Qr : Option Value → cj_G → Prop} {Qx : String → cj_G → Prop} {K : cj_G → Nat → Nat → Prop} (hK : ∀ (G : cj_G) (k n1 : Nat), K G k n1 → cj_J mX3_product d k0 n0 Qr Qx k n1 50 [(0, .ref v0), (1, .int v1), (2, .ref v2)] [] G) : ∀ (n : Nat) (G : cj_G) (k n1 : Nat), wk_X3_product_6 d v0 v1 v2 Qr Qx K n G k n1 → cj_J mX3_product d k0 n0 Qr Qx k n1 6 [(0, .ref v0), (1, .int v1), (2, .ref v2)] [] G := by
  intro n
  induction n with
  | zero => intro G k n1 h; exact absurd h id
  | succ n ih =>
    intro G k n1 h
    unfold wk_X3_product_6 at h
    refine cj_aload_n dX3_product_6 rfl ?_
    obtain ⟨fs9, x6, g7, e9, h⟩ := h
    refine cj_get flX3_19 dX3_product_7 g7 e9 ?_
    refine cj_aload_n dX3_product_10 rfl ?_
    refine cj_pc (pc' := 11) rfl ?_
    obtain ⟨fs9, x8, g9, e9, h⟩ := h
    refine cj_get flX3_15 dX3_product_11 g9 e9 ?_
    refine cj_icmp_ge (tgt := 50) dX3_product_14 (by decide) (fun c10 => ?_) (fun c10 => ?_)
    · replace h := h.1 c10
      refine cj_sub (lv' := [(0, .ref v0), (1, .int v1), (2, .ref v2)]) (by simp) ?_
      exact hK _ _ _ h
    · replace h := h.2 c10
      refine cj_aload_n dX3_product_17 rfl ?_
      obtain ⟨⟨fs9, e9⟩, h⟩ := h
      obtain ⟨d', k', n', Qr', Qx', h1, h2, h3, hT, hx, h⟩ := h
      refine cj_fewer (k' := (k - k') + k') (n' := (n1 - n') + n') (by omega) (by omega) ?_
      refine cj_callV (M' := mX3_peek) (d' := d') (k' := k') (n' := n') (index := 64) (np := 0) (As := []) (rest := []) dX3_product_18 lkX3_64 mwX3_peek hT h1 rfl rfl (Nat.le_of_ble_eq_true rfl) e9 rfl (fun v9 G12 q11 => ?_) hx
      replace h := h v9 G12 q11
      obtain ⟨x15, e8, h⟩ := h
      subst e8
      refine cj_nmk (fun k13 n14 e6 e7 => ?_)
      (try rw [← e6] at h); (try rw [← e7] at h)
      refine cj_st (st' := [.int x15]) rfl ?_
      refine cj_pc (pc' := 21) rfl ?_
      refine cj_bipush (v := 42) dX3_product_21 (by decide) ?_
      refine cj_icmp_ne (tgt := 50) dX3_product_23 (by decide) (fun c16 => ?_) (fun c16 => ?_)
      · replace h := h.1 c16
        refine cj_sub (lv' := [(0, .ref v0), (1, .int v1), (2, .ref v2)]) (by simp) ?_
        exact hK _ _ _ h
      · replace h := h.2 c16
        refine cj_aload_n dX3_product_26 rfl ?_
        refine cj_dup dX3_product_27 rfl ?_
        refine cj_pc (pc' := 28) rfl ?_
        obtain ⟨fs9, x17, g18, e9, h⟩ := h
        refine cj_get flX3_19 dX3_product_28 g18 e9 ?_
        refine cj_iconst (v := 1) dX3_product_31 (by decide) ?_
        refine cj_iadd dX3_product_32 ?_
        obtain ⟨fs9, e8, e9, h⟩ := h
        refine cj_put flX3_19 dX3_product_33 e8 rfl rfl e9 ?_
        refine cj_nm (fun G19 e7 => ?_)
        rw [← e7] at h
        clear e7
        refine cj_pc (pc' := 36) rfl ?_
        refine cj_aload_n dX3_product_36 rfl ?_
        refine cj_bipush (v := 6) dX3_product_37 (by decide) ?_
        refine cj_aload_n dX3_product_39 rfl ?_
        refine cj_iload_n dX3_product_40 rfl ?_
        refine cj_pc (pc' := 41) rfl ?_
        obtain ⟨⟨fs9, e9⟩, h⟩ := h
        obtain ⟨d', k', n', Qr', Qx', h1, h2, h3, hT, hx, h⟩ := h
        refine cj_fewer (k' := (k13 - k') + k') (n' := (n14 - n') + n') (by omega) (by omega) ?_
        refine cj_callV (M' := mX3_application) (d' := d') (k' := k') (n' := n') (index := 153) (np := 1) (As := [.int v1]) (rest := [.int 6, .ref v2]) dX3_product_41 lkX3_153 mwX3_application hT h1 rfl rfl (Nat.le_of_ble_eq_true rfl) e9 rfl (fun v9 G21 q20 => ?_) hx
        replace h := h v9 G21 q20
        obtain ⟨x24, e8, h⟩ := h
        subst e8
        refine cj_nmk (fun k22 n23 e6 e7 => ?_)
        (try rw [← e6] at h); (try rw [← e7] at h)
        refine cj_st (st' := [.ref x24, .int 6, .ref v2]) rfl ?_
        obtain ⟨⟨fs9, e9⟩, h⟩ := h
        obtain ⟨d', k', n', Qr', Qx', h1, h2, h3, hT, hx, h⟩ := h
        refine cj_fewer (k' := (k22 - k') + k') (n' := (n23 - n') + n') (by omega) (by omega) ?_
        refine cj_callV (M' := mX4_operate) (d' := d') (k' := k') (n' := n') (index := 146) (np := 2) (As := [.int 6, .ref x24]) (rest := []) dX3_product_44 lkX3_146 mwX4_operate hT h1 rfl rfl (Nat.le_of_ble_eq_true rfl) e9 rfl (fun v9 G26 q25 => ?_) hx
        replace h := h v9 G26 q25
        obtain ⟨e8, h⟩ := h
        subst e8
        refine cj_nmk (fun k27 n28 e6 e7 => ?_)
        (try rw [← e6] at h); (try rw [← e7] at h)
        refine cj_st (st' := []) rfl ?_
        refine cj_goto (tgt := 6) dX3_product_47 (by decide) ?_
        refine cj_sub (lv' := [(0, .ref v0), (1, .int v1), (2, .ref v2)]) (by simp) ?_
        exact ih _ _ _ h
set_option maxHeartbeats 4000000 in
set_option maxRecDepth 100000 in
theorem tq_X3_product {d k n1 : Nat} (hd9 : 6 ≤ d) {o : Nat} {a1 : Int32} {G : cj_G} {Qr : Option Value → cj_G → Prop} {Qx : String → cj_G → Prop} (h : wq_X3_product d k n1 o a1 G Qr Qx) : cj_T mX3_product d k n1 [.ref o, .int a1] G Qr Qx := by
  refine cj_T_of (by decide +kernel) (Nat.le_of_ble_eq_true rfl) ?_
  refine cj_lvs (lv' := [(0, .ref o), (1, .int a1)]) rfl ?_
  unfold wq_X3_product at h
  refine cj_aload_n dX3_product_0 rfl ?_
  refine cj_iload_n dX3_product_1 rfl ?_
  obtain ⟨⟨fs9, e9⟩, h⟩ := h
  obtain ⟨d', k', n', Qr', Qx', h1, h2, h3, hT, hx, h⟩ := h
  refine cj_fewer (k' := (k - k') + k') (n' := (n1 - n') + n') (by omega) (by omega) ?_
  refine cj_callV (M' := mX3_application) (d' := d') (k' := k') (n' := n') (index := 153) (np := 1) (As := [.int a1]) (rest := []) dX3_product_2 lkX3_153 mwX3_application hT h1 rfl rfl (Nat.le_of_ble_eq_true rfl) e9 rfl (fun v9 G2 q1 => ?_) hx
  replace h := h v9 G2 q1
  obtain ⟨x5, e8, h⟩ := h
  subst e8
  refine cj_nmk (fun k3 n4 e6 e7 => ?_)
  (try rw [← e6] at h); (try rw [← e7] at h)
  refine cj_st (st' := [.ref x5]) rfl ?_
  refine cj_pc (pc' := 5) rfl ?_
  refine cj_astore_n (lv' := [(2, .ref x5), (0, .ref o), (1, .int a1)]) dX3_product_5 (by decide) rfl ?_
  obtain ⟨n9, h⟩ := h
  refine cj_sub (lv' := [(0, .ref o), (1, .int a1), (2, .ref x5)]) (by simp) ?_
  refine wk_X3_product_6_ok hd9 _ _ _ ?_ n9 _ _ _ h
  clear h
  intro G29 k30 n31 h
  refine cj_aload_n dX3_product_50 rfl ?_
  refine cj_pc (pc' := 51) rfl ?_
  refine cj_aret rfl dX3_product_51 ?_
  exact h
def wk_X3_sum_6 (d : Nat) (v0 : Nat) (v1 : Int32) (v2 : Nat) (Qr : Option Value → cj_G → Prop) (Qx : String → cj_G → Prop) (K : cj_G → Nat → Nat → Prop) : Nat → cj_G → Nat → Nat → Prop
  | 0, _, _, _ => False
  | n + 1, G, k, n1 => sk_gi G v0 3 2 (fun x6 => sk_gi G v0 3 1 (fun x8 => ((x8 ≤ x6 → K G k n1) ∧ (¬ x8 ≤ x6 → (sk_V G v0 3 ∧ sk_c_i mX3_peek d k n1 [.ref v0] G Qx (fun x15 G12 k13 n14 => ((x15 = 43 → (sk_V G12 v0 3 ∧ sk_c_i mX3_peek d k13 n14 [.ref v0] G12 Qx (fun x21 G18 k19 n20 => ((¬ x21 = 43 → sk_gi G18 v0 3 2 (fun x23 => sk_pt G18 v0 3 2 (.int (x23 + 1)) (fun G25 => (sk_V G25 v0 3 ∧ sk_c_r mX3_product d k19 n20 [.ref v0, .int v1] G25 Qx (fun x30 G27 k28 n29 => (sk_V G27 v2 4 ∧ sk_c_v mX4_operate d k28 n29 [.ref v2, .int 5, .ref x30] G27 Qx (fun G32 k33 n34 => wk_X3_sum_6 d v0 v1 v2 Qr Qx K n G32 k33 n34))))))) ∧ (x21 = 43 → sk_gi G18 v0 3 2 (fun x35 => sk_pt G18 v0 3 2 (.int (x35 + 1)) (fun G37 => (sk_V G37 v0 3 ∧ sk_c_r mX3_product d k19 n20 [.ref v0, .int v1] G37 Qx (fun x42 G39 k40 n41 => (sk_V G39 v2 4 ∧ sk_c_v mX4_operate d k40 n41 [.ref v2, .int 4, .ref x42] G39 Qx (fun G44 k45 n46 => wk_X3_sum_6 d v0 v1 v2 Qr Qx K n G44 k45 n46))))))))))) ∧ (¬ x15 = 43 → (sk_V G12 v0 3 ∧ sk_c_i mX3_peek d k13 n14 [.ref v0] G12 Qx (fun x51 G48 k49 n50 => ((¬ x51 = 45 → K G48 k49 n50) ∧ (x51 = 45 → (sk_V G48 v0 3 ∧ sk_c_i mX3_peek d k49 n50 [.ref v0] G48 Qx (fun x57 G54 k55 n56 => ((¬ x57 = 43 → sk_gi G54 v0 3 2 (fun x59 => sk_pt G54 v0 3 2 (.int (x59 + 1)) (fun G61 => (sk_V G61 v0 3 ∧ sk_c_r mX3_product d k55 n56 [.ref v0, .int v1] G61 Qx (fun x66 G63 k64 n65 => (sk_V G63 v2 4 ∧ sk_c_v mX4_operate d k64 n65 [.ref v2, .int 5, .ref x66] G63 Qx (fun G68 k69 n70 => wk_X3_sum_6 d v0 v1 v2 Qr Qx K n G68 k69 n70))))))) ∧ (x57 = 43 → sk_gi G54 v0 3 2 (fun x71 => sk_pt G54 v0 3 2 (.int (x71 + 1)) (fun G73 => (sk_V G73 v0 3 ∧ sk_c_r mX3_product d k55 n56 [.ref v0, .int v1] G73 Qx (fun x78 G75 k76 n77 => (sk_V G75 v2 4 ∧ sk_c_v mX4_operate d k76 n77 [.ref v2, .int 4, .ref x78] G75 Qx (fun G80 k81 n82 => wk_X3_sum_6 d v0 v1 v2 Qr Qx K n G80 k81 n82))))))))))))))))))))))
def wq_X3_sum (d k n1 : Nat) (o : Nat) (a1 : Int32) (G : cj_G) (Qr : Option Value → cj_G → Prop) (Qx : String → cj_G → Prop) : Prop := (sk_V G o 3 ∧ sk_c_r mX3_product d k n1 [.ref o, .int a1] G Qx (fun x5 G2 k3 n4 => (∃ n9 : Nat, wk_X3_sum_6 d o a1 x5 Qr Qx (fun G83 k84 n85 => Qr (some (.ref x5)) G83) n9 G2 k3 n4)))
set_option maxHeartbeats 4000000 in
set_option maxRecDepth 100000 in
theorem wk_X3_sum_6_ok {d k0 n0 : Nat} (hd9 : 6 ≤ d) (v0 : Nat) (v1 : Int32) (v2 : Nat) {Qr : Option Value → cj_G → Prop} {Qx : String → cj_G → Prop} {K : cj_G → Nat → Nat → Prop} (hK : ∀ (G : cj_G) (k n1 : Nat), K G k n1 → cj_J mX3_sum d k0 n0 Qr Qx k n1 73 [(0, .ref v0), (1, .int v1), (2, .ref v2)] [] G) : ∀ (n : Nat) (G : cj_G) (k n1 : Nat), wk_X3_sum_6 d v0 v1 v2 Qr Qx K n G k n1 → cj_J mX3_sum d k0 n0 Qr Qx k n1 6 [(0, .ref v0), (1, .int v1), (2, .ref v2)] [] G := by
  intro n
  induction n with
  | zero => intro G k n1 h; exact absurd h id
  | succ n ih =>
    intro G k n1 h
    unfold wk_X3_sum_6 at h
    refine cj_aload_n dX3_sum_6 rfl ?_
    obtain ⟨fs9, x6, g7, e9, h⟩ := h
    refine cj_get flX3_19 dX3_sum_7 g7 e9 ?_
    refine cj_aload_n dX3_sum_10 rfl ?_
    refine cj_pc (pc' := 11) rfl ?_
    obtain ⟨fs9, x8, g9, e9, h⟩ := h
    refine cj_get flX3_15 dX3_sum_11 g9 e9 ?_
    refine cj_icmp_ge (tgt := 73) dX3_sum_14 (by decide) (fun c10 => ?_) (fun c10 => ?_)
    · replace h := h.1 c10
      refine cj_sub (lv' := [(0, .ref v0), (1, .int v1), (2, .ref v2)]) (by simp) ?_
      exact hK _ _ _ h
    · replace h := h.2 c10
      refine cj_aload_n dX3_sum_17 rfl ?_
      obtain ⟨⟨fs9, e9⟩, h⟩ := h
      obtain ⟨d', k', n', Qr', Qx', h1, h2, h3, hT, hx, h⟩ := h
      refine cj_fewer (k' := (k - k') + k') (n' := (n1 - n') + n') (by omega) (by omega) ?_
      refine cj_callV (M' := mX3_peek) (d' := d') (k' := k') (n' := n') (index := 64) (np := 0) (As := []) (rest := []) dX3_sum_18 lkX3_64 mwX3_peek hT h1 rfl rfl (Nat.le_of_ble_eq_true rfl) e9 rfl (fun v9 G12 q11 => ?_) hx
      replace h := h v9 G12 q11
      obtain ⟨x15, e8, h⟩ := h
      subst e8
      refine cj_nmk (fun k13 n14 e6 e7 => ?_)
      (try rw [← e6] at h); (try rw [← e7] at h)
      refine cj_st (st' := [.int x15]) rfl ?_
      refine cj_pc (pc' := 21) rfl ?_
      refine cj_bipush (v := 43) dX3_sum_21 (by decide) ?_
      refine cj_icmp_eq (tgt := 35) dX3_sum_23 (by decide) (fun c16 => ?_) (fun c16 => ?_)
      · replace h := h.1 c16
        refine cj_aload_n dX3_sum_35 rfl ?_
        obtain ⟨⟨fs9, e9⟩, h⟩ := h
        obtain ⟨d', k', n', Qr', Qx', h1, h2, h3, hT, hx, h⟩ := h
        refine cj_fewer (k' := (k13 - k') + k') (n' := (n14 - n') + n') (by omega) (by omega) ?_
        refine cj_callV (M' := mX3_peek) (d' := d') (k' := k') (n' := n') (index := 64) (np := 0) (As := []) (rest := []) dX3_sum_36 lkX3_64 mwX3_peek hT h1 rfl rfl (Nat.le_of_ble_eq_true rfl) e9 rfl (fun v9 G18 q17 => ?_) hx
        replace h := h v9 G18 q17
        obtain ⟨x21, e8, h⟩ := h
        subst e8
        refine cj_nmk (fun k19 n20 e6 e7 => ?_)
        (try rw [← e6] at h); (try rw [← e7] at h)
        refine cj_st (st' := [.int x21]) rfl ?_
        refine cj_pc (pc' := 39) rfl ?_
        refine cj_bipush (v := 43) dX3_sum_39 (by decide) ?_
        refine cj_icmp_ne (tgt := 48) dX3_sum_41 (by decide) (fun c22 => ?_) (fun c22 => ?_)
        · replace h := h.1 c22
          refine cj_iconst (v := 5) dX3_sum_48 (by decide) ?_
          refine cj_istore_n (lv' := [(3, .int 5), (0, .ref v0), (1, .int v1), (2, .ref v2)]) dX3_sum_49 (by decide) rfl ?_
          refine cj_pc (pc' := 50) rfl ?_
          refine cj_aload_n dX3_sum_50 rfl ?_
          refine cj_dup dX3_sum_51 rfl ?_
          obtain ⟨fs9, x23, g24, e9, h⟩ := h
          refine cj_get flX3_19 dX3_sum_52 g24 e9 ?_
          refine cj_iconst (v := 1) dX3_sum_55 (by decide) ?_
          refine cj_pc (pc' := 56) rfl ?_
          refine cj_iadd dX3_sum_56 ?_
          obtain ⟨fs9, e8, e9, h⟩ := h
          refine cj_put flX3_19 dX3_sum_57 e8 rfl rfl e9 ?_
          refine cj_nm (fun G25 e7 => ?_)
          rw [← e7] at h
          clear e7
          refine cj_aload_n dX3_sum_60 rfl ?_
          refine cj_iload_n dX3_sum_61 rfl ?_
          refine cj_pc (pc' := 62) rfl ?_
          refine cj_aload_n dX3_sum_62 rfl ?_
          refine cj_iload_n dX3_sum_63 rfl ?_
          obtain ⟨⟨fs9, e9⟩, h⟩ := h
          obtain ⟨d', k', n', Qr', Qx', h1, h2, h3, hT, hx, h⟩ := h
          refine cj_fewer (k' := (k19 - k') + k') (n' := (n20 - n') + n') (by omega) (by omega) ?_
          refine cj_callV (M' := mX3_product) (d' := d') (k' := k') (n' := n') (index := 150) (np := 1) (As := [.int v1]) (rest := [.int 5, .ref v2]) dX3_sum_64 lkX3_150 mwX3_product hT h1 rfl rfl (Nat.le_of_ble_eq_true rfl) e9 rfl (fun v9 G27 q26 => ?_) hx
          replace h := h v9 G27 q26
          obtain ⟨x30, e8, h⟩ := h
          subst e8
          refine cj_nmk (fun k28 n29 e6 e7 => ?_)
          (try rw [← e6] at h); (try rw [← e7] at h)
          refine cj_st (st' := [.ref x30, .int 5, .ref v2]) rfl ?_
          obtain ⟨⟨fs9, e9⟩, h⟩ := h
          obtain ⟨d', k', n', Qr', Qx', h1, h2, h3, hT, hx, h⟩ := h
          refine cj_fewer (k' := (k28 - k') + k') (n' := (n29 - n') + n') (by omega) (by omega) ?_
          refine cj_callV (M' := mX4_operate) (d' := d') (k' := k') (n' := n') (index := 146) (np := 2) (As := [.int 5, .ref x30]) (rest := []) dX3_sum_67 lkX3_146 mwX4_operate hT h1 rfl rfl (Nat.le_of_ble_eq_true rfl) e9 rfl (fun v9 G32 q31 => ?_) hx
          replace h := h v9 G32 q31
          obtain ⟨e8, h⟩ := h
          subst e8
          refine cj_nmk (fun k33 n34 e6 e7 => ?_)
          (try rw [← e6] at h); (try rw [← e7] at h)
          refine cj_st (st' := []) rfl ?_
          refine cj_pc (pc' := 70) rfl ?_
          refine cj_goto (tgt := 6) dX3_sum_70 (by decide) ?_
          refine cj_sub (lv' := [(0, .ref v0), (1, .int v1), (2, .ref v2)]) (by simp) ?_
          exact ih _ _ _ h
        · replace h := h.2 c22
          refine cj_iconst (v := 4) dX3_sum_44 (by decide) ?_
          refine cj_goto (tgt := 49) dX3_sum_45 (by decide) ?_
          refine cj_istore_n (lv' := [(3, .int 4), (0, .ref v0), (1, .int v1), (2, .ref v2)]) dX3_sum_49 (by decide) rfl ?_
          refine cj_pc (pc' := 50) rfl ?_
          refine cj_aload_n dX3_sum_50 rfl ?_
          refine cj_dup dX3_sum_51 rfl ?_
          obtain ⟨fs9, x35, g36, e9, h⟩ := h
          refine cj_get flX3_19 dX3_sum_52 g36 e9 ?_
          refine cj_iconst (v := 1) dX3_sum_55 (by decide) ?_
          refine cj_pc (pc' := 56) rfl ?_
          refine cj_iadd dX3_sum_56 ?_
          obtain ⟨fs9, e8, e9, h⟩ := h
          refine cj_put flX3_19 dX3_sum_57 e8 rfl rfl e9 ?_
          refine cj_nm (fun G37 e7 => ?_)
          rw [← e7] at h
          clear e7
          refine cj_aload_n dX3_sum_60 rfl ?_
          refine cj_iload_n dX3_sum_61 rfl ?_
          refine cj_pc (pc' := 62) rfl ?_
          refine cj_aload_n dX3_sum_62 rfl ?_
          refine cj_iload_n dX3_sum_63 rfl ?_
          obtain ⟨⟨fs9, e9⟩, h⟩ := h
          obtain ⟨d', k', n', Qr', Qx', h1, h2, h3, hT, hx, h⟩ := h
          refine cj_fewer (k' := (k19 - k') + k') (n' := (n20 - n') + n') (by omega) (by omega) ?_
          refine cj_callV (M' := mX3_product) (d' := d') (k' := k') (n' := n') (index := 150) (np := 1) (As := [.int v1]) (rest := [.int 4, .ref v2]) dX3_sum_64 lkX3_150 mwX3_product hT h1 rfl rfl (Nat.le_of_ble_eq_true rfl) e9 rfl (fun v9 G39 q38 => ?_) hx
          replace h := h v9 G39 q38
          obtain ⟨x42, e8, h⟩ := h
          subst e8
          refine cj_nmk (fun k40 n41 e6 e7 => ?_)
          (try rw [← e6] at h); (try rw [← e7] at h)
          refine cj_st (st' := [.ref x42, .int 4, .ref v2]) rfl ?_
          obtain ⟨⟨fs9, e9⟩, h⟩ := h
          obtain ⟨d', k', n', Qr', Qx', h1, h2, h3, hT, hx, h⟩ := h
          refine cj_fewer (k' := (k40 - k') + k') (n' := (n41 - n') + n') (by omega) (by omega) ?_
          refine cj_callV (M' := mX4_operate) (d' := d') (k' := k') (n' := n') (index := 146) (np := 2) (As := [.int 4, .ref x42]) (rest := []) dX3_sum_67 lkX3_146 mwX4_operate hT h1 rfl rfl (Nat.le_of_ble_eq_true rfl) e9 rfl (fun v9 G44 q43 => ?_) hx
          replace h := h v9 G44 q43
          obtain ⟨e8, h⟩ := h
          subst e8
          refine cj_nmk (fun k45 n46 e6 e7 => ?_)
          (try rw [← e6] at h); (try rw [← e7] at h)
          refine cj_st (st' := []) rfl ?_
          refine cj_pc (pc' := 70) rfl ?_
          refine cj_goto (tgt := 6) dX3_sum_70 (by decide) ?_
          refine cj_sub (lv' := [(0, .ref v0), (1, .int v1), (2, .ref v2)]) (by simp) ?_
          exact ih _ _ _ h
      · replace h := h.2 c16
        refine cj_aload_n dX3_sum_26 rfl ?_
        obtain ⟨⟨fs9, e9⟩, h⟩ := h
        obtain ⟨d', k', n', Qr', Qx', h1, h2, h3, hT, hx, h⟩ := h
        refine cj_fewer (k' := (k13 - k') + k') (n' := (n14 - n') + n') (by omega) (by omega) ?_
        refine cj_callV (M' := mX3_peek) (d' := d') (k' := k') (n' := n') (index := 64) (np := 0) (As := []) (rest := []) dX3_sum_27 lkX3_64 mwX3_peek hT h1 rfl rfl (Nat.le_of_ble_eq_true rfl) e9 rfl (fun v9 G48 q47 => ?_) hx
        replace h := h v9 G48 q47
        obtain ⟨x51, e8, h⟩ := h
        subst e8
        refine cj_nmk (fun k49 n50 e6 e7 => ?_)
        (try rw [← e6] at h); (try rw [← e7] at h)
        refine cj_st (st' := [.int x51]) rfl ?_
        refine cj_bipush (v := 45) dX3_sum_30 (by decide) ?_
        refine cj_pc (pc' := 32) rfl ?_
        refine cj_icmp_ne (tgt := 73) dX3_sum_32 (by decide) (fun c52 => ?_) (fun c52 => ?_)
        · replace h := h.1 c52
          refine cj_sub (lv' := [(0, .ref v0), (1, .int v1), (2, .ref v2)]) (by simp) ?_
          exact hK _ _ _ h
        · replace h := h.2 c52
          refine cj_aload_n dX3_sum_35 rfl ?_
          obtain ⟨⟨fs9, e9⟩, h⟩ := h
          obtain ⟨d', k', n', Qr', Qx', h1, h2, h3, hT, hx, h⟩ := h
          refine cj_fewer (k' := (k49 - k') + k') (n' := (n50 - n') + n') (by omega) (by omega) ?_
          refine cj_callV (M' := mX3_peek) (d' := d') (k' := k') (n' := n') (index := 64) (np := 0) (As := []) (rest := []) dX3_sum_36 lkX3_64 mwX3_peek hT h1 rfl rfl (Nat.le_of_ble_eq_true rfl) e9 rfl (fun v9 G54 q53 => ?_) hx
          replace h := h v9 G54 q53
          obtain ⟨x57, e8, h⟩ := h
          subst e8
          refine cj_nmk (fun k55 n56 e6 e7 => ?_)
          (try rw [← e6] at h); (try rw [← e7] at h)
          refine cj_st (st' := [.int x57]) rfl ?_
          refine cj_bipush (v := 43) dX3_sum_39 (by decide) ?_
          refine cj_pc (pc' := 41) rfl ?_
          refine cj_icmp_ne (tgt := 48) dX3_sum_41 (by decide) (fun c58 => ?_) (fun c58 => ?_)
          · replace h := h.1 c58
            refine cj_iconst (v := 5) dX3_sum_48 (by decide) ?_
            refine cj_istore_n (lv' := [(3, .int 5), (0, .ref v0), (1, .int v1), (2, .ref v2)]) dX3_sum_49 (by decide) rfl ?_
            refine cj_aload_n dX3_sum_50 rfl ?_
            refine cj_pc (pc' := 51) rfl ?_
            refine cj_dup dX3_sum_51 rfl ?_
            obtain ⟨fs9, x59, g60, e9, h⟩ := h
            refine cj_get flX3_19 dX3_sum_52 g60 e9 ?_
            refine cj_iconst (v := 1) dX3_sum_55 (by decide) ?_
            refine cj_iadd dX3_sum_56 ?_
            refine cj_pc (pc' := 57) rfl ?_
            obtain ⟨fs9, e8, e9, h⟩ := h
            refine cj_put flX3_19 dX3_sum_57 e8 rfl rfl e9 ?_
            refine cj_nm (fun G61 e7 => ?_)
            rw [← e7] at h
            clear e7
            refine cj_aload_n dX3_sum_60 rfl ?_
            refine cj_iload_n dX3_sum_61 rfl ?_
            refine cj_aload_n dX3_sum_62 rfl ?_
            refine cj_pc (pc' := 63) rfl ?_
            refine cj_iload_n dX3_sum_63 rfl ?_
            obtain ⟨⟨fs9, e9⟩, h⟩ := h
            obtain ⟨d', k', n', Qr', Qx', h1, h2, h3, hT, hx, h⟩ := h
            refine cj_fewer (k' := (k55 - k') + k') (n' := (n56 - n') + n') (by omega) (by omega) ?_
            refine cj_callV (M' := mX3_product) (d' := d') (k' := k') (n' := n') (index := 150) (np := 1) (As := [.int v1]) (rest := [.int 5, .ref v2]) dX3_sum_64 lkX3_150 mwX3_product hT h1 rfl rfl (Nat.le_of_ble_eq_true rfl) e9 rfl (fun v9 G63 q62 => ?_) hx
            replace h := h v9 G63 q62
            obtain ⟨x66, e8, h⟩ := h
            subst e8
            refine cj_nmk (fun k64 n65 e6 e7 => ?_)
            (try rw [← e6] at h); (try rw [← e7] at h)
            refine cj_st (st' := [.ref x66, .int 5, .ref v2]) rfl ?_
            obtain ⟨⟨fs9, e9⟩, h⟩ := h
            obtain ⟨d', k', n', Qr', Qx', h1, h2, h3, hT, hx, h⟩ := h
            refine cj_fewer (k' := (k64 - k') + k') (n' := (n65 - n') + n') (by omega) (by omega) ?_
            refine cj_callV (M' := mX4_operate) (d' := d') (k' := k') (n' := n') (index := 146) (np := 2) (As := [.int 5, .ref x66]) (rest := []) dX3_sum_67 lkX3_146 mwX4_operate hT h1 rfl rfl (Nat.le_of_ble_eq_true rfl) e9 rfl (fun v9 G68 q67 => ?_) hx
            replace h := h v9 G68 q67
            obtain ⟨e8, h⟩ := h
            subst e8
            refine cj_nmk (fun k69 n70 e6 e7 => ?_)
            (try rw [← e6] at h); (try rw [← e7] at h)
            refine cj_st (st' := []) rfl ?_
            refine cj_goto (tgt := 6) dX3_sum_70 (by decide) ?_
            refine cj_sub (lv' := [(0, .ref v0), (1, .int v1), (2, .ref v2)]) (by simp) ?_
            exact ih _ _ _ h
          · replace h := h.2 c58
            refine cj_iconst (v := 4) dX3_sum_44 (by decide) ?_
            refine cj_pc (pc' := 45) rfl ?_
            refine cj_goto (tgt := 49) dX3_sum_45 (by decide) ?_
            refine cj_istore_n (lv' := [(3, .int 4), (0, .ref v0), (1, .int v1), (2, .ref v2)]) dX3_sum_49 (by decide) rfl ?_
            refine cj_aload_n dX3_sum_50 rfl ?_
            refine cj_dup dX3_sum_51 rfl ?_
            refine cj_pc (pc' := 52) rfl ?_
            obtain ⟨fs9, x71, g72, e9, h⟩ := h
            refine cj_get flX3_19 dX3_sum_52 g72 e9 ?_
            refine cj_iconst (v := 1) dX3_sum_55 (by decide) ?_
            refine cj_iadd dX3_sum_56 ?_
            obtain ⟨fs9, e8, e9, h⟩ := h
            refine cj_put flX3_19 dX3_sum_57 e8 rfl rfl e9 ?_
            refine cj_nm (fun G73 e7 => ?_)
            rw [← e7] at h
            clear e7
            refine cj_pc (pc' := 60) rfl ?_
            refine cj_aload_n dX3_sum_60 rfl ?_
            refine cj_iload_n dX3_sum_61 rfl ?_
            refine cj_aload_n dX3_sum_62 rfl ?_
            refine cj_iload_n dX3_sum_63 rfl ?_
            refine cj_pc (pc' := 64) rfl ?_
            obtain ⟨⟨fs9, e9⟩, h⟩ := h
            obtain ⟨d', k', n', Qr', Qx', h1, h2, h3, hT, hx, h⟩ := h
            refine cj_fewer (k' := (k55 - k') + k') (n' := (n56 - n') + n') (by omega) (by omega) ?_
            refine cj_callV (M' := mX3_product) (d' := d') (k' := k') (n' := n') (index := 150) (np := 1) (As := [.int v1]) (rest := [.int 4, .ref v2]) dX3_sum_64 lkX3_150 mwX3_product hT h1 rfl rfl (Nat.le_of_ble_eq_true rfl) e9 rfl (fun v9 G75 q74 => ?_) hx
            replace h := h v9 G75 q74
            obtain ⟨x78, e8, h⟩ := h
            subst e8
            refine cj_nmk (fun k76 n77 e6 e7 => ?_)
            (try rw [← e6] at h); (try rw [← e7] at h)
            refine cj_st (st' := [.ref x78, .int 4, .ref v2]) rfl ?_
            obtain ⟨⟨fs9, e9⟩, h⟩ := h
            obtain ⟨d', k', n', Qr', Qx', h1, h2, h3, hT, hx, h⟩ := h
            refine cj_fewer (k' := (k76 - k') + k') (n' := (n77 - n') + n') (by omega) (by omega) ?_
            refine cj_callV (M' := mX4_operate) (d' := d') (k' := k') (n' := n') (index := 146) (np := 2) (As := [.int 4, .ref x78]) (rest := []) dX3_sum_67 lkX3_146 mwX4_operate hT h1 rfl rfl (Nat.le_of_ble_eq_true rfl) e9 rfl (fun v9 G80 q79 => ?_) hx
            replace h := h v9 G80 q79
            obtain ⟨e8, h⟩ := h
            subst e8
            refine cj_nmk (fun k81 n82 e6 e7 => ?_)
            (try rw [← e6] at h); (try rw [← e7] at h)
            refine cj_st (st' := []) rfl ?_
            refine cj_goto (tgt := 6) dX3_sum_70 (by decide) ?_
            refine cj_sub (lv' := [(0, .ref v0), (1, .int v1), (2, .ref v2)]) (by simp) ?_
            exact ih _ _ _ h
set_option maxHeartbeats 4000000 in
set_option maxRecDepth 100000 in
theorem tq_X3_sum {d k n1 : Nat} (hd9 : 6 ≤ d) {o : Nat} {a1 : Int32} {G : cj_G} {Qr : Option Value → cj_G → Prop} {Qx : String → cj_G → Prop} (h : wq_X3_sum d k n1 o a1 G Qr Qx) : cj_T mX3_sum d k n1 [.ref o, .int a1] G Qr Qx := by
  refine cj_T_of (by decide +kernel) (Nat.le_of_ble_eq_true rfl) ?_
  refine cj_lvs (lv' := [(0, .ref o), (1, .int a1)]) rfl ?_
  unfold wq_X3_sum at h
  refine cj_aload_n dX3_sum_0 rfl ?_
  refine cj_iload_n dX3_sum_1 rfl ?_
  obtain ⟨⟨fs9, e9⟩, h⟩ := h
  obtain ⟨d', k', n', Qr', Qx', h1, h2, h3, hT, hx, h⟩ := h
  refine cj_fewer (k' := (k - k') + k') (n' := (n1 - n') + n') (by omega) (by omega) ?_
  refine cj_callV (M' := mX3_product) (d' := d') (k' := k') (n' := n') (index := 150) (np := 1) (As := [.int a1]) (rest := []) dX3_sum_2 lkX3_150 mwX3_product hT h1 rfl rfl (Nat.le_of_ble_eq_true rfl) e9 rfl (fun v9 G2 q1 => ?_) hx
  replace h := h v9 G2 q1
  obtain ⟨x5, e8, h⟩ := h
  subst e8
  refine cj_nmk (fun k3 n4 e6 e7 => ?_)
  (try rw [← e6] at h); (try rw [← e7] at h)
  refine cj_st (st' := [.ref x5]) rfl ?_
  refine cj_pc (pc' := 5) rfl ?_
  refine cj_astore_n (lv' := [(2, .ref x5), (0, .ref o), (1, .int a1)]) dX3_sum_5 (by decide) rfl ?_
  obtain ⟨n9, h⟩ := h
  refine cj_sub (lv' := [(0, .ref o), (1, .int a1), (2, .ref x5)]) (by simp) ?_
  refine wk_X3_sum_6_ok hd9 _ _ _ ?_ n9 _ _ _ h
  clear h
  intro G83 k84 n85 h
  refine cj_aload_n dX3_sum_73 rfl ?_
  refine cj_pc (pc' := 74) rfl ?_
  refine cj_aret rfl dX3_sum_74 ?_
  exact h
def wq_X3_comparison (d k n1 : Nat) (o : Nat) (a1 : Int32) (G : cj_G) (Qr : Option Value → cj_G → Prop) (Qx : String → cj_G → Prop) : Prop := (sk_V G o 3 ∧ sk_c_r mX3_sum d k n1 [.ref o, .int a1] G Qx (fun x5 G2 k3 n4 => (sk_V G2 o 3 ∧ sk_c_i mX3_peek d k3 n4 [.ref o] G2 Qx (fun x10 G7 k8 n9 => ((x10 = 60 → sk_gi G7 o 3 2 (fun x12 => sk_pt G7 o 3 2 (.int (x12 + 1)) (fun G14 => ((¬ x10 = 60 → (sk_V G14 o 3 ∧ sk_c_r mX3_sum d k8 n9 [.ref o, .int a1] G14 Qx (fun x20 G17 k18 n19 => (sk_V G17 x5 4 ∧ sk_c_v mX4_operate d k18 n19 [.ref x5, .int 8, .ref x20] G17 Qx (fun G22 k23 n24 => Qr (some (.ref x5)) G22))))) ∧ (x10 = 60 → (sk_V G14 o 3 ∧ sk_c_r mX3_sum d k8 n9 [.ref o, .int a1] G14 Qx (fun x29 G26 k27 n28 => (sk_V G26 x5 4 ∧ sk_c_v mX4_operate d k27 n28 [.ref x5, .int 7, .ref x29] G26 Qx (fun G31 k32 n33 => Qr (some (.ref x5)) G31))))))))) ∧ (¬ x10 = 60 → ((¬ x10 = 126 → Qr (some (.ref x5)) G7) ∧ (x10 = 126 → sk_gi G7 o 3 2 (fun x35 => sk_pt G7 o 3 2 (.int (x35 + 1)) (fun G37 => ((¬ x10 = 60 → (sk_V G37 o 3 ∧ sk_c_r mX3_sum d k8 n9 [.ref o, .int a1] G37 Qx (fun x43 G40 k41 n42 => (sk_V G40 x5 4 ∧ sk_c_v mX4_operate d k41 n42 [.ref x5, .int 8, .ref x43] G40 Qx (fun G45 k46 n47 => Qr (some (.ref x5)) G45))))) ∧ (x10 = 60 → (sk_V G37 o 3 ∧ sk_c_r mX3_sum d k8 n9 [.ref o, .int a1] G37 Qx (fun x52 G49 k50 n51 => (sk_V G49 x5 4 ∧ sk_c_v mX4_operate d k50 n51 [.ref x5, .int 7, .ref x52] G49 Qx (fun G54 k55 n56 => Qr (some (.ref x5)) G54))))))))))))))))
set_option maxHeartbeats 4000000 in
set_option maxRecDepth 100000 in
theorem tq_X3_comparison {d k n1 : Nat} (hd9 : 6 ≤ d) {o : Nat} {a1 : Int32} {G : cj_G} {Qr : Option Value → cj_G → Prop} {Qx : String → cj_G → Prop} (h : wq_X3_comparison d k n1 o a1 G Qr Qx) : cj_T mX3_comparison d k n1 [.ref o, .int a1] G Qr Qx := by
  refine cj_T_of (by decide +kernel) (Nat.le_of_ble_eq_true rfl) ?_
  refine cj_lvs (lv' := [(0, .ref o), (1, .int a1)]) rfl ?_
  unfold wq_X3_comparison at h
  refine cj_aload_n dX3_comparison_0 rfl ?_
  refine cj_iload_n dX3_comparison_1 rfl ?_
  obtain ⟨⟨fs9, e9⟩, h⟩ := h
  obtain ⟨d', k', n', Qr', Qx', h1, h2, h3, hT, hx, h⟩ := h
  refine cj_fewer (k' := (k - k') + k') (n' := (n1 - n') + n') (by omega) (by omega) ?_
  refine cj_callV (M' := mX3_sum) (d' := d') (k' := k') (n' := n') (index := 143) (np := 1) (As := [.int a1]) (rest := []) dX3_comparison_2 lkX3_143 mwX3_sum hT h1 rfl rfl (Nat.le_of_ble_eq_true rfl) e9 rfl (fun v9 G2 q1 => ?_) hx
  replace h := h v9 G2 q1
  obtain ⟨x5, e8, h⟩ := h
  subst e8
  refine cj_nmk (fun k3 n4 e6 e7 => ?_)
  (try rw [← e6] at h); (try rw [← e7] at h)
  refine cj_st (st' := [.ref x5]) rfl ?_
  refine cj_pc (pc' := 5) rfl ?_
  refine cj_astore_n (lv' := [(2, .ref x5), (0, .ref o), (1, .int a1)]) dX3_comparison_5 (by decide) rfl ?_
  refine cj_aload_n dX3_comparison_6 rfl ?_
  obtain ⟨⟨fs9, e9⟩, h⟩ := h
  obtain ⟨d', k', n', Qr', Qx', h1, h2, h3, hT, hx, h⟩ := h
  refine cj_fewer (k' := (k3 - k') + k') (n' := (n4 - n') + n') (by omega) (by omega) ?_
  refine cj_callV (M' := mX3_peek) (d' := d') (k' := k') (n' := n') (index := 64) (np := 0) (As := []) (rest := []) dX3_comparison_7 lkX3_64 mwX3_peek hT h1 rfl rfl (Nat.le_of_ble_eq_true rfl) e9 rfl (fun v9 G7 q6 => ?_) hx
  replace h := h v9 G7 q6
  obtain ⟨x10, e8, h⟩ := h
  subst e8
  refine cj_nmk (fun k8 n9 e6 e7 => ?_)
  (try rw [← e6] at h); (try rw [← e7] at h)
  refine cj_st (st' := [.int x10]) rfl ?_
  refine cj_istore_n (lv' := [(3, .int x10), (2, .ref x5), (0, .ref o), (1, .int a1)]) dX3_comparison_10 (by decide) rfl ?_
  refine cj_pc (pc' := 11) rfl ?_
  refine cj_iload_n dX3_comparison_11 rfl ?_
  refine cj_bipush (v := 60) dX3_comparison_12 (by decide) ?_
  refine cj_icmp_eq (tgt := 23) dX3_comparison_14 (by decide) (fun c11 => ?_) (fun c11 => ?_)
  · replace h := h.1 c11
    refine cj_aload_n dX3_comparison_23 rfl ?_
    refine cj_pc (pc' := 24) rfl ?_
    refine cj_dup dX3_comparison_24 rfl ?_
    obtain ⟨fs9, x12, g13, e9, h⟩ := h
    refine cj_get flX3_19 dX3_comparison_25 g13 e9 ?_
    refine cj_iconst (v := 1) dX3_comparison_28 (by decide) ?_
    refine cj_iadd dX3_comparison_29 ?_
    refine cj_pc (pc' := 30) rfl ?_
    obtain ⟨fs9, e8, e9, h⟩ := h
    refine cj_put flX3_19 dX3_comparison_30 e8 rfl rfl e9 ?_
    refine cj_nm (fun G14 e7 => ?_)
    rw [← e7] at h
    clear e7
    refine cj_aload_n dX3_comparison_33 rfl ?_
    refine cj_iload_n dX3_comparison_34 rfl ?_
    refine cj_bipush (v := 60) dX3_comparison_35 (by decide) ?_
    refine cj_pc (pc' := 37) rfl ?_
    refine cj_icmp_ne (tgt := 45) dX3_comparison_37 (by decide) (fun c15 => ?_) (fun c15 => ?_)
    · replace h := h.1 c15
      refine cj_bipush (v := 8) dX3_comparison_45 (by decide) ?_
      refine cj_aload_n dX3_comparison_47 rfl ?_
      refine cj_iload_n dX3_comparison_48 rfl ?_
      refine cj_pc (pc' := 49) rfl ?_
      obtain ⟨⟨fs9, e9⟩, h⟩ := h
      obtain ⟨d', k', n', Qr', Qx', h1, h2, h3, hT, hx, h⟩ := h
      refine cj_fewer (k' := (k8 - k') + k') (n' := (n9 - n') + n') (by omega) (by omega) ?_
      refine cj_callV (M' := mX3_sum) (d' := d') (k' := k') (n' := n') (index := 143) (np := 1) (As := [.int a1]) (rest := [.int 8, .ref x5]) dX3_comparison_49 lkX3_143 mwX3_sum hT h1 rfl rfl (Nat.le_of_ble_eq_true rfl) e9 rfl (fun v9 G17 q16 => ?_) hx
      replace h := h v9 G17 q16
      obtain ⟨x20, e8, h⟩ := h
      subst e8
      refine cj_nmk (fun k18 n19 e6 e7 => ?_)
      (try rw [← e6] at h); (try rw [← e7] at h)
      refine cj_st (st' := [.ref x20, .int 8, .ref x5]) rfl ?_
      obtain ⟨⟨fs9, e9⟩, h⟩ := h
      obtain ⟨d', k', n', Qr', Qx', h1, h2, h3, hT, hx, h⟩ := h
      refine cj_fewer (k' := (k18 - k') + k') (n' := (n19 - n') + n') (by omega) (by omega) ?_
      refine cj_callV (M' := mX4_operate) (d' := d') (k' := k') (n' := n') (index := 146) (np := 2) (As := [.int 8, .ref x20]) (rest := []) dX3_comparison_52 lkX3_146 mwX4_operate hT h1 rfl rfl (Nat.le_of_ble_eq_true rfl) e9 rfl (fun v9 G22 q21 => ?_) hx
      replace h := h v9 G22 q21
      obtain ⟨e8, h⟩ := h
      subst e8
      refine cj_nmk (fun k23 n24 e6 e7 => ?_)
      (try rw [← e6] at h); (try rw [← e7] at h)
      refine cj_st (st' := []) rfl ?_
      refine cj_aload_n dX3_comparison_55 rfl ?_
      refine cj_aret rfl dX3_comparison_56 ?_
      exact h
    · replace h := h.2 c15
      refine cj_bipush (v := 7) dX3_comparison_40 (by decide) ?_
      refine cj_pc (pc' := 42) rfl ?_
      refine cj_goto (tgt := 47) dX3_comparison_42 (by decide) ?_
      refine cj_aload_n dX3_comparison_47 rfl ?_
      refine cj_iload_n dX3_comparison_48 rfl ?_
      obtain ⟨⟨fs9, e9⟩, h⟩ := h
      obtain ⟨d', k', n', Qr', Qx', h1, h2, h3, hT, hx, h⟩ := h
      refine cj_fewer (k' := (k8 - k') + k') (n' := (n9 - n') + n') (by omega) (by omega) ?_
      refine cj_callV (M' := mX3_sum) (d' := d') (k' := k') (n' := n') (index := 143) (np := 1) (As := [.int a1]) (rest := [.int 7, .ref x5]) dX3_comparison_49 lkX3_143 mwX3_sum hT h1 rfl rfl (Nat.le_of_ble_eq_true rfl) e9 rfl (fun v9 G26 q25 => ?_) hx
      replace h := h v9 G26 q25
      obtain ⟨x29, e8, h⟩ := h
      subst e8
      refine cj_nmk (fun k27 n28 e6 e7 => ?_)
      (try rw [← e6] at h); (try rw [← e7] at h)
      refine cj_st (st' := [.ref x29, .int 7, .ref x5]) rfl ?_
      refine cj_pc (pc' := 52) rfl ?_
      obtain ⟨⟨fs9, e9⟩, h⟩ := h
      obtain ⟨d', k', n', Qr', Qx', h1, h2, h3, hT, hx, h⟩ := h
      refine cj_fewer (k' := (k27 - k') + k') (n' := (n28 - n') + n') (by omega) (by omega) ?_
      refine cj_callV (M' := mX4_operate) (d' := d') (k' := k') (n' := n') (index := 146) (np := 2) (As := [.int 7, .ref x29]) (rest := []) dX3_comparison_52 lkX3_146 mwX4_operate hT h1 rfl rfl (Nat.le_of_ble_eq_true rfl) e9 rfl (fun v9 G31 q30 => ?_) hx
      replace h := h v9 G31 q30
      obtain ⟨e8, h⟩ := h
      subst e8
      refine cj_nmk (fun k32 n33 e6 e7 => ?_)
      (try rw [← e6] at h); (try rw [← e7] at h)
      refine cj_st (st' := []) rfl ?_
      refine cj_aload_n dX3_comparison_55 rfl ?_
      refine cj_aret rfl dX3_comparison_56 ?_
      exact h
  · replace h := h.2 c11
    refine cj_iload_n dX3_comparison_17 rfl ?_
    refine cj_pc (pc' := 18) rfl ?_
    refine cj_bipush (v := 126) dX3_comparison_18 (by decide) ?_
    refine cj_icmp_ne (tgt := 55) dX3_comparison_20 (by decide) (fun c34 => ?_) (fun c34 => ?_)
    · replace h := h.1 c34
      refine cj_aload_n dX3_comparison_55 rfl ?_
      refine cj_aret rfl dX3_comparison_56 ?_
      exact h
    · replace h := h.2 c34
      refine cj_aload_n dX3_comparison_23 rfl ?_
      refine cj_pc (pc' := 24) rfl ?_
      refine cj_dup dX3_comparison_24 rfl ?_
      obtain ⟨fs9, x35, g36, e9, h⟩ := h
      refine cj_get flX3_19 dX3_comparison_25 g36 e9 ?_
      refine cj_iconst (v := 1) dX3_comparison_28 (by decide) ?_
      refine cj_iadd dX3_comparison_29 ?_
      refine cj_pc (pc' := 30) rfl ?_
      obtain ⟨fs9, e8, e9, h⟩ := h
      refine cj_put flX3_19 dX3_comparison_30 e8 rfl rfl e9 ?_
      refine cj_nm (fun G37 e7 => ?_)
      rw [← e7] at h
      clear e7
      refine cj_aload_n dX3_comparison_33 rfl ?_
      refine cj_iload_n dX3_comparison_34 rfl ?_
      refine cj_bipush (v := 60) dX3_comparison_35 (by decide) ?_
      refine cj_pc (pc' := 37) rfl ?_
      refine cj_icmp_ne (tgt := 45) dX3_comparison_37 (by decide) (fun c38 => ?_) (fun c38 => ?_)
      · replace h := h.1 c38
        refine cj_bipush (v := 8) dX3_comparison_45 (by decide) ?_
        refine cj_aload_n dX3_comparison_47 rfl ?_
        refine cj_iload_n dX3_comparison_48 rfl ?_
        refine cj_pc (pc' := 49) rfl ?_
        obtain ⟨⟨fs9, e9⟩, h⟩ := h
        obtain ⟨d', k', n', Qr', Qx', h1, h2, h3, hT, hx, h⟩ := h
        refine cj_fewer (k' := (k8 - k') + k') (n' := (n9 - n') + n') (by omega) (by omega) ?_
        refine cj_callV (M' := mX3_sum) (d' := d') (k' := k') (n' := n') (index := 143) (np := 1) (As := [.int a1]) (rest := [.int 8, .ref x5]) dX3_comparison_49 lkX3_143 mwX3_sum hT h1 rfl rfl (Nat.le_of_ble_eq_true rfl) e9 rfl (fun v9 G40 q39 => ?_) hx
        replace h := h v9 G40 q39
        obtain ⟨x43, e8, h⟩ := h
        subst e8
        refine cj_nmk (fun k41 n42 e6 e7 => ?_)
        (try rw [← e6] at h); (try rw [← e7] at h)
        refine cj_st (st' := [.ref x43, .int 8, .ref x5]) rfl ?_
        obtain ⟨⟨fs9, e9⟩, h⟩ := h
        obtain ⟨d', k', n', Qr', Qx', h1, h2, h3, hT, hx, h⟩ := h
        refine cj_fewer (k' := (k41 - k') + k') (n' := (n42 - n') + n') (by omega) (by omega) ?_
        refine cj_callV (M' := mX4_operate) (d' := d') (k' := k') (n' := n') (index := 146) (np := 2) (As := [.int 8, .ref x43]) (rest := []) dX3_comparison_52 lkX3_146 mwX4_operate hT h1 rfl rfl (Nat.le_of_ble_eq_true rfl) e9 rfl (fun v9 G45 q44 => ?_) hx
        replace h := h v9 G45 q44
        obtain ⟨e8, h⟩ := h
        subst e8
        refine cj_nmk (fun k46 n47 e6 e7 => ?_)
        (try rw [← e6] at h); (try rw [← e7] at h)
        refine cj_st (st' := []) rfl ?_
        refine cj_aload_n dX3_comparison_55 rfl ?_
        refine cj_aret rfl dX3_comparison_56 ?_
        exact h
      · replace h := h.2 c38
        refine cj_bipush (v := 7) dX3_comparison_40 (by decide) ?_
        refine cj_pc (pc' := 42) rfl ?_
        refine cj_goto (tgt := 47) dX3_comparison_42 (by decide) ?_
        refine cj_aload_n dX3_comparison_47 rfl ?_
        refine cj_iload_n dX3_comparison_48 rfl ?_
        obtain ⟨⟨fs9, e9⟩, h⟩ := h
        obtain ⟨d', k', n', Qr', Qx', h1, h2, h3, hT, hx, h⟩ := h
        refine cj_fewer (k' := (k8 - k') + k') (n' := (n9 - n') + n') (by omega) (by omega) ?_
        refine cj_callV (M' := mX3_sum) (d' := d') (k' := k') (n' := n') (index := 143) (np := 1) (As := [.int a1]) (rest := [.int 7, .ref x5]) dX3_comparison_49 lkX3_143 mwX3_sum hT h1 rfl rfl (Nat.le_of_ble_eq_true rfl) e9 rfl (fun v9 G49 q48 => ?_) hx
        replace h := h v9 G49 q48
        obtain ⟨x52, e8, h⟩ := h
        subst e8
        refine cj_nmk (fun k50 n51 e6 e7 => ?_)
        (try rw [← e6] at h); (try rw [← e7] at h)
        refine cj_st (st' := [.ref x52, .int 7, .ref x5]) rfl ?_
        refine cj_pc (pc' := 52) rfl ?_
        obtain ⟨⟨fs9, e9⟩, h⟩ := h
        obtain ⟨d', k', n', Qr', Qx', h1, h2, h3, hT, hx, h⟩ := h
        refine cj_fewer (k' := (k50 - k') + k') (n' := (n51 - n') + n') (by omega) (by omega) ?_
        refine cj_callV (M' := mX4_operate) (d' := d') (k' := k') (n' := n') (index := 146) (np := 2) (As := [.int 7, .ref x52]) (rest := []) dX3_comparison_52 lkX3_146 mwX4_operate hT h1 rfl rfl (Nat.le_of_ble_eq_true rfl) e9 rfl (fun v9 G54 q53 => ?_) hx
        replace h := h v9 G54 q53
        obtain ⟨e8, h⟩ := h
        subst e8
        refine cj_nmk (fun k55 n56 e6 e7 => ?_)
        (try rw [← e6] at h); (try rw [← e7] at h)
        refine cj_st (st' := []) rfl ?_
        refine cj_aload_n dX3_comparison_55 rfl ?_
        refine cj_aret rfl dX3_comparison_56 ?_
        exact h
def wq_X3_openFunction (d k n1 : Nat) (o : Nat) (a1 : Nat) (a2 : Int32) (a3 : Nat) (G : cj_G) (Qr : Option Value → cj_G → Prop) (Qx : String → cj_G → Prop) : Prop := (sk_c_r mX3_label d k n1 [] G Qx (fun x5 G2 k3 n4 => sk_new G2 k3 n4 5 5 [.int 0, .int 0, .null, .int 0, .null] (fun q6 G7 k8 n9 => (sk_n_v mX5_init d k8 n9 [.ref q6, .int a2, .int 0, .ref x5] G7 (fun G11 k12 n13 => (sk_V G11 a1 4 ∧ sk_c_v mX4_add d k12 n13 [.ref a1, .ref q6] G11 Qx (fun G15 k16 n17 => sk_new G15 k16 n17 5 5 [.int 0, .int 0, .null, .int 0, .null] (fun q18 G19 k20 n21 => (sk_n_v mX5_init d k20 n21 [.ref q18, .int 11, .int 0, .ref a3] G19 (fun G23 k24 n25 => (sk_V G23 a1 4 ∧ sk_c_v mX4_add d k24 n25 [.ref a1, .ref q18] G23 Qx (fun G27 k28 n29 => (sk_V G27 a1 4 ∧ sk_c_v mX4_add d k28 n29 [.ref a1, .ref x5] G27 Qx (fun G31 k32 n33 => Qr none G31))))))))))))))
set_option maxHeartbeats 4000000 in
set_option maxRecDepth 100000 in
theorem tq_X3_openFunction {d k n1 : Nat} (hd9 : 6 ≤ d) {o : Nat} {a1 : Nat} {a2 : Int32} {a3 : Nat} {G : cj_G} {Qr : Option Value → cj_G → Prop} {Qx : String → cj_G → Prop} (h : wq_X3_openFunction d k n1 o a1 a2 a3 G Qr Qx) : cj_T mX3_openFunction d k n1 [.ref o, .ref a1, .int a2, .ref a3] G Qr Qx := by
  refine cj_T_of (by decide +kernel) (Nat.le_of_ble_eq_true rfl) ?_
  refine cj_lvs (lv' := [(0, .ref o), (1, .ref a1), (2, .int a2), (3, .ref a3)]) rfl ?_
  unfold wq_X3_openFunction at h
  obtain ⟨d', k', n', Qr', Qx', h1, h2, h3, hT, hx, h⟩ := h
  refine cj_fewer (k' := (k - k') + k') (n' := (n1 - n') + n') (by omega) (by omega) ?_
  refine cj_callS (M' := mX3_label) (d' := d') (k' := k') (n' := n') (index := 103) (np := 0) (As := []) (rest := []) dX3_openFunction_0 lkX3_103 mwX3_label hT h1 rfl rfl (Nat.le_of_ble_eq_true rfl) (fun v9 G2 q1 => ?_) hx
  replace h := h v9 G2 q1
  obtain ⟨x5, e8, h⟩ := h
  subst e8
  refine cj_nmk (fun k3 n4 e6 e7 => ?_)
  (try rw [← e6] at h); (try rw [← e7] at h)
  refine cj_st (st' := [.ref x5]) rfl ?_
  refine cj_astore (lv' := [(4, .ref x5), (0, .ref o), (1, .ref a1), (2, .int a2), (3, .ref a3)]) dX3_openFunction_3 (by decide) rfl ?_
  refine cj_aload_n dX3_openFunction_5 rfl ?_
  refine cj_pc (pc' := 6) rfl ?_
  obtain ⟨h1, h2, h⟩ := h
  refine cj_fewer (k' := (k3 - 1) + 1) (n' := (n4 - 5) + 5) (by omega) (by omega) ?_
  refine cj_new (ci := 5) (fs := [.int 0, .int 0, .null, .int 0, .null]) rfl uw_X5 tyX5_ok klX3_115.1 klX3_115.2.1 klX3_115.2.2 (by intro j hj; rcases (show j = 0 ∨ j = 1 ∨ j = 2 ∨ j = 3 ∨ j = 4 by omega) with rfl | rfl | rfl | rfl | rfl <;> rfl) dX3_openFunction_6 (fun q6 z9 => ?_)
  replace h := h q6 z9
  refine cj_nm (fun G7 e7 => ?_)
  (try rw [← e7] at h)
  clear e7
  refine cj_nmk (fun k8 n9 e6 e7 => ?_)
  (try rw [← e6] at h); (try rw [← e7] at h)
  refine cj_dup dX3_openFunction_9 rfl ?_
  refine cj_iload_n dX3_openFunction_10 rfl ?_
  refine cj_iconst (v := 0) dX3_openFunction_11 (by decide) ?_
  refine cj_pc (pc' := 12) rfl ?_
  refine cj_aload dX3_openFunction_12 rfl ?_
  obtain ⟨d', k', n', Qr', h1, h2, h3, hT, h⟩ := h
  refine cj_fewer (k' := (k8 - k') + k') (n' := (n9 - n') + n') (by omega) (by omega) ?_
  refine cj_callI (M' := mX5_init) (d' := d') (k' := k') (n' := n') (index := 117) (np := 3) (As := [.int a2, .int 0, .ref x5]) (rest := [.ref q6, .ref a1]) dX3_openFunction_14 lkX3_117 mwX5_init hT h1 rfl rfl (Nat.le_of_ble_eq_true rfl) (fun v9 G11 q10 => ?_)
  replace h := h v9 G11 q10
  obtain ⟨e8, h⟩ := h
  subst e8
  refine cj_nmk (fun k12 n13 e6 e7 => ?_)
  (try rw [← e6] at h); (try rw [← e7] at h)
  refine cj_st (st' := [.ref q6, .ref a1]) rfl ?_
  obtain ⟨⟨fs9, e9⟩, h⟩ := h
  obtain ⟨d', k', n', Qr', Qx', h1, h2, h3, hT, hx, h⟩ := h
  refine cj_fewer (k' := (k12 - k') + k') (n' := (n13 - n') + n') (by omega) (by omega) ?_
  refine cj_callV (M' := mX4_add) (d' := d') (k' := k') (n' := n') (index := 123) (np := 1) (As := [.ref q6]) (rest := []) dX3_openFunction_17 lkX3_123 mwX4_add hT h1 rfl rfl (Nat.le_of_ble_eq_true rfl) e9 rfl (fun v9 G15 q14 => ?_) hx
  replace h := h v9 G15 q14
  obtain ⟨e8, h⟩ := h
  subst e8
  refine cj_nmk (fun k16 n17 e6 e7 => ?_)
  (try rw [← e6] at h); (try rw [← e7] at h)
  refine cj_st (st' := []) rfl ?_
  refine cj_aload_n dX3_openFunction_20 rfl ?_
  refine cj_pc (pc' := 21) rfl ?_
  obtain ⟨h1, h2, h⟩ := h
  refine cj_fewer (k' := (k16 - 1) + 1) (n' := (n17 - 5) + 5) (by omega) (by omega) ?_
  refine cj_new (ci := 5) (fs := [.int 0, .int 0, .null, .int 0, .null]) rfl uw_X5 tyX5_ok klX3_115.1 klX3_115.2.1 klX3_115.2.2 (by intro j hj; rcases (show j = 0 ∨ j = 1 ∨ j = 2 ∨ j = 3 ∨ j = 4 by omega) with rfl | rfl | rfl | rfl | rfl <;> rfl) dX3_openFunction_21 (fun q18 z9 => ?_)
  replace h := h q18 z9
  refine cj_nm (fun G19 e7 => ?_)
  (try rw [← e7] at h)
  clear e7
  refine cj_nmk (fun k20 n21 e6 e7 => ?_)
  (try rw [← e6] at h); (try rw [← e7] at h)
  refine cj_dup dX3_openFunction_24 rfl ?_
  refine cj_bipush (v := 11) dX3_openFunction_25 (by decide) ?_
  refine cj_iconst (v := 0) dX3_openFunction_27 (by decide) ?_
  refine cj_pc (pc' := 28) rfl ?_
  refine cj_aload_n dX3_openFunction_28 rfl ?_
  obtain ⟨d', k', n', Qr', h1, h2, h3, hT, h⟩ := h
  refine cj_fewer (k' := (k20 - k') + k') (n' := (n21 - n') + n') (by omega) (by omega) ?_
  refine cj_callI (M' := mX5_init) (d' := d') (k' := k') (n' := n') (index := 117) (np := 3) (As := [.int 11, .int 0, .ref a3]) (rest := [.ref q18, .ref a1]) dX3_openFunction_29 lkX3_117 mwX5_init hT h1 rfl rfl (Nat.le_of_ble_eq_true rfl) (fun v9 G23 q22 => ?_)
  replace h := h v9 G23 q22
  obtain ⟨e8, h⟩ := h
  subst e8
  refine cj_nmk (fun k24 n25 e6 e7 => ?_)
  (try rw [← e6] at h); (try rw [← e7] at h)
  refine cj_st (st' := [.ref q18, .ref a1]) rfl ?_
  obtain ⟨⟨fs9, e9⟩, h⟩ := h
  obtain ⟨d', k', n', Qr', Qx', h1, h2, h3, hT, hx, h⟩ := h
  refine cj_fewer (k' := (k24 - k') + k') (n' := (n25 - n') + n') (by omega) (by omega) ?_
  refine cj_callV (M' := mX4_add) (d' := d') (k' := k') (n' := n') (index := 123) (np := 1) (As := [.ref q18]) (rest := []) dX3_openFunction_32 lkX3_123 mwX4_add hT h1 rfl rfl (Nat.le_of_ble_eq_true rfl) e9 rfl (fun v9 G27 q26 => ?_) hx
  replace h := h v9 G27 q26
  obtain ⟨e8, h⟩ := h
  subst e8
  refine cj_nmk (fun k28 n29 e6 e7 => ?_)
  (try rw [← e6] at h); (try rw [← e7] at h)
  refine cj_st (st' := []) rfl ?_
  refine cj_aload_n dX3_openFunction_35 rfl ?_
  refine cj_pc (pc' := 36) rfl ?_
  refine cj_aload dX3_openFunction_36 rfl ?_
  obtain ⟨⟨fs9, e9⟩, h⟩ := h
  obtain ⟨d', k', n', Qr', Qx', h1, h2, h3, hT, hx, h⟩ := h
  refine cj_fewer (k' := (k28 - k') + k') (n' := (n29 - n') + n') (by omega) (by omega) ?_
  refine cj_callV (M' := mX4_add) (d' := d') (k' := k') (n' := n') (index := 123) (np := 1) (As := [.ref x5]) (rest := []) dX3_openFunction_38 lkX3_123 mwX4_add hT h1 rfl rfl (Nat.le_of_ble_eq_true rfl) e9 rfl (fun v9 G31 q30 => ?_) hx
  replace h := h v9 G31 q30
  obtain ⟨e8, h⟩ := h
  subst e8
  refine cj_nmk (fun k32 n33 e6 e7 => ?_)
  (try rw [← e6] at h); (try rw [← e7] at h)
  refine cj_st (st' := []) rfl ?_
  refine cj_vret rfl dX3_openFunction_41 ?_
  exact h
def wq_X3_function (d k n1 : Nat) (o : Nat) (a1 : Nat) (a2 : Nat) (G : cj_G) (Qr : Option Value → cj_G → Prop) (Qx : String → cj_G → Prop) : Prop := sk_gi G o 3 2 (fun x1 => sk_pt G o 3 2 (.int (x1 + 1)) (fun G3 => (sk_V G3 o 3 ∧ sk_c_i mX3_takeName d k n1 [.ref o] G3 Qx (fun x8 G5 k6 n7 => (sk_V G5 o 3 ∧ sk_c_v mX3_bind d k6 n7 [.ref o, .int x8] G5 Qx (fun G10 k11 n12 => (sk_c_r mX3_label d k11 n12 [] G10 Qx (fun x17 G14 k15 n16 => (sk_V G14 o 3 ∧ sk_c_v mX3_openFunction d k15 n16 [.ref o, .ref a1, .int 9, .ref x17] G14 Qx (fun G19 k20 n21 => (sk_V G19 a2 4 ∧ sk_c_v mX4_addFirst d k20 n21 [.ref a2, .ref x17] G19 Qx (fun G23 k24 n25 => sk_new G23 k24 n25 5 5 [.int 0, .int 0, .null, .int 0, .null] (fun q26 G27 k28 n29 => (sk_n_v mX5_init d k28 n29 [.ref q26, .int 12, .int 0, .null] G27 (fun G31 k32 n33 => (sk_V G31 a2 4 ∧ sk_c_v mX4_addFirst d k32 n33 [.ref a2, .ref q26] G31 Qx (fun G35 k36 n37 => Qr none G35)))))))))))))))))
set_option maxHeartbeats 4000000 in
set_option maxRecDepth 100000 in
theorem tq_X3_function {d k n1 : Nat} (hd9 : 6 ≤ d) {o : Nat} {a1 : Nat} {a2 : Nat} {G : cj_G} {Qr : Option Value → cj_G → Prop} {Qx : String → cj_G → Prop} (h : wq_X3_function d k n1 o a1 a2 G Qr Qx) : cj_T mX3_function d k n1 [.ref o, .ref a1, .ref a2] G Qr Qx := by
  refine cj_T_of (by decide +kernel) (Nat.le_of_ble_eq_true rfl) ?_
  refine cj_lvs (lv' := [(0, .ref o), (1, .ref a1), (2, .ref a2)]) rfl ?_
  unfold wq_X3_function at h
  refine cj_aload_n dX3_function_0 rfl ?_
  refine cj_dup dX3_function_1 rfl ?_
  obtain ⟨fs9, x1, g2, e9, h⟩ := h
  refine cj_get flX3_19 dX3_function_2 g2 e9 ?_
  refine cj_pc (pc' := 5) rfl ?_
  refine cj_iconst (v := 1) dX3_function_5 (by decide) ?_
  refine cj_iadd dX3_function_6 ?_
  obtain ⟨fs9, e8, e9, h⟩ := h
  refine cj_put flX3_19 dX3_function_7 e8 rfl rfl e9 ?_
  refine cj_nm (fun G3 e7 => ?_)
  rw [← e7] at h
  clear e7
  refine cj_aload_n dX3_function_10 rfl ?_
  refine cj_pc (pc' := 11) rfl ?_
  refine cj_aload_n dX3_function_11 rfl ?_
  obtain ⟨⟨fs9, e9⟩, h⟩ := h
  obtain ⟨d', k', n', Qr', Qx', h1, h2, h3, hT, hx, h⟩ := h
  refine cj_fewer (k' := (k - k') + k') (n' := (n1 - n') + n') (by omega) (by omega) ?_
  refine cj_callV (M' := mX3_takeName) (d' := d') (k' := k') (n' := n') (index := 96) (np := 0) (As := []) (rest := [.ref o]) dX3_function_12 lkX3_96 mwX3_takeName hT h1 rfl rfl (Nat.le_of_ble_eq_true rfl) e9 rfl (fun v9 G5 q4 => ?_) hx
  replace h := h v9 G5 q4
  obtain ⟨x8, e8, h⟩ := h
  subst e8
  refine cj_nmk (fun k6 n7 e6 e7 => ?_)
  (try rw [← e6] at h); (try rw [← e7] at h)
  refine cj_st (st' := [.int x8, .ref o]) rfl ?_
  obtain ⟨⟨fs9, e9⟩, h⟩ := h
  obtain ⟨d', k', n', Qr', Qx', h1, h2, h3, hT, hx, h⟩ := h
  refine cj_fewer (k' := (k6 - k') + k') (n' := (n7 - n') + n') (by omega) (by omega) ?_
  refine cj_callV (M' := mX3_bind) (d' := d') (k' := k') (n' := n') (index := 99) (np := 1) (As := [.int x8]) (rest := []) dX3_function_15 lkX3_99 mwX3_bind hT h1 rfl rfl (Nat.le_of_ble_eq_true rfl) e9 rfl (fun v9 G10 q9 => ?_) hx
  replace h := h v9 G10 q9
  obtain ⟨e8, h⟩ := h
  subst e8
  refine cj_nmk (fun k11 n12 e6 e7 => ?_)
  (try rw [← e6] at h); (try rw [← e7] at h)
  refine cj_st (st' := []) rfl ?_
  obtain ⟨d', k', n', Qr', Qx', h1, h2, h3, hT, hx, h⟩ := h
  refine cj_fewer (k' := (k11 - k') + k') (n' := (n12 - n') + n') (by omega) (by omega) ?_
  refine cj_callS (M' := mX3_label) (d' := d') (k' := k') (n' := n') (index := 103) (np := 0) (As := []) (rest := []) dX3_function_18 lkX3_103 mwX3_label hT h1 rfl rfl (Nat.le_of_ble_eq_true rfl) (fun v9 G14 q13 => ?_) hx
  replace h := h v9 G14 q13
  obtain ⟨x17, e8, h⟩ := h
  subst e8
  refine cj_nmk (fun k15 n16 e6 e7 => ?_)
  (try rw [← e6] at h); (try rw [← e7] at h)
  refine cj_st (st' := [.ref x17]) rfl ?_
  refine cj_pc (pc' := 21) rfl ?_
  refine cj_astore_n (lv' := [(3, .ref x17), (0, .ref o), (1, .ref a1), (2, .ref a2)]) dX3_function_21 (by decide) rfl ?_
  refine cj_aload_n dX3_function_22 rfl ?_
  refine cj_aload_n dX3_function_23 rfl ?_
  refine cj_bipush (v := 9) dX3_function_24 (by decide) ?_
  refine cj_pc (pc' := 26) rfl ?_
  refine cj_aload_n dX3_function_26 rfl ?_
  obtain ⟨⟨fs9, e9⟩, h⟩ := h
  obtain ⟨d', k', n', Qr', Qx', h1, h2, h3, hT, hx, h⟩ := h
  refine cj_fewer (k' := (k15 - k') + k') (n' := (n16 - n') + n') (by omega) (by omega) ?_
  refine cj_callV (M' := mX3_openFunction) (d' := d') (k' := k') (n' := n') (index := 107) (np := 3) (As := [.ref a1, .int 9, .ref x17]) (rest := []) dX3_function_27 lkX3_107 mwX3_openFunction hT h1 rfl rfl (Nat.le_of_ble_eq_true rfl) e9 rfl (fun v9 G19 q18 => ?_) hx
  replace h := h v9 G19 q18
  obtain ⟨e8, h⟩ := h
  subst e8
  refine cj_nmk (fun k20 n21 e6 e7 => ?_)
  (try rw [← e6] at h); (try rw [← e7] at h)
  refine cj_st (st' := []) rfl ?_
  refine cj_aload_n dX3_function_30 rfl ?_
  refine cj_aload_n dX3_function_31 rfl ?_
  refine cj_pc (pc' := 32) rfl ?_
  obtain ⟨⟨fs9, e9⟩, h⟩ := h
  obtain ⟨d', k', n', Qr', Qx', h1, h2, h3, hT, hx, h⟩ := h
  refine cj_fewer (k' := (k20 - k') + k') (n' := (n21 - n') + n') (by omega) (by omega) ?_
  refine cj_callV (M' := mX4_addFirst) (d' := d') (k' := k') (n' := n') (index := 111) (np := 1) (As := [.ref x17]) (rest := []) dX3_function_32 lkX3_111 mwX4_addFirst hT h1 rfl rfl (Nat.le_of_ble_eq_true rfl) e9 rfl (fun v9 G23 q22 => ?_) hx
  replace h := h v9 G23 q22
  obtain ⟨e8, h⟩ := h
  subst e8
  refine cj_nmk (fun k24 n25 e6 e7 => ?_)
  (try rw [← e6] at h); (try rw [← e7] at h)
  refine cj_st (st' := []) rfl ?_
  refine cj_aload_n dX3_function_35 rfl ?_
  obtain ⟨h1, h2, h⟩ := h
  refine cj_fewer (k' := (k24 - 1) + 1) (n' := (n25 - 5) + 5) (by omega) (by omega) ?_
  refine cj_new (ci := 5) (fs := [.int 0, .int 0, .null, .int 0, .null]) rfl uw_X5 tyX5_ok klX3_115.1 klX3_115.2.1 klX3_115.2.2 (by intro j hj; rcases (show j = 0 ∨ j = 1 ∨ j = 2 ∨ j = 3 ∨ j = 4 by omega) with rfl | rfl | rfl | rfl | rfl <;> rfl) dX3_function_36 (fun q26 z9 => ?_)
  replace h := h q26 z9
  refine cj_nm (fun G27 e7 => ?_)
  (try rw [← e7] at h)
  clear e7
  refine cj_nmk (fun k28 n29 e6 e7 => ?_)
  (try rw [← e6] at h); (try rw [← e7] at h)
  refine cj_dup dX3_function_39 rfl ?_
  refine cj_pc (pc' := 40) rfl ?_
  refine cj_bipush (v := 12) dX3_function_40 (by decide) ?_
  refine cj_iconst (v := 0) dX3_function_42 (by decide) ?_
  refine cj_null dX3_function_43 ?_
  obtain ⟨d', k', n', Qr', h1, h2, h3, hT, h⟩ := h
  refine cj_fewer (k' := (k28 - k') + k') (n' := (n29 - n') + n') (by omega) (by omega) ?_
  refine cj_callI (M' := mX5_init) (d' := d') (k' := k') (n' := n') (index := 117) (np := 3) (As := [.int 12, .int 0, .null]) (rest := [.ref q26, .ref a2]) dX3_function_44 lkX3_117 mwX5_init hT h1 rfl rfl (Nat.le_of_ble_eq_true rfl) (fun v9 G31 q30 => ?_)
  replace h := h v9 G31 q30
  obtain ⟨e8, h⟩ := h
  subst e8
  refine cj_nmk (fun k32 n33 e6 e7 => ?_)
  (try rw [← e6] at h); (try rw [← e7] at h)
  refine cj_st (st' := [.ref q26, .ref a2]) rfl ?_
  refine cj_pc (pc' := 47) rfl ?_
  obtain ⟨⟨fs9, e9⟩, h⟩ := h
  obtain ⟨d', k', n', Qr', Qx', h1, h2, h3, hT, hx, h⟩ := h
  refine cj_fewer (k' := (k32 - k') + k') (n' := (n33 - n') + n') (by omega) (by omega) ?_
  refine cj_callV (M' := mX4_addFirst) (d' := d') (k' := k') (n' := n') (index := 111) (np := 1) (As := [.ref q26]) (rest := []) dX3_function_47 lkX3_111 mwX4_addFirst hT h1 rfl rfl (Nat.le_of_ble_eq_true rfl) e9 rfl (fun v9 G35 q34 => ?_) hx
  replace h := h v9 G35 q34
  obtain ⟨e8, h⟩ := h
  subst e8
  refine cj_nmk (fun k36 n37 e6 e7 => ?_)
  (try rw [← e6] at h); (try rw [← e7] at h)
  refine cj_st (st' := []) rfl ?_
  refine cj_vret rfl dX3_function_50 ?_
  exact h
def wq_X3_boundValue (d k n1 : Nat) (o : Nat) (a1 : Nat) (a2 : Nat) (a3 : Int32) (G : cj_G) (Qr : Option Value → cj_G → Prop) (Qx : String → cj_G → Prop) : Prop := (sk_V G o 3 ∧ sk_c_i mX3_takeName d k n1 [.ref o] G Qx (fun x5 G2 k3 n4 => (sk_V G2 o 3 ∧ sk_c_v mX3_expect d k3 n4 [.ref o, .int 61] G2 Qx (fun G7 k8 n9 => (sk_V G7 o 3 ∧ sk_c_r mX3_expression d k8 n9 [.ref o, .int (a3 + 1)] G7 Qx (fun x14 G11 k12 n13 => (sk_V G11 a1 4 ∧ sk_c_v mX4_append d k12 n13 [.ref a1, .ref x14] G11 Qx (fun G16 k17 n18 => (sk_V G16 o 3 ∧ sk_c_v mX3_expect d k17 n18 [.ref o, .int 59] G16 Qx (fun G20 k21 n22 => (sk_V G20 o 3 ∧ sk_c_v mX3_bind d k21 n22 [.ref o, .int x5] G20 Qx (fun G24 k25 n26 => (sk_V G24 a1 4 ∧ sk_c_v mX4_add_ d k25 n26 [.ref a1, .int 14, .int 0] G24 Qx (fun G28 k29 n30 => sk_new G28 k29 n30 5 5 [.int 0, .int 0, .null, .int 0, .null] (fun q31 G32 k33 n34 => (sk_n_v mX5_init d k33 n34 [.ref q31, .int 15, .int 1, .null] G32 (fun G36 k37 n38 => (sk_V G36 a2 4 ∧ sk_c_v mX4_addFirst d k37 n38 [.ref a2, .ref q31] G36 Qx (fun G40 k41 n42 => Qr none G40)))))))))))))))))))
set_option maxHeartbeats 4000000 in
set_option maxRecDepth 100000 in
theorem tq_X3_boundValue {d k n1 : Nat} (hd9 : 6 ≤ d) {o : Nat} {a1 : Nat} {a2 : Nat} {a3 : Int32} {G : cj_G} {Qr : Option Value → cj_G → Prop} {Qx : String → cj_G → Prop} (h : wq_X3_boundValue d k n1 o a1 a2 a3 G Qr Qx) : cj_T mX3_boundValue d k n1 [.ref o, .ref a1, .ref a2, .int a3] G Qr Qx := by
  refine cj_T_of (by decide +kernel) (Nat.le_of_ble_eq_true rfl) ?_
  refine cj_lvs (lv' := [(0, .ref o), (1, .ref a1), (2, .ref a2), (3, .int a3)]) rfl ?_
  unfold wq_X3_boundValue at h
  refine cj_aload_n dX3_boundValue_0 rfl ?_
  obtain ⟨⟨fs9, e9⟩, h⟩ := h
  obtain ⟨d', k', n', Qr', Qx', h1, h2, h3, hT, hx, h⟩ := h
  refine cj_fewer (k' := (k - k') + k') (n' := (n1 - n') + n') (by omega) (by omega) ?_
  refine cj_callV (M' := mX3_takeName) (d' := d') (k' := k') (n' := n') (index := 96) (np := 0) (As := []) (rest := []) dX3_boundValue_1 lkX3_96 mwX3_takeName hT h1 rfl rfl (Nat.le_of_ble_eq_true rfl) e9 rfl (fun v9 G2 q1 => ?_) hx
  replace h := h v9 G2 q1
  obtain ⟨x5, e8, h⟩ := h
  subst e8
  refine cj_nmk (fun k3 n4 e6 e7 => ?_)
  (try rw [← e6] at h); (try rw [← e7] at h)
  refine cj_st (st' := [.int x5]) rfl ?_
  refine cj_istore (lv' := [(4, .int x5), (0, .ref o), (1, .ref a1), (2, .ref a2), (3, .int a3)]) dX3_boundValue_4 (by decide) rfl ?_
  refine cj_pc (pc' := 6) rfl ?_
  refine cj_aload_n dX3_boundValue_6 rfl ?_
  refine cj_bipush (v := 61) dX3_boundValue_7 (by decide) ?_
  obtain ⟨⟨fs9, e9⟩, h⟩ := h
  obtain ⟨d', k', n', Qr', Qx', h1, h2, h3, hT, hx, h⟩ := h
  refine cj_fewer (k' := (k3 - k') + k') (n' := (n4 - n') + n') (by omega) (by omega) ?_
  refine cj_callV (M' := mX3_expect) (d' := d') (k' := k') (n' := n') (index := 120) (np := 1) (As := [.int 61]) (rest := []) dX3_boundValue_9 lkX3_120 mwX3_expect hT h1 rfl rfl (Nat.le_of_ble_eq_true rfl) e9 rfl (fun v9 G7 q6 => ?_) hx
  replace h := h v9 G7 q6
  obtain ⟨e8, h⟩ := h
  subst e8
  refine cj_nmk (fun k8 n9 e6 e7 => ?_)
  (try rw [← e6] at h); (try rw [← e7] at h)
  refine cj_st (st' := []) rfl ?_
  refine cj_aload_n dX3_boundValue_12 rfl ?_
  refine cj_pc (pc' := 13) rfl ?_
  refine cj_aload_n dX3_boundValue_13 rfl ?_
  refine cj_iload_n dX3_boundValue_14 rfl ?_
  refine cj_iconst (v := 1) dX3_boundValue_15 (by decide) ?_
  refine cj_iadd dX3_boundValue_16 ?_
  refine cj_pc (pc' := 17) rfl ?_
  obtain ⟨⟨fs9, e9⟩, h⟩ := h
  obtain ⟨d', k', n', Qr', Qx', h1, h2, h3, hT, hx, h⟩ := h
  refine cj_fewer (k' := (k8 - k') + k') (n' := (n9 - n') + n') (by omega) (by omega) ?_
  refine cj_callV (M' := mX3_expression) (d' := d') (k' := k') (n' := n') (index := 35) (np := 1) (As := [.int (a3 + 1)]) (rest := [.ref a1]) dX3_boundValue_17 lkX3_35 mwX3_expression hT h1 rfl rfl (Nat.le_of_ble_eq_true rfl) e9 rfl (fun v9 G11 q10 => ?_) hx
  replace h := h v9 G11 q10
  obtain ⟨x14, e8, h⟩ := h
  subst e8
  refine cj_nmk (fun k12 n13 e6 e7 => ?_)
  (try rw [← e6] at h); (try rw [← e7] at h)
  refine cj_st (st' := [.ref x14, .ref a1]) rfl ?_
  obtain ⟨⟨fs9, e9⟩, h⟩ := h
  obtain ⟨d', k', n', Qr', Qx', h1, h2, h3, hT, hx, h⟩ := h
  refine cj_fewer (k' := (k12 - k') + k') (n' := (n13 - n') + n') (by omega) (by omega) ?_
  refine cj_callV (M' := mX4_append) (d' := d') (k' := k') (n' := n') (index := 74) (np := 1) (As := [.ref x14]) (rest := []) dX3_boundValue_20 lkX3_74 mwX4_append hT h1 rfl rfl (Nat.le_of_ble_eq_true rfl) e9 rfl (fun v9 G16 q15 => ?_) hx
  replace h := h v9 G16 q15
  obtain ⟨e8, h⟩ := h
  subst e8
  refine cj_nmk (fun k17 n18 e6 e7 => ?_)
  (try rw [← e6] at h); (try rw [← e7] at h)
  refine cj_st (st' := []) rfl ?_
  refine cj_aload_n dX3_boundValue_23 rfl ?_
  refine cj_bipush (v := 59) dX3_boundValue_24 (by decide) ?_
  refine cj_pc (pc' := 26) rfl ?_
  obtain ⟨⟨fs9, e9⟩, h⟩ := h
  obtain ⟨d', k', n', Qr', Qx', h1, h2, h3, hT, hx, h⟩ := h
  refine cj_fewer (k' := (k17 - k') + k') (n' := (n18 - n') + n') (by omega) (by omega) ?_
  refine cj_callV (M' := mX3_expect) (d' := d') (k' := k') (n' := n') (index := 120) (np := 1) (As := [.int 59]) (rest := []) dX3_boundValue_26 lkX3_120 mwX3_expect hT h1 rfl rfl (Nat.le_of_ble_eq_true rfl) e9 rfl (fun v9 G20 q19 => ?_) hx
  replace h := h v9 G20 q19
  obtain ⟨e8, h⟩ := h
  subst e8
  refine cj_nmk (fun k21 n22 e6 e7 => ?_)
  (try rw [← e6] at h); (try rw [← e7] at h)
  refine cj_st (st' := []) rfl ?_
  refine cj_aload_n dX3_boundValue_29 rfl ?_
  refine cj_iload dX3_boundValue_30 rfl ?_
  obtain ⟨⟨fs9, e9⟩, h⟩ := h
  obtain ⟨d', k', n', Qr', Qx', h1, h2, h3, hT, hx, h⟩ := h
  refine cj_fewer (k' := (k21 - k') + k') (n' := (n22 - n') + n') (by omega) (by omega) ?_
  refine cj_callV (M' := mX3_bind) (d' := d') (k' := k') (n' := n') (index := 99) (np := 1) (As := [.int x5]) (rest := []) dX3_boundValue_32 lkX3_99 mwX3_bind hT h1 rfl rfl (Nat.le_of_ble_eq_true rfl) e9 rfl (fun v9 G24 q23 => ?_) hx
  replace h := h v9 G24 q23
  obtain ⟨e8, h⟩ := h
  subst e8
  refine cj_nmk (fun k25 n26 e6 e7 => ?_)
  (try rw [← e6] at h); (try rw [← e7] at h)
  refine cj_st (st' := []) rfl ?_
  refine cj_pc (pc' := 35) rfl ?_
  refine cj_aload_n dX3_boundValue_35 rfl ?_
  refine cj_bipush (v := 14) dX3_boundValue_36 (by decide) ?_
  refine cj_iconst (v := 0) dX3_boundValue_38 (by decide) ?_
  obtain ⟨⟨fs9, e9⟩, h⟩ := h
  obtain ⟨d', k', n', Qr', Qx', h1, h2, h3, hT, hx, h⟩ := h
  refine cj_fewer (k' := (k25 - k') + k') (n' := (n26 - n') + n') (by omega) (by omega) ?_
  refine cj_callV (M' := mX4_add_) (d' := d') (k' := k') (n' := n') (index := 42) (np := 2) (As := [.int 14, .int 0]) (rest := []) dX3_boundValue_39 lkX3_42 mwX4_add_ hT h1 rfl rfl (Nat.le_of_ble_eq_true rfl) e9 rfl (fun v9 G28 q27 => ?_) hx
  replace h := h v9 G28 q27
  obtain ⟨e8, h⟩ := h
  subst e8
  refine cj_nmk (fun k29 n30 e6 e7 => ?_)
  (try rw [← e6] at h); (try rw [← e7] at h)
  refine cj_st (st' := []) rfl ?_
  refine cj_pc (pc' := 42) rfl ?_
  refine cj_aload_n dX3_boundValue_42 rfl ?_
  obtain ⟨h1, h2, h⟩ := h
  refine cj_fewer (k' := (k29 - 1) + 1) (n' := (n30 - 5) + 5) (by omega) (by omega) ?_
  refine cj_new (ci := 5) (fs := [.int 0, .int 0, .null, .int 0, .null]) rfl uw_X5 tyX5_ok klX3_115.1 klX3_115.2.1 klX3_115.2.2 (by intro j hj; rcases (show j = 0 ∨ j = 1 ∨ j = 2 ∨ j = 3 ∨ j = 4 by omega) with rfl | rfl | rfl | rfl | rfl <;> rfl) dX3_boundValue_43 (fun q31 z9 => ?_)
  replace h := h q31 z9
  refine cj_nm (fun G32 e7 => ?_)
  (try rw [← e7] at h)
  clear e7
  refine cj_nmk (fun k33 n34 e6 e7 => ?_)
  (try rw [← e6] at h); (try rw [← e7] at h)
  refine cj_dup dX3_boundValue_46 rfl ?_
  refine cj_bipush (v := 15) dX3_boundValue_47 (by decide) ?_
  refine cj_pc (pc' := 49) rfl ?_
  refine cj_iconst (v := 1) dX3_boundValue_49 (by decide) ?_
  refine cj_null dX3_boundValue_50 ?_
  obtain ⟨d', k', n', Qr', h1, h2, h3, hT, h⟩ := h
  refine cj_fewer (k' := (k33 - k') + k') (n' := (n34 - n') + n') (by omega) (by omega) ?_
  refine cj_callI (M' := mX5_init) (d' := d') (k' := k') (n' := n') (index := 117) (np := 3) (As := [.int 15, .int 1, .null]) (rest := [.ref q31, .ref a2]) dX3_boundValue_51 lkX3_117 mwX5_init hT h1 rfl rfl (Nat.le_of_ble_eq_true rfl) (fun v9 G36 q35 => ?_)
  replace h := h v9 G36 q35
  obtain ⟨e8, h⟩ := h
  subst e8
  refine cj_nmk (fun k37 n38 e6 e7 => ?_)
  (try rw [← e6] at h); (try rw [← e7] at h)
  refine cj_st (st' := [.ref q31, .ref a2]) rfl ?_
  obtain ⟨⟨fs9, e9⟩, h⟩ := h
  obtain ⟨d', k', n', Qr', Qx', h1, h2, h3, hT, hx, h⟩ := h
  refine cj_fewer (k' := (k37 - k') + k') (n' := (n38 - n') + n') (by omega) (by omega) ?_
  refine cj_callV (M' := mX4_addFirst) (d' := d') (k' := k') (n' := n') (index := 111) (np := 1) (As := [.ref q31]) (rest := []) dX3_boundValue_54 lkX3_111 mwX4_addFirst hT h1 rfl rfl (Nat.le_of_ble_eq_true rfl) e9 rfl (fun v9 G40 q39 => ?_) hx
  replace h := h v9 G40 q39
  obtain ⟨e8, h⟩ := h
  subst e8
  refine cj_nmk (fun k41 n42 e6 e7 => ?_)
  (try rw [← e6] at h); (try rw [← e7] at h)
  refine cj_st (st' := []) rfl ?_
  refine cj_pc (pc' := 57) rfl ?_
  refine cj_vret rfl dX3_boundValue_57 ?_
  exact h
def wq_X3_boundFunction (d k n1 : Nat) (o : Nat) (a1 : Nat) (a2 : Nat) (a3 : Int32) (G : cj_G) (Qr : Option Value → cj_G → Prop) (Qx : String → cj_G → Prop) : Prop := sk_gi G o 3 2 (fun x1 => sk_pt G o 3 2 (.int (x1 + 1)) (fun G3 => (sk_V G3 o 3 ∧ sk_c_i mX3_takeName d k n1 [.ref o] G3 Qx (fun x8 G5 k6 n7 => (sk_V G5 o 3 ∧ sk_c_i mX3_peek d k6 n7 [.ref o] G5 Qx (fun x13 G10 k11 n12 => ((¬ x13 = x8 → (sk_V G10 o 3 ∧ sk_c_i mX3_takeName d k11 n12 [.ref o] G10 Qx (fun x19 G16 k17 n18 => (sk_V G16 o 3 ∧ sk_c_v mX3_expect d k17 n18 [.ref o, .int 61] G16 Qx (fun G21 k22 n23 => (sk_V G21 o 3 ∧ sk_c_v mX3_bind d k22 n23 [.ref o, .int x8] G21 Qx (fun G25 k26 n27 => (sk_V G25 o 3 ∧ sk_c_v mX3_bind d k26 n27 [.ref o, .int x19] G25 Qx (fun G29 k30 n31 => (sk_c_r mX3_label d k30 n31 [] G29 Qx (fun x36 G33 k34 n35 => (sk_V G33 o 3 ∧ sk_c_v mX3_openFunction d k34 n35 [.ref o, .ref a1, .int 10, .ref x36] G33 Qx (fun G38 k39 n40 => (sk_V G38 o 3 ∧ sk_c_r mX3_expression d k39 n40 [.ref o, .int (a3 + 1)] G38 Qx (fun x45 G42 k43 n44 => (sk_V G42 a1 4 ∧ sk_c_v mX4_append d k43 n44 [.ref a1, .ref x45] G42 Qx (fun G47 k48 n49 => (sk_V G47 a1 4 ∧ sk_c_v mX4_add_ d k48 n49 [.ref a1, .int 12, .int 0] G47 Qx (fun G51 k52 n53 => (sk_V G51 a1 4 ∧ sk_c_v mX4_add d k52 n53 [.ref a1, .ref x36] G51 Qx (fun G55 k56 n57 => (sk_V G55 o 3 ∧ sk_c_v mX3_expect d k56 n57 [.ref o, .int 59] G55 Qx (fun G59 k60 n61 => sk_gi G59 o 3 4 (fun x62 => sk_pt G59 o 3 4 (.int (x62 - 1)) (fun G64 => (sk_V G64 a1 4 ∧ sk_c_v mX4_add_ d k60 n61 [.ref a1, .int 14, .int 0] G64 Qx (fun G66 k67 n68 => sk_new G66 k67 n68 5 5 [.int 0, .int 0, .null, .int 0, .null] (fun q69 G70 k71 n72 => (sk_n_v mX5_init d k71 n72 [.ref q69, .int 15, .int 1, .null] G70 (fun G74 k75 n76 => (sk_V G74 a2 4 ∧ sk_c_v mX4_addFirst d k75 n76 [.ref a2, .ref q69] G74 Qx (fun G78 k79 n80 => Qr none G78)))))))))))))))))))))))))))))))) ∧ (x13 = x8 → (sk_V G10 o 3 ∧ sk_c_v mX3_refuse d k11 n12 [.ref o] G10 Qx (fun G82 k83 n84 => (sk_V G82 o 3 ∧ sk_c_i mX3_takeName d k83 n84 [.ref o] G82 Qx (fun x89 G86 k87 n88 => (sk_V G86 o 3 ∧ sk_c_v mX3_expect d k87 n88 [.ref o, .int 61] G86 Qx (fun G91 k92 n93 => (sk_V G91 o 3 ∧ sk_c_v mX3_bind d k92 n93 [.ref o, .int x8] G91 Qx (fun G95 k96 n97 => (sk_V G95 o 3 ∧ sk_c_v mX3_bind d k96 n97 [.ref o, .int x89] G95 Qx (fun G99 k100 n101 => (sk_c_r mX3_label d k100 n101 [] G99 Qx (fun x106 G103 k104 n105 => (sk_V G103 o 3 ∧ sk_c_v mX3_openFunction d k104 n105 [.ref o, .ref a1, .int 10, .ref x106] G103 Qx (fun G108 k109 n110 => (sk_V G108 o 3 ∧ sk_c_r mX3_expression d k109 n110 [.ref o, .int (a3 + 1)] G108 Qx (fun x115 G112 k113 n114 => (sk_V G112 a1 4 ∧ sk_c_v mX4_append d k113 n114 [.ref a1, .ref x115] G112 Qx (fun G117 k118 n119 => (sk_V G117 a1 4 ∧ sk_c_v mX4_add_ d k118 n119 [.ref a1, .int 12, .int 0] G117 Qx (fun G121 k122 n123 => (sk_V G121 a1 4 ∧ sk_c_v mX4_add d k122 n123 [.ref a1, .ref x106] G121 Qx (fun G125 k126 n127 => (sk_V G125 o 3 ∧ sk_c_v mX3_expect d k126 n127 [.ref o, .int 59] G125 Qx (fun G129 k130 n131 => sk_gi G129 o 3 4 (fun x132 => sk_pt G129 o 3 4 (.int (x132 - 1)) (fun G134 => (sk_V G134 a1 4 ∧ sk_c_v mX4_add_ d k130 n131 [.ref a1, .int 14, .int 0] G134 Qx (fun G136 k137 n138 => sk_new G136 k137 n138 5 5 [.int 0, .int 0, .null, .int 0, .null] (fun q139 G140 k141 n142 => (sk_n_v mX5_init d k141 n142 [.ref q139, .int 15, .int 1, .null] G140 (fun G144 k145 n146 => (sk_V G144 a2 4 ∧ sk_c_v mX4_addFirst d k145 n146 [.ref a2, .ref q139] G144 Qx (fun G148 k149 n150 => Qr none G148)))))))))))))))))))))))))))))))))))))))))
set_option maxHeartbeats 4000000 in
set_option maxRecDepth 100000 in
theorem tq_X3_boundFunction {d k n1 : Nat} (hd9 : 6 ≤ d) {o : Nat} {a1 : Nat} {a2 : Nat} {a3 : Int32} {G : cj_G} {Qr : Option Value → cj_G → Prop} {Qx : String → cj_G → Prop} (h : wq_X3_boundFunction d k n1 o a1 a2 a3 G Qr Qx) : cj_T mX3_boundFunction d k n1 [.ref o, .ref a1, .ref a2, .int a3] G Qr Qx := by
  refine cj_T_of (by decide +kernel) (Nat.le_of_ble_eq_true rfl) ?_
  refine cj_lvs (lv' := [(0, .ref o), (1, .ref a1), (2, .ref a2), (3, .int a3)]) rfl ?_
  unfold wq_X3_boundFunction at h
  refine cj_aload_n dX3_boundFunction_0 rfl ?_
  refine cj_dup dX3_boundFunction_1 rfl ?_
  obtain ⟨fs9, x1, g2, e9, h⟩ := h
  refine cj_get flX3_19 dX3_boundFunction_2 g2 e9 ?_
  refine cj_pc (pc' := 5) rfl ?_
  refine cj_iconst (v := 1) dX3_boundFunction_5 (by decide) ?_
  refine cj_iadd dX3_boundFunction_6 ?_
  obtain ⟨fs9, e8, e9, h⟩ := h
  refine cj_put flX3_19 dX3_boundFunction_7 e8 rfl rfl e9 ?_
  refine cj_nm (fun G3 e7 => ?_)
  rw [← e7] at h
  clear e7
  refine cj_aload_n dX3_boundFunction_10 rfl ?_
  refine cj_pc (pc' := 11) rfl ?_
  obtain ⟨⟨fs9, e9⟩, h⟩ := h
  obtain ⟨d', k', n', Qr', Qx', h1, h2, h3, hT, hx, h⟩ := h
  refine cj_fewer (k' := (k - k') + k') (n' := (n1 - n') + n') (by omega) (by omega) ?_
  refine cj_callV (M' := mX3_takeName) (d' := d') (k' := k') (n' := n') (index := 96) (np := 0) (As := []) (rest := []) dX3_boundFunction_11 lkX3_96 mwX3_takeName hT h1 rfl rfl (Nat.le_of_ble_eq_true rfl) e9 rfl (fun v9 G5 q4 => ?_) hx
  replace h := h v9 G5 q4
  obtain ⟨x8, e8, h⟩ := h
  subst e8
  refine cj_nmk (fun k6 n7 e6 e7 => ?_)
  (try rw [← e6] at h); (try rw [← e7] at h)
  refine cj_st (st' := [.int x8]) rfl ?_
  refine cj_istore (lv' := [(4, .int x8), (0, .ref o), (1, .ref a1), (2, .ref a2), (3, .int a3)]) dX3_boundFunction_14 (by decide) rfl ?_
  refine cj_aload_n dX3_boundFunction_16 rfl ?_
  obtain ⟨⟨fs9, e9⟩, h⟩ := h
  obtain ⟨d', k', n', Qr', Qx', h1, h2, h3, hT, hx, h⟩ := h
  refine cj_fewer (k' := (k6 - k') + k') (n' := (n7 - n') + n') (by omega) (by omega) ?_
  refine cj_callV (M' := mX3_peek) (d' := d') (k' := k') (n' := n') (index := 64) (np := 0) (As := []) (rest := []) dX3_boundFunction_17 lkX3_64 mwX3_peek hT h1 rfl rfl (Nat.le_of_ble_eq_true rfl) e9 rfl (fun v9 G10 q9 => ?_) hx
  replace h := h v9 G10 q9
  obtain ⟨x13, e8, h⟩ := h
  subst e8
  refine cj_nmk (fun k11 n12 e6 e7 => ?_)
  (try rw [← e6] at h); (try rw [← e7] at h)
  refine cj_st (st' := [.int x13]) rfl ?_
  refine cj_pc (pc' := 20) rfl ?_
  refine cj_iload dX3_boundFunction_20 rfl ?_
  refine cj_icmp_ne (tgt := 29) dX3_boundFunction_22 (by decide) (fun c14 => ?_) (fun c14 => ?_)
  · replace h := h.1 c14
    refine cj_aload_n dX3_boundFunction_29 rfl ?_
    obtain ⟨⟨fs9, e9⟩, h⟩ := h
    obtain ⟨d', k', n', Qr', Qx', h1, h2, h3, hT, hx, h⟩ := h
    refine cj_fewer (k' := (k11 - k') + k') (n' := (n12 - n') + n') (by omega) (by omega) ?_
    refine cj_callV (M' := mX3_takeName) (d' := d') (k' := k') (n' := n') (index := 96) (np := 0) (As := []) (rest := []) dX3_boundFunction_30 lkX3_96 mwX3_takeName hT h1 rfl rfl (Nat.le_of_ble_eq_true rfl) e9 rfl (fun v9 G16 q15 => ?_) hx
    replace h := h v9 G16 q15
    obtain ⟨x19, e8, h⟩ := h
    subst e8
    refine cj_nmk (fun k17 n18 e6 e7 => ?_)
    (try rw [← e6] at h); (try rw [← e7] at h)
    refine cj_st (st' := [.int x19]) rfl ?_
    refine cj_pc (pc' := 33) rfl ?_
    refine cj_istore (lv' := [(5, .int x19), (4, .int x8), (0, .ref o), (1, .ref a1), (2, .ref a2), (3, .int a3)]) dX3_boundFunction_33 (by decide) rfl ?_
    refine cj_aload_n dX3_boundFunction_35 rfl ?_
    refine cj_bipush (v := 61) dX3_boundFunction_36 (by decide) ?_
    obtain ⟨⟨fs9, e9⟩, h⟩ := h
    obtain ⟨d', k', n', Qr', Qx', h1, h2, h3, hT, hx, h⟩ := h
    refine cj_fewer (k' := (k17 - k') + k') (n' := (n18 - n') + n') (by omega) (by omega) ?_
    refine cj_callV (M' := mX3_expect) (d' := d') (k' := k') (n' := n') (index := 120) (np := 1) (As := [.int 61]) (rest := []) dX3_boundFunction_38 lkX3_120 mwX3_expect hT h1 rfl rfl (Nat.le_of_ble_eq_true rfl) e9 rfl (fun v9 G21 q20 => ?_) hx
    replace h := h v9 G21 q20
    obtain ⟨e8, h⟩ := h
    subst e8
    refine cj_nmk (fun k22 n23 e6 e7 => ?_)
    (try rw [← e6] at h); (try rw [← e7] at h)
    refine cj_st (st' := []) rfl ?_
    refine cj_pc (pc' := 41) rfl ?_
    refine cj_aload_n dX3_boundFunction_41 rfl ?_
    refine cj_iload dX3_boundFunction_42 rfl ?_
    obtain ⟨⟨fs9, e9⟩, h⟩ := h
    obtain ⟨d', k', n', Qr', Qx', h1, h2, h3, hT, hx, h⟩ := h
    refine cj_fewer (k' := (k22 - k') + k') (n' := (n23 - n') + n') (by omega) (by omega) ?_
    refine cj_callV (M' := mX3_bind) (d' := d') (k' := k') (n' := n') (index := 99) (np := 1) (As := [.int x8]) (rest := []) dX3_boundFunction_44 lkX3_99 mwX3_bind hT h1 rfl rfl (Nat.le_of_ble_eq_true rfl) e9 rfl (fun v9 G25 q24 => ?_) hx
    replace h := h v9 G25 q24
    obtain ⟨e8, h⟩ := h
    subst e8
    refine cj_nmk (fun k26 n27 e6 e7 => ?_)
    (try rw [← e6] at h); (try rw [← e7] at h)
    refine cj_st (st' := []) rfl ?_
    refine cj_aload_n dX3_boundFunction_47 rfl ?_
    refine cj_pc (pc' := 48) rfl ?_
    refine cj_iload dX3_boundFunction_48 rfl ?_
    obtain ⟨⟨fs9, e9⟩, h⟩ := h
    obtain ⟨d', k', n', Qr', Qx', h1, h2, h3, hT, hx, h⟩ := h
    refine cj_fewer (k' := (k26 - k') + k') (n' := (n27 - n') + n') (by omega) (by omega) ?_
    refine cj_callV (M' := mX3_bind) (d' := d') (k' := k') (n' := n') (index := 99) (np := 1) (As := [.int x19]) (rest := []) dX3_boundFunction_50 lkX3_99 mwX3_bind hT h1 rfl rfl (Nat.le_of_ble_eq_true rfl) e9 rfl (fun v9 G29 q28 => ?_) hx
    replace h := h v9 G29 q28
    obtain ⟨e8, h⟩ := h
    subst e8
    refine cj_nmk (fun k30 n31 e6 e7 => ?_)
    (try rw [← e6] at h); (try rw [← e7] at h)
    refine cj_st (st' := []) rfl ?_
    obtain ⟨d', k', n', Qr', Qx', h1, h2, h3, hT, hx, h⟩ := h
    refine cj_fewer (k' := (k30 - k') + k') (n' := (n31 - n') + n') (by omega) (by omega) ?_
    refine cj_callS (M' := mX3_label) (d' := d') (k' := k') (n' := n') (index := 103) (np := 0) (As := []) (rest := []) dX3_boundFunction_53 lkX3_103 mwX3_label hT h1 rfl rfl (Nat.le_of_ble_eq_true rfl) (fun v9 G33 q32 => ?_) hx
    replace h := h v9 G33 q32
    obtain ⟨x36, e8, h⟩ := h
    subst e8
    refine cj_nmk (fun k34 n35 e6 e7 => ?_)
    (try rw [← e6] at h); (try rw [← e7] at h)
    refine cj_st (st' := [.ref x36]) rfl ?_
    refine cj_astore (lv' := [(6, .ref x36), (5, .int x19), (4, .int x8), (0, .ref o), (1, .ref a1), (2, .ref a2), (3, .int a3)]) dX3_boundFunction_56 (by decide) rfl ?_
    refine cj_pc (pc' := 58) rfl ?_
    refine cj_aload_n dX3_boundFunction_58 rfl ?_
    refine cj_aload_n dX3_boundFunction_59 rfl ?_
    refine cj_bipush (v := 10) dX3_boundFunction_60 (by decide) ?_
    refine cj_aload dX3_boundFunction_62 rfl ?_
    refine cj_pc (pc' := 64) rfl ?_
    obtain ⟨⟨fs9, e9⟩, h⟩ := h
    obtain ⟨d', k', n', Qr', Qx', h1, h2, h3, hT, hx, h⟩ := h
    refine cj_fewer (k' := (k34 - k') + k') (n' := (n35 - n') + n') (by omega) (by omega) ?_
    refine cj_callV (M' := mX3_openFunction) (d' := d') (k' := k') (n' := n') (index := 107) (np := 3) (As := [.ref a1, .int 10, .ref x36]) (rest := []) dX3_boundFunction_64 lkX3_107 mwX3_openFunction hT h1 rfl rfl (Nat.le_of_ble_eq_true rfl) e9 rfl (fun v9 G38 q37 => ?_) hx
    replace h := h v9 G38 q37
    obtain ⟨e8, h⟩ := h
    subst e8
    refine cj_nmk (fun k39 n40 e6 e7 => ?_)
    (try rw [← e6] at h); (try rw [← e7] at h)
    refine cj_st (st' := []) rfl ?_
    refine cj_aload_n dX3_boundFunction_67 rfl ?_
    refine cj_aload_n dX3_boundFunction_68 rfl ?_
    refine cj_iload_n dX3_boundFunction_69 rfl ?_
    refine cj_pc (pc' := 70) rfl ?_
    refine cj_iconst (v := 1) dX3_boundFunction_70 (by decide) ?_
    refine cj_iadd dX3_boundFunction_71 ?_
    obtain ⟨⟨fs9, e9⟩, h⟩ := h
    obtain ⟨d', k', n', Qr', Qx', h1, h2, h3, hT, hx, h⟩ := h
    refine cj_fewer (k' := (k39 - k') + k') (n' := (n40 - n') + n') (by omega) (by omega) ?_
    refine cj_callV (M' := mX3_expression) (d' := d') (k' := k') (n' := n') (index := 35) (np := 1) (As := [.int (a3 + 1)]) (rest := [.ref a1]) dX3_boundFunction_72 lkX3_35 mwX3_expression hT h1 rfl rfl (Nat.le_of_ble_eq_true rfl) e9 rfl (fun v9 G42 q41 => ?_) hx
    replace h := h v9 G42 q41
    obtain ⟨x45, e8, h⟩ := h
    subst e8
    refine cj_nmk (fun k43 n44 e6 e7 => ?_)
    (try rw [← e6] at h); (try rw [← e7] at h)
    refine cj_st (st' := [.ref x45, .ref a1]) rfl ?_
    obtain ⟨⟨fs9, e9⟩, h⟩ := h
    obtain ⟨d', k', n', Qr', Qx', h1, h2, h3, hT, hx, h⟩ := h
    refine cj_fewer (k' := (k43 - k') + k') (n' := (n44 - n') + n') (by omega) (by omega) ?_
    refine cj_callV (M' := mX4_append) (d' := d') (k' := k') (n' := n') (index := 74) (np := 1) (As := [.ref x45]) (rest := []) dX3_boundFunction_75 lkX3_74 mwX4_append hT h1 rfl rfl (Nat.le_of_ble_eq_true rfl) e9 rfl (fun v9 G47 q46 => ?_) hx
    replace h := h v9 G47 q46
    obtain ⟨e8, h⟩ := h
    subst e8
    refine cj_nmk (fun k48 n49 e6 e7 => ?_)
    (try rw [← e6] at h); (try rw [← e7] at h)
    refine cj_st (st' := []) rfl ?_
    refine cj_pc (pc' := 78) rfl ?_
    refine cj_aload_n dX3_boundFunction_78 rfl ?_
    refine cj_bipush (v := 12) dX3_boundFunction_79 (by decide) ?_
    refine cj_iconst (v := 0) dX3_boundFunction_81 (by decide) ?_
    obtain ⟨⟨fs9, e9⟩, h⟩ := h
    obtain ⟨d', k', n', Qr', Qx', h1, h2, h3, hT, hx, h⟩ := h
    refine cj_fewer (k' := (k48 - k') + k') (n' := (n49 - n') + n') (by omega) (by omega) ?_
    refine cj_callV (M' := mX4_add_) (d' := d') (k' := k') (n' := n') (index := 42) (np := 2) (As := [.int 12, .int 0]) (rest := []) dX3_boundFunction_82 lkX3_42 mwX4_add_ hT h1 rfl rfl (Nat.le_of_ble_eq_true rfl) e9 rfl (fun v9 G51 q50 => ?_) hx
    replace h := h v9 G51 q50
    obtain ⟨e8, h⟩ := h
    subst e8
    refine cj_nmk (fun k52 n53 e6 e7 => ?_)
    (try rw [← e6] at h); (try rw [← e7] at h)
    refine cj_st (st' := []) rfl ?_
    refine cj_pc (pc' := 85) rfl ?_
    refine cj_aload_n dX3_boundFunction_85 rfl ?_
    refine cj_aload dX3_boundFunction_86 rfl ?_
    obtain ⟨⟨fs9, e9⟩, h⟩ := h
    obtain ⟨d', k', n', Qr', Qx', h1, h2, h3, hT, hx, h⟩ := h
    refine cj_fewer (k' := (k52 - k') + k') (n' := (n53 - n') + n') (by omega) (by omega) ?_
    refine cj_callV (M' := mX4_add) (d' := d') (k' := k') (n' := n') (index := 123) (np := 1) (As := [.ref x36]) (rest := []) dX3_boundFunction_88 lkX3_123 mwX4_add hT h1 rfl rfl (Nat.le_of_ble_eq_true rfl) e9 rfl (fun v9 G55 q54 => ?_) hx
    replace h := h v9 G55 q54
    obtain ⟨e8, h⟩ := h
    subst e8
    refine cj_nmk (fun k56 n57 e6 e7 => ?_)
    (try rw [← e6] at h); (try rw [← e7] at h)
    refine cj_st (st' := []) rfl ?_
    refine cj_aload_n dX3_boundFunction_91 rfl ?_
    refine cj_pc (pc' := 92) rfl ?_
    refine cj_bipush (v := 59) dX3_boundFunction_92 (by decide) ?_
    obtain ⟨⟨fs9, e9⟩, h⟩ := h
    obtain ⟨d', k', n', Qr', Qx', h1, h2, h3, hT, hx, h⟩ := h
    refine cj_fewer (k' := (k56 - k') + k') (n' := (n57 - n') + n') (by omega) (by omega) ?_
    refine cj_callV (M' := mX3_expect) (d' := d') (k' := k') (n' := n') (index := 120) (np := 1) (As := [.int 59]) (rest := []) dX3_boundFunction_94 lkX3_120 mwX3_expect hT h1 rfl rfl (Nat.le_of_ble_eq_true rfl) e9 rfl (fun v9 G59 q58 => ?_) hx
    replace h := h v9 G59 q58
    obtain ⟨e8, h⟩ := h
    subst e8
    refine cj_nmk (fun k60 n61 e6 e7 => ?_)
    (try rw [← e6] at h); (try rw [← e7] at h)
    refine cj_st (st' := []) rfl ?_
    refine cj_aload_n dX3_boundFunction_97 rfl ?_
    refine cj_dup dX3_boundFunction_98 rfl ?_
    refine cj_pc (pc' := 99) rfl ?_
    obtain ⟨fs9, x62, g63, e9, h⟩ := h
    refine cj_get flX3_25 dX3_boundFunction_99 g63 e9 ?_
    refine cj_iconst (v := 1) dX3_boundFunction_102 (by decide) ?_
    refine cj_isub dX3_boundFunction_103 ?_
    obtain ⟨fs9, e8, e9, h⟩ := h
    refine cj_put flX3_25 dX3_boundFunction_104 e8 rfl rfl e9 ?_
    refine cj_nm (fun G64 e7 => ?_)
    rw [← e7] at h
    clear e7
    refine cj_pc (pc' := 107) rfl ?_
    refine cj_aload_n dX3_boundFunction_107 rfl ?_
    refine cj_bipush (v := 14) dX3_boundFunction_108 (by decide) ?_
    refine cj_iconst (v := 0) dX3_boundFunction_110 (by decide) ?_
    obtain ⟨⟨fs9, e9⟩, h⟩ := h
    obtain ⟨d', k', n', Qr', Qx', h1, h2, h3, hT, hx, h⟩ := h
    refine cj_fewer (k' := (k60 - k') + k') (n' := (n61 - n') + n') (by omega) (by omega) ?_
    refine cj_callV (M' := mX4_add_) (d' := d') (k' := k') (n' := n') (index := 42) (np := 2) (As := [.int 14, .int 0]) (rest := []) dX3_boundFunction_111 lkX3_42 mwX4_add_ hT h1 rfl rfl (Nat.le_of_ble_eq_true rfl) e9 rfl (fun v9 G66 q65 => ?_) hx
    replace h := h v9 G66 q65
    obtain ⟨e8, h⟩ := h
    subst e8
    refine cj_nmk (fun k67 n68 e6 e7 => ?_)
    (try rw [← e6] at h); (try rw [← e7] at h)
    refine cj_st (st' := []) rfl ?_
    refine cj_pc (pc' := 114) rfl ?_
    refine cj_aload_n dX3_boundFunction_114 rfl ?_
    obtain ⟨h1, h2, h⟩ := h
    refine cj_fewer (k' := (k67 - 1) + 1) (n' := (n68 - 5) + 5) (by omega) (by omega) ?_
    refine cj_new (ci := 5) (fs := [.int 0, .int 0, .null, .int 0, .null]) rfl uw_X5 tyX5_ok klX3_115.1 klX3_115.2.1 klX3_115.2.2 (by intro j hj; rcases (show j = 0 ∨ j = 1 ∨ j = 2 ∨ j = 3 ∨ j = 4 by omega) with rfl | rfl | rfl | rfl | rfl <;> rfl) dX3_boundFunction_115 (fun q69 z9 => ?_)
    replace h := h q69 z9
    refine cj_nm (fun G70 e7 => ?_)
    (try rw [← e7] at h)
    clear e7
    refine cj_nmk (fun k71 n72 e6 e7 => ?_)
    (try rw [← e6] at h); (try rw [← e7] at h)
    refine cj_dup dX3_boundFunction_118 rfl ?_
    refine cj_bipush (v := 15) dX3_boundFunction_119 (by decide) ?_
    refine cj_pc (pc' := 121) rfl ?_
    refine cj_iconst (v := 1) dX3_boundFunction_121 (by decide) ?_
    refine cj_null dX3_boundFunction_122 ?_
    obtain ⟨d', k', n', Qr', h1, h2, h3, hT, h⟩ := h
    refine cj_fewer (k' := (k71 - k') + k') (n' := (n72 - n') + n') (by omega) (by omega) ?_
    refine cj_callI (M' := mX5_init) (d' := d') (k' := k') (n' := n') (index := 117) (np := 3) (As := [.int 15, .int 1, .null]) (rest := [.ref q69, .ref a2]) dX3_boundFunction_123 lkX3_117 mwX5_init hT h1 rfl rfl (Nat.le_of_ble_eq_true rfl) (fun v9 G74 q73 => ?_)
    replace h := h v9 G74 q73
    obtain ⟨e8, h⟩ := h
    subst e8
    refine cj_nmk (fun k75 n76 e6 e7 => ?_)
    (try rw [← e6] at h); (try rw [← e7] at h)
    refine cj_st (st' := [.ref q69, .ref a2]) rfl ?_
    obtain ⟨⟨fs9, e9⟩, h⟩ := h
    obtain ⟨d', k', n', Qr', Qx', h1, h2, h3, hT, hx, h⟩ := h
    refine cj_fewer (k' := (k75 - k') + k') (n' := (n76 - n') + n') (by omega) (by omega) ?_
    refine cj_callV (M' := mX4_addFirst) (d' := d') (k' := k') (n' := n') (index := 111) (np := 1) (As := [.ref q69]) (rest := []) dX3_boundFunction_126 lkX3_111 mwX4_addFirst hT h1 rfl rfl (Nat.le_of_ble_eq_true rfl) e9 rfl (fun v9 G78 q77 => ?_) hx
    replace h := h v9 G78 q77
    obtain ⟨e8, h⟩ := h
    subst e8
    refine cj_nmk (fun k79 n80 e6 e7 => ?_)
    (try rw [← e6] at h); (try rw [← e7] at h)
    refine cj_st (st' := []) rfl ?_
    refine cj_pc (pc' := 129) rfl ?_
    refine cj_vret rfl dX3_boundFunction_129 ?_
    exact h
  · replace h := h.2 c14
    refine cj_aload_n dX3_boundFunction_25 rfl ?_
    obtain ⟨⟨fs9, e9⟩, h⟩ := h
    obtain ⟨d', k', n', Qr', Qx', h1, h2, h3, hT, hx, h⟩ := h
    refine cj_fewer (k' := (k11 - k') + k') (n' := (n12 - n') + n') (by omega) (by omega) ?_
    refine cj_callV (M' := mX3_refuse) (d' := d') (k' := k') (n' := n') (index := 39) (np := 0) (As := []) (rest := []) dX3_boundFunction_26 lkX3_39 mwX3_refuse hT h1 rfl rfl (Nat.le_of_ble_eq_true rfl) e9 rfl (fun v9 G82 q81 => ?_) hx
    replace h := h v9 G82 q81
    obtain ⟨e8, h⟩ := h
    subst e8
    refine cj_nmk (fun k83 n84 e6 e7 => ?_)
    (try rw [← e6] at h); (try rw [← e7] at h)
    refine cj_st (st' := []) rfl ?_
    refine cj_aload_n dX3_boundFunction_29 rfl ?_
    refine cj_pc (pc' := 30) rfl ?_
    obtain ⟨⟨fs9, e9⟩, h⟩ := h
    obtain ⟨d', k', n', Qr', Qx', h1, h2, h3, hT, hx, h⟩ := h
    refine cj_fewer (k' := (k83 - k') + k') (n' := (n84 - n') + n') (by omega) (by omega) ?_
    refine cj_callV (M' := mX3_takeName) (d' := d') (k' := k') (n' := n') (index := 96) (np := 0) (As := []) (rest := []) dX3_boundFunction_30 lkX3_96 mwX3_takeName hT h1 rfl rfl (Nat.le_of_ble_eq_true rfl) e9 rfl (fun v9 G86 q85 => ?_) hx
    replace h := h v9 G86 q85
    obtain ⟨x89, e8, h⟩ := h
    subst e8
    refine cj_nmk (fun k87 n88 e6 e7 => ?_)
    (try rw [← e6] at h); (try rw [← e7] at h)
    refine cj_st (st' := [.int x89]) rfl ?_
    refine cj_istore (lv' := [(5, .int x89), (4, .int x8), (0, .ref o), (1, .ref a1), (2, .ref a2), (3, .int a3)]) dX3_boundFunction_33 (by decide) rfl ?_
    refine cj_aload_n dX3_boundFunction_35 rfl ?_
    refine cj_bipush (v := 61) dX3_boundFunction_36 (by decide) ?_
    refine cj_pc (pc' := 38) rfl ?_
    obtain ⟨⟨fs9, e9⟩, h⟩ := h
    obtain ⟨d', k', n', Qr', Qx', h1, h2, h3, hT, hx, h⟩ := h
    refine cj_fewer (k' := (k87 - k') + k') (n' := (n88 - n') + n') (by omega) (by omega) ?_
    refine cj_callV (M' := mX3_expect) (d' := d') (k' := k') (n' := n') (index := 120) (np := 1) (As := [.int 61]) (rest := []) dX3_boundFunction_38 lkX3_120 mwX3_expect hT h1 rfl rfl (Nat.le_of_ble_eq_true rfl) e9 rfl (fun v9 G91 q90 => ?_) hx
    replace h := h v9 G91 q90
    obtain ⟨e8, h⟩ := h
    subst e8
    refine cj_nmk (fun k92 n93 e6 e7 => ?_)
    (try rw [← e6] at h); (try rw [← e7] at h)
    refine cj_st (st' := []) rfl ?_
    refine cj_aload_n dX3_boundFunction_41 rfl ?_
    refine cj_iload dX3_boundFunction_42 rfl ?_
    obtain ⟨⟨fs9, e9⟩, h⟩ := h
    obtain ⟨d', k', n', Qr', Qx', h1, h2, h3, hT, hx, h⟩ := h
    refine cj_fewer (k' := (k92 - k') + k') (n' := (n93 - n') + n') (by omega) (by omega) ?_
    refine cj_callV (M' := mX3_bind) (d' := d') (k' := k') (n' := n') (index := 99) (np := 1) (As := [.int x8]) (rest := []) dX3_boundFunction_44 lkX3_99 mwX3_bind hT h1 rfl rfl (Nat.le_of_ble_eq_true rfl) e9 rfl (fun v9 G95 q94 => ?_) hx
    replace h := h v9 G95 q94
    obtain ⟨e8, h⟩ := h
    subst e8
    refine cj_nmk (fun k96 n97 e6 e7 => ?_)
    (try rw [← e6] at h); (try rw [← e7] at h)
    refine cj_st (st' := []) rfl ?_
    refine cj_pc (pc' := 47) rfl ?_
    refine cj_aload_n dX3_boundFunction_47 rfl ?_
    refine cj_iload dX3_boundFunction_48 rfl ?_
    obtain ⟨⟨fs9, e9⟩, h⟩ := h
    obtain ⟨d', k', n', Qr', Qx', h1, h2, h3, hT, hx, h⟩ := h
    refine cj_fewer (k' := (k96 - k') + k') (n' := (n97 - n') + n') (by omega) (by omega) ?_
    refine cj_callV (M' := mX3_bind) (d' := d') (k' := k') (n' := n') (index := 99) (np := 1) (As := [.int x89]) (rest := []) dX3_boundFunction_50 lkX3_99 mwX3_bind hT h1 rfl rfl (Nat.le_of_ble_eq_true rfl) e9 rfl (fun v9 G99 q98 => ?_) hx
    replace h := h v9 G99 q98
    obtain ⟨e8, h⟩ := h
    subst e8
    refine cj_nmk (fun k100 n101 e6 e7 => ?_)
    (try rw [← e6] at h); (try rw [← e7] at h)
    refine cj_st (st' := []) rfl ?_
    obtain ⟨d', k', n', Qr', Qx', h1, h2, h3, hT, hx, h⟩ := h
    refine cj_fewer (k' := (k100 - k') + k') (n' := (n101 - n') + n') (by omega) (by omega) ?_
    refine cj_callS (M' := mX3_label) (d' := d') (k' := k') (n' := n') (index := 103) (np := 0) (As := []) (rest := []) dX3_boundFunction_53 lkX3_103 mwX3_label hT h1 rfl rfl (Nat.le_of_ble_eq_true rfl) (fun v9 G103 q102 => ?_) hx
    replace h := h v9 G103 q102
    obtain ⟨x106, e8, h⟩ := h
    subst e8
    refine cj_nmk (fun k104 n105 e6 e7 => ?_)
    (try rw [← e6] at h); (try rw [← e7] at h)
    refine cj_st (st' := [.ref x106]) rfl ?_
    refine cj_pc (pc' := 56) rfl ?_
    refine cj_astore (lv' := [(6, .ref x106), (5, .int x89), (4, .int x8), (0, .ref o), (1, .ref a1), (2, .ref a2), (3, .int a3)]) dX3_boundFunction_56 (by decide) rfl ?_
    refine cj_aload_n dX3_boundFunction_58 rfl ?_
    refine cj_aload_n dX3_boundFunction_59 rfl ?_
    refine cj_bipush (v := 10) dX3_boundFunction_60 (by decide) ?_
    refine cj_pc (pc' := 62) rfl ?_
    refine cj_aload dX3_boundFunction_62 rfl ?_
    obtain ⟨⟨fs9, e9⟩, h⟩ := h
    obtain ⟨d', k', n', Qr', Qx', h1, h2, h3, hT, hx, h⟩ := h
    refine cj_fewer (k' := (k104 - k') + k') (n' := (n105 - n') + n') (by omega) (by omega) ?_
    refine cj_callV (M' := mX3_openFunction) (d' := d') (k' := k') (n' := n') (index := 107) (np := 3) (As := [.ref a1, .int 10, .ref x106]) (rest := []) dX3_boundFunction_64 lkX3_107 mwX3_openFunction hT h1 rfl rfl (Nat.le_of_ble_eq_true rfl) e9 rfl (fun v9 G108 q107 => ?_) hx
    replace h := h v9 G108 q107
    obtain ⟨e8, h⟩ := h
    subst e8
    refine cj_nmk (fun k109 n110 e6 e7 => ?_)
    (try rw [← e6] at h); (try rw [← e7] at h)
    refine cj_st (st' := []) rfl ?_
    refine cj_aload_n dX3_boundFunction_67 rfl ?_
    refine cj_aload_n dX3_boundFunction_68 rfl ?_
    refine cj_pc (pc' := 69) rfl ?_
    refine cj_iload_n dX3_boundFunction_69 rfl ?_
    refine cj_iconst (v := 1) dX3_boundFunction_70 (by decide) ?_
    refine cj_iadd dX3_boundFunction_71 ?_
    obtain ⟨⟨fs9, e9⟩, h⟩ := h
    obtain ⟨d', k', n', Qr', Qx', h1, h2, h3, hT, hx, h⟩ := h
    refine cj_fewer (k' := (k109 - k') + k') (n' := (n110 - n') + n') (by omega) (by omega) ?_
    refine cj_callV (M' := mX3_expression) (d' := d') (k' := k') (n' := n') (index := 35) (np := 1) (As := [.int (a3 + 1)]) (rest := [.ref a1]) dX3_boundFunction_72 lkX3_35 mwX3_expression hT h1 rfl rfl (Nat.le_of_ble_eq_true rfl) e9 rfl (fun v9 G112 q111 => ?_) hx
    replace h := h v9 G112 q111
    obtain ⟨x115, e8, h⟩ := h
    subst e8
    refine cj_nmk (fun k113 n114 e6 e7 => ?_)
    (try rw [← e6] at h); (try rw [← e7] at h)
    refine cj_st (st' := [.ref x115, .ref a1]) rfl ?_
    refine cj_pc (pc' := 75) rfl ?_
    obtain ⟨⟨fs9, e9⟩, h⟩ := h
    obtain ⟨d', k', n', Qr', Qx', h1, h2, h3, hT, hx, h⟩ := h
    refine cj_fewer (k' := (k113 - k') + k') (n' := (n114 - n') + n') (by omega) (by omega) ?_
    refine cj_callV (M' := mX4_append) (d' := d') (k' := k') (n' := n') (index := 74) (np := 1) (As := [.ref x115]) (rest := []) dX3_boundFunction_75 lkX3_74 mwX4_append hT h1 rfl rfl (Nat.le_of_ble_eq_true rfl) e9 rfl (fun v9 G117 q116 => ?_) hx
    replace h := h v9 G117 q116
    obtain ⟨e8, h⟩ := h
    subst e8
    refine cj_nmk (fun k118 n119 e6 e7 => ?_)
    (try rw [← e6] at h); (try rw [← e7] at h)
    refine cj_st (st' := []) rfl ?_
    refine cj_aload_n dX3_boundFunction_78 rfl ?_
    refine cj_bipush (v := 12) dX3_boundFunction_79 (by decide) ?_
    refine cj_iconst (v := 0) dX3_boundFunction_81 (by decide) ?_
    refine cj_pc (pc' := 82) rfl ?_
    obtain ⟨⟨fs9, e9⟩, h⟩ := h
    obtain ⟨d', k', n', Qr', Qx', h1, h2, h3, hT, hx, h⟩ := h
    refine cj_fewer (k' := (k118 - k') + k') (n' := (n119 - n') + n') (by omega) (by omega) ?_
    refine cj_callV (M' := mX4_add_) (d' := d') (k' := k') (n' := n') (index := 42) (np := 2) (As := [.int 12, .int 0]) (rest := []) dX3_boundFunction_82 lkX3_42 mwX4_add_ hT h1 rfl rfl (Nat.le_of_ble_eq_true rfl) e9 rfl (fun v9 G121 q120 => ?_) hx
    replace h := h v9 G121 q120
    obtain ⟨e8, h⟩ := h
    subst e8
    refine cj_nmk (fun k122 n123 e6 e7 => ?_)
    (try rw [← e6] at h); (try rw [← e7] at h)
    refine cj_st (st' := []) rfl ?_
    refine cj_aload_n dX3_boundFunction_85 rfl ?_
    refine cj_aload dX3_boundFunction_86 rfl ?_
    obtain ⟨⟨fs9, e9⟩, h⟩ := h
    obtain ⟨d', k', n', Qr', Qx', h1, h2, h3, hT, hx, h⟩ := h
    refine cj_fewer (k' := (k122 - k') + k') (n' := (n123 - n') + n') (by omega) (by omega) ?_
    refine cj_callV (M' := mX4_add) (d' := d') (k' := k') (n' := n') (index := 123) (np := 1) (As := [.ref x106]) (rest := []) dX3_boundFunction_88 lkX3_123 mwX4_add hT h1 rfl rfl (Nat.le_of_ble_eq_true rfl) e9 rfl (fun v9 G125 q124 => ?_) hx
    replace h := h v9 G125 q124
    obtain ⟨e8, h⟩ := h
    subst e8
    refine cj_nmk (fun k126 n127 e6 e7 => ?_)
    (try rw [← e6] at h); (try rw [← e7] at h)
    refine cj_st (st' := []) rfl ?_
    refine cj_pc (pc' := 91) rfl ?_
    refine cj_aload_n dX3_boundFunction_91 rfl ?_
    refine cj_bipush (v := 59) dX3_boundFunction_92 (by decide) ?_
    obtain ⟨⟨fs9, e9⟩, h⟩ := h
    obtain ⟨d', k', n', Qr', Qx', h1, h2, h3, hT, hx, h⟩ := h
    refine cj_fewer (k' := (k126 - k') + k') (n' := (n127 - n') + n') (by omega) (by omega) ?_
    refine cj_callV (M' := mX3_expect) (d' := d') (k' := k') (n' := n') (index := 120) (np := 1) (As := [.int 59]) (rest := []) dX3_boundFunction_94 lkX3_120 mwX3_expect hT h1 rfl rfl (Nat.le_of_ble_eq_true rfl) e9 rfl (fun v9 G129 q128 => ?_) hx
    replace h := h v9 G129 q128
    obtain ⟨e8, h⟩ := h
    subst e8
    refine cj_nmk (fun k130 n131 e6 e7 => ?_)
    (try rw [← e6] at h); (try rw [← e7] at h)
    refine cj_st (st' := []) rfl ?_
    refine cj_aload_n dX3_boundFunction_97 rfl ?_
    refine cj_pc (pc' := 98) rfl ?_
    refine cj_dup dX3_boundFunction_98 rfl ?_
    obtain ⟨fs9, x132, g133, e9, h⟩ := h
    refine cj_get flX3_25 dX3_boundFunction_99 g133 e9 ?_
    refine cj_iconst (v := 1) dX3_boundFunction_102 (by decide) ?_
    refine cj_isub dX3_boundFunction_103 ?_
    refine cj_pc (pc' := 104) rfl ?_
    obtain ⟨fs9, e8, e9, h⟩ := h
    refine cj_put flX3_25 dX3_boundFunction_104 e8 rfl rfl e9 ?_
    refine cj_nm (fun G134 e7 => ?_)
    rw [← e7] at h
    clear e7
    refine cj_aload_n dX3_boundFunction_107 rfl ?_
    refine cj_bipush (v := 14) dX3_boundFunction_108 (by decide) ?_
    refine cj_iconst (v := 0) dX3_boundFunction_110 (by decide) ?_
    refine cj_pc (pc' := 111) rfl ?_
    obtain ⟨⟨fs9, e9⟩, h⟩ := h
    obtain ⟨d', k', n', Qr', Qx', h1, h2, h3, hT, hx, h⟩ := h
    refine cj_fewer (k' := (k130 - k') + k') (n' := (n131 - n') + n') (by omega) (by omega) ?_
    refine cj_callV (M' := mX4_add_) (d' := d') (k' := k') (n' := n') (index := 42) (np := 2) (As := [.int 14, .int 0]) (rest := []) dX3_boundFunction_111 lkX3_42 mwX4_add_ hT h1 rfl rfl (Nat.le_of_ble_eq_true rfl) e9 rfl (fun v9 G136 q135 => ?_) hx
    replace h := h v9 G136 q135
    obtain ⟨e8, h⟩ := h
    subst e8
    refine cj_nmk (fun k137 n138 e6 e7 => ?_)
    (try rw [← e6] at h); (try rw [← e7] at h)
    refine cj_st (st' := []) rfl ?_
    refine cj_aload_n dX3_boundFunction_114 rfl ?_
    obtain ⟨h1, h2, h⟩ := h
    refine cj_fewer (k' := (k137 - 1) + 1) (n' := (n138 - 5) + 5) (by omega) (by omega) ?_
    refine cj_new (ci := 5) (fs := [.int 0, .int 0, .null, .int 0, .null]) rfl uw_X5 tyX5_ok klX3_115.1 klX3_115.2.1 klX3_115.2.2 (by intro j hj; rcases (show j = 0 ∨ j = 1 ∨ j = 2 ∨ j = 3 ∨ j = 4 by omega) with rfl | rfl | rfl | rfl | rfl <;> rfl) dX3_boundFunction_115 (fun q139 z9 => ?_)
    replace h := h q139 z9
    refine cj_nm (fun G140 e7 => ?_)
    (try rw [← e7] at h)
    clear e7
    refine cj_nmk (fun k141 n142 e6 e7 => ?_)
    (try rw [← e6] at h); (try rw [← e7] at h)
    refine cj_dup dX3_boundFunction_118 rfl ?_
    refine cj_pc (pc' := 119) rfl ?_
    refine cj_bipush (v := 15) dX3_boundFunction_119 (by decide) ?_
    refine cj_iconst (v := 1) dX3_boundFunction_121 (by decide) ?_
    refine cj_null dX3_boundFunction_122 ?_
    obtain ⟨d', k', n', Qr', h1, h2, h3, hT, h⟩ := h
    refine cj_fewer (k' := (k141 - k') + k') (n' := (n142 - n') + n') (by omega) (by omega) ?_
    refine cj_callI (M' := mX5_init) (d' := d') (k' := k') (n' := n') (index := 117) (np := 3) (As := [.int 15, .int 1, .null]) (rest := [.ref q139, .ref a2]) dX3_boundFunction_123 lkX3_117 mwX5_init hT h1 rfl rfl (Nat.le_of_ble_eq_true rfl) (fun v9 G144 q143 => ?_)
    replace h := h v9 G144 q143
    obtain ⟨e8, h⟩ := h
    subst e8
    refine cj_nmk (fun k145 n146 e6 e7 => ?_)
    (try rw [← e6] at h); (try rw [← e7] at h)
    refine cj_st (st' := [.ref q139, .ref a2]) rfl ?_
    refine cj_pc (pc' := 126) rfl ?_
    obtain ⟨⟨fs9, e9⟩, h⟩ := h
    obtain ⟨d', k', n', Qr', Qx', h1, h2, h3, hT, hx, h⟩ := h
    refine cj_fewer (k' := (k145 - k') + k') (n' := (n146 - n') + n') (by omega) (by omega) ?_
    refine cj_callV (M' := mX4_addFirst) (d' := d') (k' := k') (n' := n') (index := 111) (np := 1) (As := [.ref q139]) (rest := []) dX3_boundFunction_126 lkX3_111 mwX4_addFirst hT h1 rfl rfl (Nat.le_of_ble_eq_true rfl) e9 rfl (fun v9 G148 q147 => ?_) hx
    replace h := h v9 G148 q147
    obtain ⟨e8, h⟩ := h
    subst e8
    refine cj_nmk (fun k149 n150 e6 e7 => ?_)
    (try rw [← e6] at h); (try rw [← e7] at h)
    refine cj_st (st' := []) rfl ?_
    refine cj_vret rfl dX3_boundFunction_129 ?_
    exact h
def wq_X3_head (d k n1 : Nat) (o : Nat) (a1 : Nat) (a2 : Nat) (a3 : Int32) (G : cj_G) (Qr : Option Value → cj_G → Prop) (Qx : String → cj_G → Prop) : Prop := (sk_V G o 3 ∧ sk_c_i mX3_peek d k n1 [.ref o] G Qx (fun x5 G2 k3 n4 => ((¬ x5 = 92 → ((¬ x5 = 64 → (sk_V G2 o 3 ∧ sk_c_v mX3_boundValue d k3 n4 [.ref o, .ref a1, .ref a2, .int a3] G2 Qx (fun G9 k10 n11 => Qr none G9))) ∧ (x5 = 64 → (sk_V G2 o 3 ∧ sk_c_v mX3_boundFunction d k3 n4 [.ref o, .ref a1, .ref a2, .int a3] G2 Qx (fun G13 k14 n15 => Qr none G13))))) ∧ (x5 = 92 → (sk_V G2 o 3 ∧ sk_c_v mX3_function d k3 n4 [.ref o, .ref a1, .ref a2] G2 Qx (fun G17 k18 n19 => Qr none G17))))))
set_option maxHeartbeats 4000000 in
set_option maxRecDepth 100000 in
theorem tq_X3_head {d k n1 : Nat} (hd9 : 6 ≤ d) {o : Nat} {a1 : Nat} {a2 : Nat} {a3 : Int32} {G : cj_G} {Qr : Option Value → cj_G → Prop} {Qx : String → cj_G → Prop} (h : wq_X3_head d k n1 o a1 a2 a3 G Qr Qx) : cj_T mX3_head d k n1 [.ref o, .ref a1, .ref a2, .int a3] G Qr Qx := by
  refine cj_T_of (by decide +kernel) (Nat.le_of_ble_eq_true rfl) ?_
  refine cj_lvs (lv' := [(0, .ref o), (1, .ref a1), (2, .ref a2), (3, .int a3)]) rfl ?_
  unfold wq_X3_head at h
  refine cj_aload_n dX3_head_0 rfl ?_
  obtain ⟨⟨fs9, e9⟩, h⟩ := h
  obtain ⟨d', k', n', Qr', Qx', h1, h2, h3, hT, hx, h⟩ := h
  refine cj_fewer (k' := (k - k') + k') (n' := (n1 - n') + n') (by omega) (by omega) ?_
  refine cj_callV (M' := mX3_peek) (d' := d') (k' := k') (n' := n') (index := 64) (np := 0) (As := []) (rest := []) dX3_head_1 lkX3_64 mwX3_peek hT h1 rfl rfl (Nat.le_of_ble_eq_true rfl) e9 rfl (fun v9 G2 q1 => ?_) hx
  replace h := h v9 G2 q1
  obtain ⟨x5, e8, h⟩ := h
  subst e8
  refine cj_nmk (fun k3 n4 e6 e7 => ?_)
  (try rw [← e6] at h); (try rw [← e7] at h)
  refine cj_st (st' := [.int x5]) rfl ?_
  refine cj_istore (lv' := [(4, .int x5), (0, .ref o), (1, .ref a1), (2, .ref a2), (3, .int a3)]) dX3_head_4 (by decide) rfl ?_
  refine cj_pc (pc' := 6) rfl ?_
  refine cj_iload dX3_head_6 rfl ?_
  refine cj_bipush (v := 92) dX3_head_8 (by decide) ?_
  refine cj_icmp_ne (tgt := 22) dX3_head_10 (by decide) (fun c6 => ?_) (fun c6 => ?_)
  · replace h := h.1 c6
    refine cj_iload dX3_head_22 rfl ?_
    refine cj_pc (pc' := 24) rfl ?_
    refine cj_bipush (v := 64) dX3_head_24 (by decide) ?_
    refine cj_icmp_ne (tgt := 39) dX3_head_26 (by decide) (fun c7 => ?_) (fun c7 => ?_)
    · replace h := h.1 c7
      refine cj_aload_n dX3_head_39 rfl ?_
      refine cj_aload_n dX3_head_40 rfl ?_
      refine cj_pc (pc' := 41) rfl ?_
      refine cj_aload_n dX3_head_41 rfl ?_
      refine cj_iload_n dX3_head_42 rfl ?_
      obtain ⟨⟨fs9, e9⟩, h⟩ := h
      obtain ⟨d', k', n', Qr', Qx', h1, h2, h3, hT, hx, h⟩ := h
      refine cj_fewer (k' := (k3 - k') + k') (n' := (n4 - n') + n') (by omega) (by omega) ?_
      refine cj_callV (M' := mX3_boundValue) (d' := d') (k' := k') (n' := n') (index := 93) (np := 3) (As := [.ref a1, .ref a2, .int a3]) (rest := []) dX3_head_43 lkX3_93 mwX3_boundValue hT h1 rfl rfl (Nat.le_of_ble_eq_true rfl) e9 rfl (fun v9 G9 q8 => ?_) hx
      replace h := h v9 G9 q8
      obtain ⟨e8, h⟩ := h
      subst e8
      refine cj_nmk (fun k10 n11 e6 e7 => ?_)
      (try rw [← e6] at h); (try rw [← e7] at h)
      refine cj_st (st' := []) rfl ?_
      refine cj_vret rfl dX3_head_46 ?_
      exact h
    · replace h := h.2 c7
      refine cj_aload_n dX3_head_29 rfl ?_
      refine cj_pc (pc' := 30) rfl ?_
      refine cj_aload_n dX3_head_30 rfl ?_
      refine cj_aload_n dX3_head_31 rfl ?_
      refine cj_iload_n dX3_head_32 rfl ?_
      obtain ⟨⟨fs9, e9⟩, h⟩ := h
      obtain ⟨d', k', n', Qr', Qx', h1, h2, h3, hT, hx, h⟩ := h
      refine cj_fewer (k' := (k3 - k') + k') (n' := (n4 - n') + n') (by omega) (by omega) ?_
      refine cj_callV (M' := mX3_boundFunction) (d' := d') (k' := k') (n' := n') (index := 90) (np := 3) (As := [.ref a1, .ref a2, .int a3]) (rest := []) dX3_head_33 lkX3_90 mwX3_boundFunction hT h1 rfl rfl (Nat.le_of_ble_eq_true rfl) e9 rfl (fun v9 G13 q12 => ?_) hx
      replace h := h v9 G13 q12
      obtain ⟨e8, h⟩ := h
      subst e8
      refine cj_nmk (fun k14 n15 e6 e7 => ?_)
      (try rw [← e6] at h); (try rw [← e7] at h)
      refine cj_st (st' := []) rfl ?_
      refine cj_pc (pc' := 36) rfl ?_
      refine cj_goto (tgt := 46) dX3_head_36 (by decide) ?_
      refine cj_vret rfl dX3_head_46 ?_
      exact h
  · replace h := h.2 c6
    refine cj_aload_n dX3_head_13 rfl ?_
    refine cj_aload_n dX3_head_14 rfl ?_
    refine cj_pc (pc' := 15) rfl ?_
    refine cj_aload_n dX3_head_15 rfl ?_
    obtain ⟨⟨fs9, e9⟩, h⟩ := h
    obtain ⟨d', k', n', Qr', Qx', h1, h2, h3, hT, hx, h⟩ := h
    refine cj_fewer (k' := (k3 - k') + k') (n' := (n4 - n') + n') (by omega) (by omega) ?_
    refine cj_callV (M' := mX3_function) (d' := d') (k' := k') (n' := n') (index := 86) (np := 2) (As := [.ref a1, .ref a2]) (rest := []) dX3_head_16 lkX3_86 mwX3_function hT h1 rfl rfl (Nat.le_of_ble_eq_true rfl) e9 rfl (fun v9 G17 q16 => ?_) hx
    replace h := h v9 G17 q16
    obtain ⟨e8, h⟩ := h
    subst e8
    refine cj_nmk (fun k18 n19 e6 e7 => ?_)
    (try rw [← e6] at h); (try rw [← e7] at h)
    refine cj_st (st' := []) rfl ?_
    refine cj_goto (tgt := 46) dX3_head_19 (by decide) ?_
    refine cj_vret rfl dX3_head_46 ?_
    exact h
def wk_X3_caseBody_15 (d : Nat) (v0 : Nat) (v1 : Nat) (v2 : Int32) (v3 : Nat) (v4 : Int32) (v5 : Int32) (v6 : Int32) (Qr : Option Value → cj_G → Prop) (Qx : String → cj_G → Prop) (K : Int32 → cj_G → Nat → Nat → Prop) : Nat → Int32 → cj_G → Nat → Nat → Prop
  | 0, _, _, _, _ => False
  | n + 1, v7, G, k, n1 => ((v5 ≤ v7 → K v7 G k n1) ∧ (¬ v5 ≤ v7 → (sk_V G v0 3 ∧ sk_c_i mX3_peek d k n1 [.ref v0] G Qx (fun x13 G10 k11 n12 => (sk_V G10 v0 3 ∧ sk_c_i mX3_furtherOn d k11 n12 [.ref v0, .int x13] G10 Qx (fun x18 G15 k16 n17 => ((x18 = (-1) → (sk_V G15 v0 3 ∧ sk_c_i mX3_takeName d k16 n17 [.ref v0] G15 Qx (fun x24 G21 k22 n23 => (sk_V G21 v0 3 ∧ sk_c_v mX3_bind d k22 n23 [.ref v0, .int x24] G21 Qx (fun G26 k27 n28 => wk_X3_caseBody_15 d v0 v1 v2 v3 v4 v5 v6 Qr Qx K n (v7 + 1) G26 k27 n28))))) ∧ (¬ x18 = (-1) → sk_gi G15 v0 3 4 (fun x29 => (((x29 - v6) ≤ x18 → (sk_V G15 v0 3 ∧ sk_c_i mX3_takeName d k16 n17 [.ref v0] G15 Qx (fun x36 G33 k34 n35 => (sk_V G33 v0 3 ∧ sk_c_v mX3_bind d k34 n35 [.ref v0, .int x36] G33 Qx (fun G38 k39 n40 => wk_X3_caseBody_15 d v0 v1 v2 v3 v4 v5 v6 Qr Qx K n (v7 + 1) G38 k39 n40))))) ∧ (¬ (x29 - v6) ≤ x18 → (sk_V G15 v0 3 ∧ sk_c_v mX3_refuse d k16 n17 [.ref v0] G15 Qx (fun G42 k43 n44 => (sk_V G42 v0 3 ∧ sk_c_i mX3_takeName d k43 n44 [.ref v0] G42 Qx (fun x49 G46 k47 n48 => (sk_V G46 v0 3 ∧ sk_c_v mX3_bind d k47 n48 [.ref v0, .int x49] G46 Qx (fun G51 k52 n53 => wk_X3_caseBody_15 d v0 v1 v2 v3 v4 v5 v6 Qr Qx K n (v7 + 1) G51 k52 n53)))))))))))))))))
def wq_X3_caseBody (d k n1 : Nat) (o : Nat) (a1 : Nat) (a2 : Int32) (a3 : Nat) (a4 : Int32) (G : cj_G) (Qr : Option Value → cj_G → Prop) (Qx : String → cj_G → Prop) : Prop := (sk_n_i mX6_fieldsOf d k n1 [.int a2] G (fun x5 G2 k3 n4 => sk_gi G2 o 3 4 (fun x6 => (∃ n9 : Nat, wk_X3_caseBody_15 d o a1 a2 a3 a4 x5 x6 Qr Qx (fun w57 G54 k55 n56 => (sk_V G54 o 3 ∧ sk_c_v mX3_expect d k55 n56 [.ref o, .int 58] G54 Qx (fun G59 k60 n61 => ((x5 ≤ 0 → (sk_V G59 o 3 ∧ sk_c_r mX3_expression d k60 n61 [.ref o, .int (a4 + 1)] G59 Qx (fun x67 G64 k65 n66 => (sk_V G64 a1 4 ∧ sk_c_v mX4_append d k65 n66 [.ref a1, .ref x67] G64 Qx (fun G69 k70 n71 => ((x5 ≤ 0 → sk_new G69 k70 n71 5 5 [.int 0, .int 0, .null, .int 0, .null] (fun q73 G74 k75 n76 => (sk_n_v mX5_init d k75 n76 [.ref q73, .int 11, .int 0, .ref a3] G74 (fun G78 k79 n80 => (sk_V G78 a1 4 ∧ sk_c_v mX4_add d k79 n80 [.ref a1, .ref q73] G78 Qx (fun G82 k83 n84 => (sk_V G82 o 3 ∧ sk_c_v mX3_expect d k83 n84 [.ref o, .int 59] G82 Qx (fun G86 k87 n88 => sk_pt G86 o 3 4 (.int x6) (fun G89 => Qr none G89))))))))) ∧ (¬ x5 ≤ 0 → (sk_V G69 a1 4 ∧ sk_c_v mX4_add_ d k70 n71 [.ref a1, .int 15, .int x5] G69 Qx (fun G91 k92 n93 => sk_new G91 k92 n93 5 5 [.int 0, .int 0, .null, .int 0, .null] (fun q94 G95 k96 n97 => (sk_n_v mX5_init d k96 n97 [.ref q94, .int 11, .int 0, .ref a3] G95 (fun G99 k100 n101 => (sk_V G99 a1 4 ∧ sk_c_v mX4_add d k100 n101 [.ref a1, .ref q94] G99 Qx (fun G103 k104 n105 => (sk_V G103 o 3 ∧ sk_c_v mX3_expect d k104 n105 [.ref o, .int 59] G103 Qx (fun G107 k108 n109 => sk_pt G107 o 3 4 (.int x6) (fun G110 => Qr none G110))))))))))))))))) ∧ (¬ x5 ≤ 0 → (sk_V G59 a1 4 ∧ sk_c_v mX4_add_ d k60 n61 [.ref a1, .int 20, .int x5] G59 Qx (fun G112 k113 n114 => (sk_V G112 o 3 ∧ sk_c_r mX3_expression d k113 n114 [.ref o, .int (a4 + 1)] G112 Qx (fun x119 G116 k117 n118 => (sk_V G116 a1 4 ∧ sk_c_v mX4_append d k117 n118 [.ref a1, .ref x119] G116 Qx (fun G121 k122 n123 => ((x5 ≤ 0 → sk_new G121 k122 n123 5 5 [.int 0, .int 0, .null, .int 0, .null] (fun q125 G126 k127 n128 => (sk_n_v mX5_init d k127 n128 [.ref q125, .int 11, .int 0, .ref a3] G126 (fun G130 k131 n132 => (sk_V G130 a1 4 ∧ sk_c_v mX4_add d k131 n132 [.ref a1, .ref q125] G130 Qx (fun G134 k135 n136 => (sk_V G134 o 3 ∧ sk_c_v mX3_expect d k135 n136 [.ref o, .int 59] G134 Qx (fun G138 k139 n140 => sk_pt G138 o 3 4 (.int x6) (fun G141 => Qr none G141))))))))) ∧ (¬ x5 ≤ 0 → (sk_V G121 a1 4 ∧ sk_c_v mX4_add_ d k122 n123 [.ref a1, .int 15, .int x5] G121 Qx (fun G143 k144 n145 => sk_new G143 k144 n145 5 5 [.int 0, .int 0, .null, .int 0, .null] (fun q146 G147 k148 n149 => (sk_n_v mX5_init d k148 n149 [.ref q146, .int 11, .int 0, .ref a3] G147 (fun G151 k152 n153 => (sk_V G151 a1 4 ∧ sk_c_v mX4_add d k152 n153 [.ref a1, .ref q146] G151 Qx (fun G155 k156 n157 => (sk_V G155 o 3 ∧ sk_c_v mX3_expect d k156 n157 [.ref o, .int 59] G155 Qx (fun G159 k160 n161 => sk_pt G159 o 3 4 (.int x6) (fun G162 => Qr none G162))))))))))))))))))))))) n9 0 G2 k3 n4))))
set_option maxHeartbeats 4000000 in
set_option maxRecDepth 100000 in
theorem wk_X3_caseBody_15_ok {d k0 n0 : Nat} (hd9 : 6 ≤ d) (v0 : Nat) (v1 : Nat) (v2 : Int32) (v3 : Nat) (v4 : Int32) (v5 : Int32) (v6 : Int32) {Qr : Option Value → cj_G → Prop} {Qx : String → cj_G → Prop} {K : Int32 → cj_G → Nat → Nat → Prop} (hK : ∀ (v7 : Int32) (G : cj_G) (k n1 : Nat), K v7 G k n1 → cj_J mX3_caseBody d k0 n0 Qr Qx k n1 68 [(0, .ref v0), (1, .ref v1), (2, .int v2), (3, .ref v3), (4, .int v4), (5, .int v5), (6, .int v6), (7, .int v7)] [] G) : ∀ (n : Nat) (v7 : Int32) (G : cj_G) (k n1 : Nat), wk_X3_caseBody_15 d v0 v1 v2 v3 v4 v5 v6 Qr Qx K n v7 G k n1 → cj_J mX3_caseBody d k0 n0 Qr Qx k n1 15 [(0, .ref v0), (1, .ref v1), (2, .int v2), (3, .ref v3), (4, .int v4), (5, .int v5), (6, .int v6), (7, .int v7)] [] G := by
  intro n
  induction n with
  | zero => intro v7 G k n1 h; exact absurd h id
  | succ n ih =>
    intro v7 G k n1 h
    unfold wk_X3_caseBody_15 at h
    refine cj_iload dX3_caseBody_15 rfl ?_
    refine cj_iload dX3_caseBody_17 rfl ?_
    refine cj_icmp_ge (tgt := 68) dX3_caseBody_19 (by decide) (fun c8 => ?_) (fun c8 => ?_)
    · replace h := h.1 c8
      refine cj_sub (lv' := [(0, .ref v0), (1, .ref v1), (2, .int v2), (3, .ref v3), (4, .int v4), (5, .int v5), (6, .int v6), (7, .int v7)]) (by simp) ?_
      exact hK _ _ _ _ h
    · replace h := h.2 c8
      refine cj_aload_n dX3_caseBody_22 rfl ?_
      refine cj_pc (pc' := 23) rfl ?_
      refine cj_aload_n dX3_caseBody_23 rfl ?_
      obtain ⟨⟨fs9, e9⟩, h⟩ := h
      obtain ⟨d', k', n', Qr', Qx', h1, h2, h3, hT, hx, h⟩ := h
      refine cj_fewer (k' := (k - k') + k') (n' := (n1 - n') + n') (by omega) (by omega) ?_
      refine cj_callV (M' := mX3_peek) (d' := d') (k' := k') (n' := n') (index := 64) (np := 0) (As := []) (rest := [.ref v0]) dX3_caseBody_24 lkX3_64 mwX3_peek hT h1 rfl rfl (Nat.le_of_ble_eq_true rfl) e9 rfl (fun v9 G10 q9 => ?_) hx
      replace h := h v9 G10 q9
      obtain ⟨x13, e8, h⟩ := h
      subst e8
      refine cj_nmk (fun k11 n12 e6 e7 => ?_)
      (try rw [← e6] at h); (try rw [← e7] at h)
      refine cj_st (st' := [.int x13, .ref v0]) rfl ?_
      obtain ⟨⟨fs9, e9⟩, h⟩ := h
      obtain ⟨d', k', n', Qr', Qx', h1, h2, h3, hT, hx, h⟩ := h
      refine cj_fewer (k' := (k11 - k') + k') (n' := (n12 - n') + n') (by omega) (by omega) ?_
      refine cj_callV (M' := mX3_furtherOn) (d' := d') (k' := k') (n' := n') (index := 139) (np := 1) (As := [.int x13]) (rest := []) dX3_caseBody_27 lkX3_139 mwX3_furtherOn hT h1 rfl rfl (Nat.le_of_ble_eq_true rfl) e9 rfl (fun v9 G15 q14 => ?_) hx
      replace h := h v9 G15 q14
      obtain ⟨x18, e8, h⟩ := h
      subst e8
      refine cj_nmk (fun k16 n17 e6 e7 => ?_)
      (try rw [← e6] at h); (try rw [← e7] at h)
      refine cj_st (st' := [.int x18]) rfl ?_
      refine cj_istore (lv' := [(8, .int x18), (0, .ref v0), (1, .ref v1), (2, .int v2), (3, .ref v3), (4, .int v4), (5, .int v5), (6, .int v6), (7, .int v7)]) dX3_caseBody_30 (by decide) rfl ?_
      refine cj_pc (pc' := 32) rfl ?_
      refine cj_iload dX3_caseBody_32 rfl ?_
      refine cj_iconst (v := (-1)) dX3_caseBody_34 (by decide) ?_
      refine cj_icmp_eq (tgt := 54) dX3_caseBody_35 (by decide) (fun c19 => ?_) (fun c19 => ?_)
      · replace h := h.1 c19
        refine cj_aload_n dX3_caseBody_54 rfl ?_
        refine cj_pc (pc' := 55) rfl ?_
        refine cj_aload_n dX3_caseBody_55 rfl ?_
        obtain ⟨⟨fs9, e9⟩, h⟩ := h
        obtain ⟨d', k', n', Qr', Qx', h1, h2, h3, hT, hx, h⟩ := h
        refine cj_fewer (k' := (k16 - k') + k') (n' := (n17 - n') + n') (by omega) (by omega) ?_
        refine cj_callV (M' := mX3_takeName) (d' := d') (k' := k') (n' := n') (index := 96) (np := 0) (As := []) (rest := [.ref v0]) dX3_caseBody_56 lkX3_96 mwX3_takeName hT h1 rfl rfl (Nat.le_of_ble_eq_true rfl) e9 rfl (fun v9 G21 q20 => ?_) hx
        replace h := h v9 G21 q20
        obtain ⟨x24, e8, h⟩ := h
        subst e8
        refine cj_nmk (fun k22 n23 e6 e7 => ?_)
        (try rw [← e6] at h); (try rw [← e7] at h)
        refine cj_st (st' := [.int x24, .ref v0]) rfl ?_
        obtain ⟨⟨fs9, e9⟩, h⟩ := h
        obtain ⟨d', k', n', Qr', Qx', h1, h2, h3, hT, hx, h⟩ := h
        refine cj_fewer (k' := (k22 - k') + k') (n' := (n23 - n') + n') (by omega) (by omega) ?_
        refine cj_callV (M' := mX3_bind) (d' := d') (k' := k') (n' := n') (index := 99) (np := 1) (As := [.int x24]) (rest := []) dX3_caseBody_59 lkX3_99 mwX3_bind hT h1 rfl rfl (Nat.le_of_ble_eq_true rfl) e9 rfl (fun v9 G26 q25 => ?_) hx
        replace h := h v9 G26 q25
        obtain ⟨e8, h⟩ := h
        subst e8
        refine cj_nmk (fun k27 n28 e6 e7 => ?_)
        (try rw [← e6] at h); (try rw [← e7] at h)
        refine cj_st (st' := []) rfl ?_
        refine cj_iinc (v := v7 + 1) (lv' := [(7, .int (v7 + 1)), (8, .int x18), (0, .ref v0), (1, .ref v1), (2, .int v2), (3, .ref v3), (4, .int v4), (5, .int v5), (6, .int v6)]) dX3_caseBody_62 rfl rfl (by decide) rfl ?_
        refine cj_pc (pc' := 65) rfl ?_
        refine cj_goto (tgt := 15) dX3_caseBody_65 (by decide) ?_
        refine cj_sub (lv' := [(0, .ref v0), (1, .ref v1), (2, .int v2), (3, .ref v3), (4, .int v4), (5, .int v5), (6, .int v6), (7, .int (v7 + 1))]) (by simp) ?_
        exact ih _ _ _ _ h
      · replace h := h.2 c19
        refine cj_iload dX3_caseBody_38 rfl ?_
        refine cj_aload_n dX3_caseBody_40 rfl ?_
        obtain ⟨fs9, x29, g30, e9, h⟩ := h
        refine cj_get flX3_25 dX3_caseBody_41 g30 e9 ?_
        refine cj_pc (pc' := 44) rfl ?_
        refine cj_iload dX3_caseBody_44 rfl ?_
        refine cj_isub dX3_caseBody_46 ?_
        refine cj_icmp_ge (tgt := 54) dX3_caseBody_47 (by decide) (fun c31 => ?_) (fun c31 => ?_)
        · replace h := h.1 c31
          refine cj_aload_n dX3_caseBody_54 rfl ?_
          refine cj_pc (pc' := 55) rfl ?_
          refine cj_aload_n dX3_caseBody_55 rfl ?_
          obtain ⟨⟨fs9, e9⟩, h⟩ := h
          obtain ⟨d', k', n', Qr', Qx', h1, h2, h3, hT, hx, h⟩ := h
          refine cj_fewer (k' := (k16 - k') + k') (n' := (n17 - n') + n') (by omega) (by omega) ?_
          refine cj_callV (M' := mX3_takeName) (d' := d') (k' := k') (n' := n') (index := 96) (np := 0) (As := []) (rest := [.ref v0]) dX3_caseBody_56 lkX3_96 mwX3_takeName hT h1 rfl rfl (Nat.le_of_ble_eq_true rfl) e9 rfl (fun v9 G33 q32 => ?_) hx
          replace h := h v9 G33 q32
          obtain ⟨x36, e8, h⟩ := h
          subst e8
          refine cj_nmk (fun k34 n35 e6 e7 => ?_)
          (try rw [← e6] at h); (try rw [← e7] at h)
          refine cj_st (st' := [.int x36, .ref v0]) rfl ?_
          obtain ⟨⟨fs9, e9⟩, h⟩ := h
          obtain ⟨d', k', n', Qr', Qx', h1, h2, h3, hT, hx, h⟩ := h
          refine cj_fewer (k' := (k34 - k') + k') (n' := (n35 - n') + n') (by omega) (by omega) ?_
          refine cj_callV (M' := mX3_bind) (d' := d') (k' := k') (n' := n') (index := 99) (np := 1) (As := [.int x36]) (rest := []) dX3_caseBody_59 lkX3_99 mwX3_bind hT h1 rfl rfl (Nat.le_of_ble_eq_true rfl) e9 rfl (fun v9 G38 q37 => ?_) hx
          replace h := h v9 G38 q37
          obtain ⟨e8, h⟩ := h
          subst e8
          refine cj_nmk (fun k39 n40 e6 e7 => ?_)
          (try rw [← e6] at h); (try rw [← e7] at h)
          refine cj_st (st' := []) rfl ?_
          refine cj_iinc (v := v7 + 1) (lv' := [(7, .int (v7 + 1)), (8, .int x18), (0, .ref v0), (1, .ref v1), (2, .int v2), (3, .ref v3), (4, .int v4), (5, .int v5), (6, .int v6)]) dX3_caseBody_62 rfl rfl (by decide) rfl ?_
          refine cj_pc (pc' := 65) rfl ?_
          refine cj_goto (tgt := 15) dX3_caseBody_65 (by decide) ?_
          refine cj_sub (lv' := [(0, .ref v0), (1, .ref v1), (2, .int v2), (3, .ref v3), (4, .int v4), (5, .int v5), (6, .int v6), (7, .int (v7 + 1))]) (by simp) ?_
          exact ih _ _ _ _ h
        · replace h := h.2 c31
          refine cj_aload_n dX3_caseBody_50 rfl ?_
          obtain ⟨⟨fs9, e9⟩, h⟩ := h
          obtain ⟨d', k', n', Qr', Qx', h1, h2, h3, hT, hx, h⟩ := h
          refine cj_fewer (k' := (k16 - k') + k') (n' := (n17 - n') + n') (by omega) (by omega) ?_
          refine cj_callV (M' := mX3_refuse) (d' := d') (k' := k') (n' := n') (index := 39) (np := 0) (As := []) (rest := []) dX3_caseBody_51 lkX3_39 mwX3_refuse hT h1 rfl rfl (Nat.le_of_ble_eq_true rfl) e9 rfl (fun v9 G42 q41 => ?_) hx
          replace h := h v9 G42 q41
          obtain ⟨e8, h⟩ := h
          subst e8
          refine cj_nmk (fun k43 n44 e6 e7 => ?_)
          (try rw [← e6] at h); (try rw [← e7] at h)
          refine cj_st (st' := []) rfl ?_
          refine cj_aload_n dX3_caseBody_54 rfl ?_
          refine cj_pc (pc' := 55) rfl ?_
          refine cj_aload_n dX3_caseBody_55 rfl ?_
          obtain ⟨⟨fs9, e9⟩, h⟩ := h
          obtain ⟨d', k', n', Qr', Qx', h1, h2, h3, hT, hx, h⟩ := h
          refine cj_fewer (k' := (k43 - k') + k') (n' := (n44 - n') + n') (by omega) (by omega) ?_
          refine cj_callV (M' := mX3_takeName) (d' := d') (k' := k') (n' := n') (index := 96) (np := 0) (As := []) (rest := [.ref v0]) dX3_caseBody_56 lkX3_96 mwX3_takeName hT h1 rfl rfl (Nat.le_of_ble_eq_true rfl) e9 rfl (fun v9 G46 q45 => ?_) hx
          replace h := h v9 G46 q45
          obtain ⟨x49, e8, h⟩ := h
          subst e8
          refine cj_nmk (fun k47 n48 e6 e7 => ?_)
          (try rw [← e6] at h); (try rw [← e7] at h)
          refine cj_st (st' := [.int x49, .ref v0]) rfl ?_
          obtain ⟨⟨fs9, e9⟩, h⟩ := h
          obtain ⟨d', k', n', Qr', Qx', h1, h2, h3, hT, hx, h⟩ := h
          refine cj_fewer (k' := (k47 - k') + k') (n' := (n48 - n') + n') (by omega) (by omega) ?_
          refine cj_callV (M' := mX3_bind) (d' := d') (k' := k') (n' := n') (index := 99) (np := 1) (As := [.int x49]) (rest := []) dX3_caseBody_59 lkX3_99 mwX3_bind hT h1 rfl rfl (Nat.le_of_ble_eq_true rfl) e9 rfl (fun v9 G51 q50 => ?_) hx
          replace h := h v9 G51 q50
          obtain ⟨e8, h⟩ := h
          subst e8
          refine cj_nmk (fun k52 n53 e6 e7 => ?_)
          (try rw [← e6] at h); (try rw [← e7] at h)
          refine cj_st (st' := []) rfl ?_
          refine cj_iinc (v := v7 + 1) (lv' := [(7, .int (v7 + 1)), (8, .int x18), (0, .ref v0), (1, .ref v1), (2, .int v2), (3, .ref v3), (4, .int v4), (5, .int v5), (6, .int v6)]) dX3_caseBody_62 rfl rfl (by decide) rfl ?_
          refine cj_pc (pc' := 65) rfl ?_
          refine cj_goto (tgt := 15) dX3_caseBody_65 (by decide) ?_
          refine cj_sub (lv' := [(0, .ref v0), (1, .ref v1), (2, .int v2), (3, .ref v3), (4, .int v4), (5, .int v5), (6, .int v6), (7, .int (v7 + 1))]) (by simp) ?_
          exact ih _ _ _ _ h
set_option maxHeartbeats 4000000 in
set_option maxRecDepth 100000 in
theorem tq_X3_caseBody {d k n1 : Nat} (hd9 : 6 ≤ d) {o : Nat} {a1 : Nat} {a2 : Int32} {a3 : Nat} {a4 : Int32} {G : cj_G} {Qr : Option Value → cj_G → Prop} {Qx : String → cj_G → Prop} (h : wq_X3_caseBody d k n1 o a1 a2 a3 a4 G Qr Qx) : cj_T mX3_caseBody d k n1 [.ref o, .ref a1, .int a2, .ref a3, .int a4] G Qr Qx := by
  refine cj_T_of (by decide +kernel) (Nat.le_of_ble_eq_true rfl) ?_
  refine cj_lvs (lv' := [(0, .ref o), (1, .ref a1), (2, .int a2), (3, .ref a3), (4, .int a4)]) rfl ?_
  unfold wq_X3_caseBody at h
  refine cj_iload_n dX3_caseBody_0 rfl ?_
  obtain ⟨d', k', n', Qr', h1, h2, h3, hT, h⟩ := h
  refine cj_fewer (k' := (k - k') + k') (n' := (n1 - n') + n') (by omega) (by omega) ?_
  refine cj_callSN (M' := mX6_fieldsOf) (d' := d') (k' := k') (n' := n') (index := 136) (np := 1) (As := [.int a2]) (rest := []) dX3_caseBody_1 lkX3_136 mwX6_fieldsOf hT h1 rfl rfl (Nat.le_of_ble_eq_true rfl) (fun v9 G2 q1 => ?_)
  replace h := h v9 G2 q1
  obtain ⟨x5, e8, h⟩ := h
  subst e8
  refine cj_nmk (fun k3 n4 e6 e7 => ?_)
  (try rw [← e6] at h); (try rw [← e7] at h)
  refine cj_st (st' := [.int x5]) rfl ?_
  refine cj_istore (lv' := [(5, .int x5), (0, .ref o), (1, .ref a1), (2, .int a2), (3, .ref a3), (4, .int a4)]) dX3_caseBody_4 (by decide) rfl ?_
  refine cj_pc (pc' := 6) rfl ?_
  refine cj_aload_n dX3_caseBody_6 rfl ?_
  obtain ⟨fs9, x6, g7, e9, h⟩ := h
  refine cj_get flX3_25 dX3_caseBody_7 g7 e9 ?_
  refine cj_istore (lv' := [(6, .int x6), (5, .int x5), (0, .ref o), (1, .ref a1), (2, .int a2), (3, .ref a3), (4, .int a4)]) dX3_caseBody_10 (by decide) rfl ?_
  refine cj_iconst (v := 0) dX3_caseBody_12 (by decide) ?_
  refine cj_pc (pc' := 13) rfl ?_
  refine cj_istore (lv' := [(7, .int 0), (6, .int x6), (5, .int x5), (0, .ref o), (1, .ref a1), (2, .int a2), (3, .ref a3), (4, .int a4)]) dX3_caseBody_13 (by decide) rfl ?_
  obtain ⟨n9, h⟩ := h
  refine cj_sub (lv' := [(0, .ref o), (1, .ref a1), (2, .int a2), (3, .ref a3), (4, .int a4), (5, .int x5), (6, .int x6), (7, .int 0)]) (by simp) ?_
  refine wk_X3_caseBody_15_ok hd9 _ _ _ _ _ _ _ ?_ n9 _ _ _ _ h
  clear h
  intro w57 G54 k55 n56 h
  refine cj_aload_n dX3_caseBody_68 rfl ?_
  refine cj_bipush (v := 58) dX3_caseBody_69 (by decide) ?_
  obtain ⟨⟨fs9, e9⟩, h⟩ := h
  obtain ⟨d', k', n', Qr', Qx', h1, h2, h3, hT, hx, h⟩ := h
  refine cj_fewer (k' := (k55 - k') + k') (n' := (n56 - n') + n') (by omega) (by omega) ?_
  refine cj_callV (M' := mX3_expect) (d' := d') (k' := k') (n' := n') (index := 120) (np := 1) (As := [.int 58]) (rest := []) dX3_caseBody_71 lkX3_120 mwX3_expect hT h1 rfl rfl (Nat.le_of_ble_eq_true rfl) e9 rfl (fun v9 G59 q58 => ?_) hx
  replace h := h v9 G59 q58
  obtain ⟨e8, h⟩ := h
  subst e8
  refine cj_nmk (fun k60 n61 e6 e7 => ?_)
  (try rw [← e6] at h); (try rw [← e7] at h)
  refine cj_st (st' := []) rfl ?_
  refine cj_pc (pc' := 74) rfl ?_
  refine cj_iload dX3_caseBody_74 rfl ?_
  refine cj_if_le (tgt := 87) dX3_caseBody_76 (by decide) (fun c62 => ?_) (fun c62 => ?_)
  · replace h := h.1 c62
    refine cj_aload_n dX3_caseBody_87 rfl ?_
    refine cj_aload_n dX3_caseBody_88 rfl ?_
    refine cj_pc (pc' := 89) rfl ?_
    refine cj_iload dX3_caseBody_89 rfl ?_
    refine cj_iconst (v := 1) dX3_caseBody_91 (by decide) ?_
    refine cj_iadd dX3_caseBody_92 ?_
    obtain ⟨⟨fs9, e9⟩, h⟩ := h
    obtain ⟨d', k', n', Qr', Qx', h1, h2, h3, hT, hx, h⟩ := h
    refine cj_fewer (k' := (k60 - k') + k') (n' := (n61 - n') + n') (by omega) (by omega) ?_
    refine cj_callV (M' := mX3_expression) (d' := d') (k' := k') (n' := n') (index := 35) (np := 1) (As := [.int (a4 + 1)]) (rest := [.ref a1]) dX3_caseBody_93 lkX3_35 mwX3_expression hT h1 rfl rfl (Nat.le_of_ble_eq_true rfl) e9 rfl (fun v9 G64 q63 => ?_) hx
    replace h := h v9 G64 q63
    obtain ⟨x67, e8, h⟩ := h
    subst e8
    refine cj_nmk (fun k65 n66 e6 e7 => ?_)
    (try rw [← e6] at h); (try rw [← e7] at h)
    refine cj_st (st' := [.ref x67, .ref a1]) rfl ?_
    refine cj_pc (pc' := 96) rfl ?_
    obtain ⟨⟨fs9, e9⟩, h⟩ := h
    obtain ⟨d', k', n', Qr', Qx', h1, h2, h3, hT, hx, h⟩ := h
    refine cj_fewer (k' := (k65 - k') + k') (n' := (n66 - n') + n') (by omega) (by omega) ?_
    refine cj_callV (M' := mX4_append) (d' := d') (k' := k') (n' := n') (index := 74) (np := 1) (As := [.ref x67]) (rest := []) dX3_caseBody_96 lkX3_74 mwX4_append hT h1 rfl rfl (Nat.le_of_ble_eq_true rfl) e9 rfl (fun v9 G69 q68 => ?_) hx
    replace h := h v9 G69 q68
    obtain ⟨e8, h⟩ := h
    subst e8
    refine cj_nmk (fun k70 n71 e6 e7 => ?_)
    (try rw [← e6] at h); (try rw [← e7] at h)
    refine cj_st (st' := []) rfl ?_
    refine cj_iload dX3_caseBody_99 rfl ?_
    refine cj_if_le (tgt := 112) dX3_caseBody_101 (by decide) (fun c72 => ?_) (fun c72 => ?_)
    · replace h := h.1 c72
      refine cj_aload_n dX3_caseBody_112 rfl ?_
      refine cj_pc (pc' := 113) rfl ?_
      obtain ⟨h1, h2, h⟩ := h
      refine cj_fewer (k' := (k70 - 1) + 1) (n' := (n71 - 5) + 5) (by omega) (by omega) ?_
      refine cj_new (ci := 5) (fs := [.int 0, .int 0, .null, .int 0, .null]) rfl uw_X5 tyX5_ok klX3_115.1 klX3_115.2.1 klX3_115.2.2 (by intro j hj; rcases (show j = 0 ∨ j = 1 ∨ j = 2 ∨ j = 3 ∨ j = 4 by omega) with rfl | rfl | rfl | rfl | rfl <;> rfl) dX3_caseBody_113 (fun q73 z9 => ?_)
      replace h := h q73 z9
      refine cj_nm (fun G74 e7 => ?_)
      (try rw [← e7] at h)
      clear e7
      refine cj_nmk (fun k75 n76 e6 e7 => ?_)
      (try rw [← e6] at h); (try rw [← e7] at h)
      refine cj_dup dX3_caseBody_116 rfl ?_
      refine cj_bipush (v := 11) dX3_caseBody_117 (by decide) ?_
      refine cj_iconst (v := 0) dX3_caseBody_119 (by decide) ?_
      refine cj_pc (pc' := 120) rfl ?_
      refine cj_aload_n dX3_caseBody_120 rfl ?_
      obtain ⟨d', k', n', Qr', h1, h2, h3, hT, h⟩ := h
      refine cj_fewer (k' := (k75 - k') + k') (n' := (n76 - n') + n') (by omega) (by omega) ?_
      refine cj_callI (M' := mX5_init) (d' := d') (k' := k') (n' := n') (index := 117) (np := 3) (As := [.int 11, .int 0, .ref a3]) (rest := [.ref q73, .ref a1]) dX3_caseBody_121 lkX3_117 mwX5_init hT h1 rfl rfl (Nat.le_of_ble_eq_true rfl) (fun v9 G78 q77 => ?_)
      replace h := h v9 G78 q77
      obtain ⟨e8, h⟩ := h
      subst e8
      refine cj_nmk (fun k79 n80 e6 e7 => ?_)
      (try rw [← e6] at h); (try rw [← e7] at h)
      refine cj_st (st' := [.ref q73, .ref a1]) rfl ?_
      obtain ⟨⟨fs9, e9⟩, h⟩ := h
      obtain ⟨d', k', n', Qr', Qx', h1, h2, h3, hT, hx, h⟩ := h
      refine cj_fewer (k' := (k79 - k') + k') (n' := (n80 - n') + n') (by omega) (by omega) ?_
      refine cj_callV (M' := mX4_add) (d' := d') (k' := k') (n' := n') (index := 123) (np := 1) (As := [.ref q73]) (rest := []) dX3_caseBody_124 lkX3_123 mwX4_add hT h1 rfl rfl (Nat.le_of_ble_eq_true rfl) e9 rfl (fun v9 G82 q81 => ?_) hx
      replace h := h v9 G82 q81
      obtain ⟨e8, h⟩ := h
      subst e8
      refine cj_nmk (fun k83 n84 e6 e7 => ?_)
      (try rw [← e6] at h); (try rw [← e7] at h)
      refine cj_st (st' := []) rfl ?_
      refine cj_aload_n dX3_caseBody_127 rfl ?_
      refine cj_pc (pc' := 128) rfl ?_
      refine cj_bipush (v := 59) dX3_caseBody_128 (by decide) ?_
      obtain ⟨⟨fs9, e9⟩, h⟩ := h
      obtain ⟨d', k', n', Qr', Qx', h1, h2, h3, hT, hx, h⟩ := h
      refine cj_fewer (k' := (k83 - k') + k') (n' := (n84 - n') + n') (by omega) (by omega) ?_
      refine cj_callV (M' := mX3_expect) (d' := d') (k' := k') (n' := n') (index := 120) (np := 1) (As := [.int 59]) (rest := []) dX3_caseBody_130 lkX3_120 mwX3_expect hT h1 rfl rfl (Nat.le_of_ble_eq_true rfl) e9 rfl (fun v9 G86 q85 => ?_) hx
      replace h := h v9 G86 q85
      obtain ⟨e8, h⟩ := h
      subst e8
      refine cj_nmk (fun k87 n88 e6 e7 => ?_)
      (try rw [← e6] at h); (try rw [← e7] at h)
      refine cj_st (st' := []) rfl ?_
      refine cj_aload_n dX3_caseBody_133 rfl ?_
      refine cj_iload dX3_caseBody_134 rfl ?_
      refine cj_pc (pc' := 136) rfl ?_
      obtain ⟨fs9, e8, e9, h⟩ := h
      refine cj_put flX3_25 dX3_caseBody_136 e8 rfl rfl e9 ?_
      refine cj_nm (fun G89 e7 => ?_)
      rw [← e7] at h
      clear e7
      refine cj_vret rfl dX3_caseBody_139 ?_
      exact h
    · replace h := h.2 c72
      refine cj_aload_n dX3_caseBody_104 rfl ?_
      refine cj_bipush (v := 15) dX3_caseBody_105 (by decide) ?_
      refine cj_pc (pc' := 107) rfl ?_
      refine cj_iload dX3_caseBody_107 rfl ?_
      obtain ⟨⟨fs9, e9⟩, h⟩ := h
      obtain ⟨d', k', n', Qr', Qx', h1, h2, h3, hT, hx, h⟩ := h
      refine cj_fewer (k' := (k70 - k') + k') (n' := (n71 - n') + n') (by omega) (by omega) ?_
      refine cj_callV (M' := mX4_add_) (d' := d') (k' := k') (n' := n') (index := 42) (np := 2) (As := [.int 15, .int x5]) (rest := []) dX3_caseBody_109 lkX3_42 mwX4_add_ hT h1 rfl rfl (Nat.le_of_ble_eq_true rfl) e9 rfl (fun v9 G91 q90 => ?_) hx
      replace h := h v9 G91 q90
      obtain ⟨e8, h⟩ := h
      subst e8
      refine cj_nmk (fun k92 n93 e6 e7 => ?_)
      (try rw [← e6] at h); (try rw [← e7] at h)
      refine cj_st (st' := []) rfl ?_
      refine cj_aload_n dX3_caseBody_112 rfl ?_
      obtain ⟨h1, h2, h⟩ := h
      refine cj_fewer (k' := (k92 - 1) + 1) (n' := (n93 - 5) + 5) (by omega) (by omega) ?_
      refine cj_new (ci := 5) (fs := [.int 0, .int 0, .null, .int 0, .null]) rfl uw_X5 tyX5_ok klX3_115.1 klX3_115.2.1 klX3_115.2.2 (by intro j hj; rcases (show j = 0 ∨ j = 1 ∨ j = 2 ∨ j = 3 ∨ j = 4 by omega) with rfl | rfl | rfl | rfl | rfl <;> rfl) dX3_caseBody_113 (fun q94 z9 => ?_)
      replace h := h q94 z9
      refine cj_nm (fun G95 e7 => ?_)
      (try rw [← e7] at h)
      clear e7
      refine cj_nmk (fun k96 n97 e6 e7 => ?_)
      (try rw [← e6] at h); (try rw [← e7] at h)
      refine cj_pc (pc' := 116) rfl ?_
      refine cj_dup dX3_caseBody_116 rfl ?_
      refine cj_bipush (v := 11) dX3_caseBody_117 (by decide) ?_
      refine cj_iconst (v := 0) dX3_caseBody_119 (by decide) ?_
      refine cj_aload_n dX3_caseBody_120 rfl ?_
      refine cj_pc (pc' := 121) rfl ?_
      obtain ⟨d', k', n', Qr', h1, h2, h3, hT, h⟩ := h
      refine cj_fewer (k' := (k96 - k') + k') (n' := (n97 - n') + n') (by omega) (by omega) ?_
      refine cj_callI (M' := mX5_init) (d' := d') (k' := k') (n' := n') (index := 117) (np := 3) (As := [.int 11, .int 0, .ref a3]) (rest := [.ref q94, .ref a1]) dX3_caseBody_121 lkX3_117 mwX5_init hT h1 rfl rfl (Nat.le_of_ble_eq_true rfl) (fun v9 G99 q98 => ?_)
      replace h := h v9 G99 q98
      obtain ⟨e8, h⟩ := h
      subst e8
      refine cj_nmk (fun k100 n101 e6 e7 => ?_)
      (try rw [← e6] at h); (try rw [← e7] at h)
      refine cj_st (st' := [.ref q94, .ref a1]) rfl ?_
      obtain ⟨⟨fs9, e9⟩, h⟩ := h
      obtain ⟨d', k', n', Qr', Qx', h1, h2, h3, hT, hx, h⟩ := h
      refine cj_fewer (k' := (k100 - k') + k') (n' := (n101 - n') + n') (by omega) (by omega) ?_
      refine cj_callV (M' := mX4_add) (d' := d') (k' := k') (n' := n') (index := 123) (np := 1) (As := [.ref q94]) (rest := []) dX3_caseBody_124 lkX3_123 mwX4_add hT h1 rfl rfl (Nat.le_of_ble_eq_true rfl) e9 rfl (fun v9 G103 q102 => ?_) hx
      replace h := h v9 G103 q102
      obtain ⟨e8, h⟩ := h
      subst e8
      refine cj_nmk (fun k104 n105 e6 e7 => ?_)
      (try rw [← e6] at h); (try rw [← e7] at h)
      refine cj_st (st' := []) rfl ?_
      refine cj_aload_n dX3_caseBody_127 rfl ?_
      refine cj_bipush (v := 59) dX3_caseBody_128 (by decide) ?_
      refine cj_pc (pc' := 130) rfl ?_
      obtain ⟨⟨fs9, e9⟩, h⟩ := h
      obtain ⟨d', k', n', Qr', Qx', h1, h2, h3, hT, hx, h⟩ := h
      refine cj_fewer (k' := (k104 - k') + k') (n' := (n105 - n') + n') (by omega) (by omega) ?_
      refine cj_callV (M' := mX3_expect) (d' := d') (k' := k') (n' := n') (index := 120) (np := 1) (As := [.int 59]) (rest := []) dX3_caseBody_130 lkX3_120 mwX3_expect hT h1 rfl rfl (Nat.le_of_ble_eq_true rfl) e9 rfl (fun v9 G107 q106 => ?_) hx
      replace h := h v9 G107 q106
      obtain ⟨e8, h⟩ := h
      subst e8
      refine cj_nmk (fun k108 n109 e6 e7 => ?_)
      (try rw [← e6] at h); (try rw [← e7] at h)
      refine cj_st (st' := []) rfl ?_
      refine cj_aload_n dX3_caseBody_133 rfl ?_
      refine cj_iload dX3_caseBody_134 rfl ?_
      obtain ⟨fs9, e8, e9, h⟩ := h
      refine cj_put flX3_25 dX3_caseBody_136 e8 rfl rfl e9 ?_
      refine cj_nm (fun G110 e7 => ?_)
      rw [← e7] at h
      clear e7
      refine cj_pc (pc' := 139) rfl ?_
      refine cj_vret rfl dX3_caseBody_139 ?_
      exact h
  · replace h := h.2 c62
    refine cj_aload_n dX3_caseBody_79 rfl ?_
    refine cj_bipush (v := 20) dX3_caseBody_80 (by decide) ?_
    refine cj_iload dX3_caseBody_82 rfl ?_
    refine cj_pc (pc' := 84) rfl ?_
    obtain ⟨⟨fs9, e9⟩, h⟩ := h
    obtain ⟨d', k', n', Qr', Qx', h1, h2, h3, hT, hx, h⟩ := h
    refine cj_fewer (k' := (k60 - k') + k') (n' := (n61 - n') + n') (by omega) (by omega) ?_
    refine cj_callV (M' := mX4_add_) (d' := d') (k' := k') (n' := n') (index := 42) (np := 2) (As := [.int 20, .int x5]) (rest := []) dX3_caseBody_84 lkX3_42 mwX4_add_ hT h1 rfl rfl (Nat.le_of_ble_eq_true rfl) e9 rfl (fun v9 G112 q111 => ?_) hx
    replace h := h v9 G112 q111
    obtain ⟨e8, h⟩ := h
    subst e8
    refine cj_nmk (fun k113 n114 e6 e7 => ?_)
    (try rw [← e6] at h); (try rw [← e7] at h)
    refine cj_st (st' := []) rfl ?_
    refine cj_aload_n dX3_caseBody_87 rfl ?_
    refine cj_aload_n dX3_caseBody_88 rfl ?_
    refine cj_iload dX3_caseBody_89 rfl ?_
    refine cj_pc (pc' := 91) rfl ?_
    refine cj_iconst (v := 1) dX3_caseBody_91 (by decide) ?_
    refine cj_iadd dX3_caseBody_92 ?_
    obtain ⟨⟨fs9, e9⟩, h⟩ := h
    obtain ⟨d', k', n', Qr', Qx', h1, h2, h3, hT, hx, h⟩ := h
    refine cj_fewer (k' := (k113 - k') + k') (n' := (n114 - n') + n') (by omega) (by omega) ?_
    refine cj_callV (M' := mX3_expression) (d' := d') (k' := k') (n' := n') (index := 35) (np := 1) (As := [.int (a4 + 1)]) (rest := [.ref a1]) dX3_caseBody_93 lkX3_35 mwX3_expression hT h1 rfl rfl (Nat.le_of_ble_eq_true rfl) e9 rfl (fun v9 G116 q115 => ?_) hx
    replace h := h v9 G116 q115
    obtain ⟨x119, e8, h⟩ := h
    subst e8
    refine cj_nmk (fun k117 n118 e6 e7 => ?_)
    (try rw [← e6] at h); (try rw [← e7] at h)
    refine cj_st (st' := [.ref x119, .ref a1]) rfl ?_
    obtain ⟨⟨fs9, e9⟩, h⟩ := h
    obtain ⟨d', k', n', Qr', Qx', h1, h2, h3, hT, hx, h⟩ := h
    refine cj_fewer (k' := (k117 - k') + k') (n' := (n118 - n') + n') (by omega) (by omega) ?_
    refine cj_callV (M' := mX4_append) (d' := d') (k' := k') (n' := n') (index := 74) (np := 1) (As := [.ref x119]) (rest := []) dX3_caseBody_96 lkX3_74 mwX4_append hT h1 rfl rfl (Nat.le_of_ble_eq_true rfl) e9 rfl (fun v9 G121 q120 => ?_) hx
    replace h := h v9 G121 q120
    obtain ⟨e8, h⟩ := h
    subst e8
    refine cj_nmk (fun k122 n123 e6 e7 => ?_)
    (try rw [← e6] at h); (try rw [← e7] at h)
    refine cj_st (st' := []) rfl ?_
    refine cj_pc (pc' := 99) rfl ?_
    refine cj_iload dX3_caseBody_99 rfl ?_
    refine cj_if_le (tgt := 112) dX3_caseBody_101 (by decide) (fun c124 => ?_) (fun c124 => ?_)
    · replace h := h.1 c124
      refine cj_aload_n dX3_caseBody_112 rfl ?_
      obtain ⟨h1, h2, h⟩ := h
      refine cj_fewer (k' := (k122 - 1) + 1) (n' := (n123 - 5) + 5) (by omega) (by omega) ?_
      refine cj_new (ci := 5) (fs := [.int 0, .int 0, .null, .int 0, .null]) rfl uw_X5 tyX5_ok klX3_115.1 klX3_115.2.1 klX3_115.2.2 (by intro j hj; rcases (show j = 0 ∨ j = 1 ∨ j = 2 ∨ j = 3 ∨ j = 4 by omega) with rfl | rfl | rfl | rfl | rfl <;> rfl) dX3_caseBody_113 (fun q125 z9 => ?_)
      replace h := h q125 z9
      refine cj_nm (fun G126 e7 => ?_)
      (try rw [← e7] at h)
      clear e7
      refine cj_nmk (fun k127 n128 e6 e7 => ?_)
      (try rw [← e6] at h); (try rw [← e7] at h)
      refine cj_pc (pc' := 116) rfl ?_
      refine cj_dup dX3_caseBody_116 rfl ?_
      refine cj_bipush (v := 11) dX3_caseBody_117 (by decide) ?_
      refine cj_iconst (v := 0) dX3_caseBody_119 (by decide) ?_
      refine cj_aload_n dX3_caseBody_120 rfl ?_
      refine cj_pc (pc' := 121) rfl ?_
      obtain ⟨d', k', n', Qr', h1, h2, h3, hT, h⟩ := h
      refine cj_fewer (k' := (k127 - k') + k') (n' := (n128 - n') + n') (by omega) (by omega) ?_
      refine cj_callI (M' := mX5_init) (d' := d') (k' := k') (n' := n') (index := 117) (np := 3) (As := [.int 11, .int 0, .ref a3]) (rest := [.ref q125, .ref a1]) dX3_caseBody_121 lkX3_117 mwX5_init hT h1 rfl rfl (Nat.le_of_ble_eq_true rfl) (fun v9 G130 q129 => ?_)
      replace h := h v9 G130 q129
      obtain ⟨e8, h⟩ := h
      subst e8
      refine cj_nmk (fun k131 n132 e6 e7 => ?_)
      (try rw [← e6] at h); (try rw [← e7] at h)
      refine cj_st (st' := [.ref q125, .ref a1]) rfl ?_
      obtain ⟨⟨fs9, e9⟩, h⟩ := h
      obtain ⟨d', k', n', Qr', Qx', h1, h2, h3, hT, hx, h⟩ := h
      refine cj_fewer (k' := (k131 - k') + k') (n' := (n132 - n') + n') (by omega) (by omega) ?_
      refine cj_callV (M' := mX4_add) (d' := d') (k' := k') (n' := n') (index := 123) (np := 1) (As := [.ref q125]) (rest := []) dX3_caseBody_124 lkX3_123 mwX4_add hT h1 rfl rfl (Nat.le_of_ble_eq_true rfl) e9 rfl (fun v9 G134 q133 => ?_) hx
      replace h := h v9 G134 q133
      obtain ⟨e8, h⟩ := h
      subst e8
      refine cj_nmk (fun k135 n136 e6 e7 => ?_)
      (try rw [← e6] at h); (try rw [← e7] at h)
      refine cj_st (st' := []) rfl ?_
      refine cj_aload_n dX3_caseBody_127 rfl ?_
      refine cj_bipush (v := 59) dX3_caseBody_128 (by decide) ?_
      refine cj_pc (pc' := 130) rfl ?_
      obtain ⟨⟨fs9, e9⟩, h⟩ := h
      obtain ⟨d', k', n', Qr', Qx', h1, h2, h3, hT, hx, h⟩ := h
      refine cj_fewer (k' := (k135 - k') + k') (n' := (n136 - n') + n') (by omega) (by omega) ?_
      refine cj_callV (M' := mX3_expect) (d' := d') (k' := k') (n' := n') (index := 120) (np := 1) (As := [.int 59]) (rest := []) dX3_caseBody_130 lkX3_120 mwX3_expect hT h1 rfl rfl (Nat.le_of_ble_eq_true rfl) e9 rfl (fun v9 G138 q137 => ?_) hx
      replace h := h v9 G138 q137
      obtain ⟨e8, h⟩ := h
      subst e8
      refine cj_nmk (fun k139 n140 e6 e7 => ?_)
      (try rw [← e6] at h); (try rw [← e7] at h)
      refine cj_st (st' := []) rfl ?_
      refine cj_aload_n dX3_caseBody_133 rfl ?_
      refine cj_iload dX3_caseBody_134 rfl ?_
      obtain ⟨fs9, e8, e9, h⟩ := h
      refine cj_put flX3_25 dX3_caseBody_136 e8 rfl rfl e9 ?_
      refine cj_nm (fun G141 e7 => ?_)
      rw [← e7] at h
      clear e7
      refine cj_pc (pc' := 139) rfl ?_
      refine cj_vret rfl dX3_caseBody_139 ?_
      exact h
    · replace h := h.2 c124
      refine cj_aload_n dX3_caseBody_104 rfl ?_
      refine cj_bipush (v := 15) dX3_caseBody_105 (by decide) ?_
      refine cj_iload dX3_caseBody_107 rfl ?_
      refine cj_pc (pc' := 109) rfl ?_
      obtain ⟨⟨fs9, e9⟩, h⟩ := h
      obtain ⟨d', k', n', Qr', Qx', h1, h2, h3, hT, hx, h⟩ := h
      refine cj_fewer (k' := (k122 - k') + k') (n' := (n123 - n') + n') (by omega) (by omega) ?_
      refine cj_callV (M' := mX4_add_) (d' := d') (k' := k') (n' := n') (index := 42) (np := 2) (As := [.int 15, .int x5]) (rest := []) dX3_caseBody_109 lkX3_42 mwX4_add_ hT h1 rfl rfl (Nat.le_of_ble_eq_true rfl) e9 rfl (fun v9 G143 q142 => ?_) hx
      replace h := h v9 G143 q142
      obtain ⟨e8, h⟩ := h
      subst e8
      refine cj_nmk (fun k144 n145 e6 e7 => ?_)
      (try rw [← e6] at h); (try rw [← e7] at h)
      refine cj_st (st' := []) rfl ?_
      refine cj_aload_n dX3_caseBody_112 rfl ?_
      obtain ⟨h1, h2, h⟩ := h
      refine cj_fewer (k' := (k144 - 1) + 1) (n' := (n145 - 5) + 5) (by omega) (by omega) ?_
      refine cj_new (ci := 5) (fs := [.int 0, .int 0, .null, .int 0, .null]) rfl uw_X5 tyX5_ok klX3_115.1 klX3_115.2.1 klX3_115.2.2 (by intro j hj; rcases (show j = 0 ∨ j = 1 ∨ j = 2 ∨ j = 3 ∨ j = 4 by omega) with rfl | rfl | rfl | rfl | rfl <;> rfl) dX3_caseBody_113 (fun q146 z9 => ?_)
      replace h := h q146 z9
      refine cj_nm (fun G147 e7 => ?_)
      (try rw [← e7] at h)
      clear e7
      refine cj_nmk (fun k148 n149 e6 e7 => ?_)
      (try rw [← e6] at h); (try rw [← e7] at h)
      refine cj_dup dX3_caseBody_116 rfl ?_
      refine cj_pc (pc' := 117) rfl ?_
      refine cj_bipush (v := 11) dX3_caseBody_117 (by decide) ?_
      refine cj_iconst (v := 0) dX3_caseBody_119 (by decide) ?_
      refine cj_aload_n dX3_caseBody_120 rfl ?_
      obtain ⟨d', k', n', Qr', h1, h2, h3, hT, h⟩ := h
      refine cj_fewer (k' := (k148 - k') + k') (n' := (n149 - n') + n') (by omega) (by omega) ?_
      refine cj_callI (M' := mX5_init) (d' := d') (k' := k') (n' := n') (index := 117) (np := 3) (As := [.int 11, .int 0, .ref a3]) (rest := [.ref q146, .ref a1]) dX3_caseBody_121 lkX3_117 mwX5_init hT h1 rfl rfl (Nat.le_of_ble_eq_true rfl) (fun v9 G151 q150 => ?_)
      replace h := h v9 G151 q150
      obtain ⟨e8, h⟩ := h
      subst e8
      refine cj_nmk (fun k152 n153 e6 e7 => ?_)
      (try rw [← e6] at h); (try rw [← e7] at h)
      refine cj_st (st' := [.ref q146, .ref a1]) rfl ?_
      refine cj_pc (pc' := 124) rfl ?_
      obtain ⟨⟨fs9, e9⟩, h⟩ := h
      obtain ⟨d', k', n', Qr', Qx', h1, h2, h3, hT, hx, h⟩ := h
      refine cj_fewer (k' := (k152 - k') + k') (n' := (n153 - n') + n') (by omega) (by omega) ?_
      refine cj_callV (M' := mX4_add) (d' := d') (k' := k') (n' := n') (index := 123) (np := 1) (As := [.ref q146]) (rest := []) dX3_caseBody_124 lkX3_123 mwX4_add hT h1 rfl rfl (Nat.le_of_ble_eq_true rfl) e9 rfl (fun v9 G155 q154 => ?_) hx
      replace h := h v9 G155 q154
      obtain ⟨e8, h⟩ := h
      subst e8
      refine cj_nmk (fun k156 n157 e6 e7 => ?_)
      (try rw [← e6] at h); (try rw [← e7] at h)
      refine cj_st (st' := []) rfl ?_
      refine cj_aload_n dX3_caseBody_127 rfl ?_
      refine cj_bipush (v := 59) dX3_caseBody_128 (by decide) ?_
      obtain ⟨⟨fs9, e9⟩, h⟩ := h
      obtain ⟨d', k', n', Qr', Qx', h1, h2, h3, hT, hx, h⟩ := h
      refine cj_fewer (k' := (k156 - k') + k') (n' := (n157 - n') + n') (by omega) (by omega) ?_
      refine cj_callV (M' := mX3_expect) (d' := d') (k' := k') (n' := n') (index := 120) (np := 1) (As := [.int 59]) (rest := []) dX3_caseBody_130 lkX3_120 mwX3_expect hT h1 rfl rfl (Nat.le_of_ble_eq_true rfl) e9 rfl (fun v9 G159 q158 => ?_) hx
      replace h := h v9 G159 q158
      obtain ⟨e8, h⟩ := h
      subst e8
      refine cj_nmk (fun k160 n161 e6 e7 => ?_)
      (try rw [← e6] at h); (try rw [← e7] at h)
      refine cj_st (st' := []) rfl ?_
      refine cj_pc (pc' := 133) rfl ?_
      refine cj_aload_n dX3_caseBody_133 rfl ?_
      refine cj_iload dX3_caseBody_134 rfl ?_
      obtain ⟨fs9, e8, e9, h⟩ := h
      refine cj_put flX3_25 dX3_caseBody_136 e8 rfl rfl e9 ?_
      refine cj_nm (fun G162 e7 => ?_)
      rw [← e7] at h
      clear e7
      refine cj_vret rfl dX3_caseBody_139 ?_
      exact h
def wk_X3_match_59 (d : Nat) (v0 : Nat) (v1 : Int32) (v2 : Nat) (v3 : Nat) (v4 : Nat) (v5 : Nat) (Qr : Option Value → cj_G → Prop) (Qx : String → cj_G → Prop) (K : Int32 → Int32 → cj_G → Nat → Nat → Prop) : Nat → Int32 → Int32 → cj_G → Nat → Nat → Prop
  | 0, _, _, _, _, _ => False
  | n + 1, v6, v7, G, k, n1 => ((8 ≤ v7 → K v6 v7 G k n1) ∧ (¬ 8 ≤ v7 → ((v7 = 0 → (sk_V G v0 3 ∧ sk_c_i mX3_takeTagNotIn d k n1 [.ref v0, .int v6] G Qx (fun x44 G41 k42 n43 => (sk_c_r mX3_label d k42 n43 [] G41 Qx (fun x49 G46 k47 n48 => sk_new G46 k47 n48 5 5 [.int 0, .int 0, .null, .int 0, .null] (fun q50 G51 k52 n53 => (sk_n_v mX5_init d k52 n53 [.ref q50, .int 19, .int x44, .ref x49] G51 (fun G55 k56 n57 => (sk_V G55 v2 4 ∧ sk_c_v mX4_add d k56 n57 [.ref v2, .ref q50] G55 Qx (fun G59 k60 n61 => (sk_V G59 v4 4 ∧ sk_c_v mX4_add d k60 n61 [.ref v4, .ref x49] G59 Qx (fun G63 k64 n65 => (sk_V G63 v0 3 ∧ sk_c_v mX3_caseBody d k64 n65 [.ref v0, .ref v4, .int x44, .ref v5, .int v1] G63 Qx (fun G67 k68 n69 => wk_X3_match_59 d v0 v1 v2 v3 v4 v5 Qr Qx K n (v6 ||| ((1 : Int32) <<< (x44 &&& 31))) (v7 + 1) G67 k68 n69)))))))))))))) ∧ (¬ v7 = 0 → (sk_V G v0 3 ∧ sk_c_i mX3_peek d k n1 [.ref v0] G Qx (fun x74 G71 k72 n73 => ((x74 = 125 → K v6 v7 G71 k72 n73) ∧ (¬ x74 = 125 → (sk_V G71 v0 3 ∧ sk_c_i mX3_takeTagNotIn d k72 n73 [.ref v0, .int v6] G71 Qx (fun x80 G77 k78 n79 => (sk_c_r mX3_label d k78 n79 [] G77 Qx (fun x85 G82 k83 n84 => sk_new G82 k83 n84 5 5 [.int 0, .int 0, .null, .int 0, .null] (fun q86 G87 k88 n89 => (sk_n_v mX5_init d k88 n89 [.ref q86, .int 19, .int x80, .ref x85] G87 (fun G91 k92 n93 => (sk_V G91 v2 4 ∧ sk_c_v mX4_add d k92 n93 [.ref v2, .ref q86] G91 Qx (fun G95 k96 n97 => (sk_V G95 v4 4 ∧ sk_c_v mX4_add d k96 n97 [.ref v4, .ref x85] G95 Qx (fun G99 k100 n101 => (sk_V G99 v0 3 ∧ sk_c_v mX3_caseBody d k100 n101 [.ref v0, .ref v4, .int x80, .ref v5, .int v1] G99 Qx (fun G103 k104 n105 => wk_X3_match_59 d v0 v1 v2 v3 v4 v5 Qr Qx K n (v6 ||| ((1 : Int32) <<< (x80 &&& 31))) (v7 + 1) G103 k104 n105)))))))))))))))))))))
def wq_X3_match (d k n1 : Nat) (o : Nat) (a1 : Int32) (G : cj_G) (Qr : Option Value → cj_G → Prop) (Qx : String → cj_G → Prop) : Prop := sk_gi G o 3 2 (fun x1 => sk_pt G o 3 2 (.int (x1 + 1)) (fun G3 => (sk_V G3 o 3 ∧ sk_c_r mX3_comparison d k n1 [.ref o, .int a1] G3 Qx (fun x8 G5 k6 n7 => (sk_V G5 o 3 ∧ sk_c_v mX3_expect d k6 n7 [.ref o, .int 123] G5 Qx (fun G10 k11 n12 => sk_new G10 k11 n12 5 5 [.int 0, .int 0, .null, .int 0, .null] (fun q13 G14 k15 n16 => (sk_n_v mX5_init d k15 n16 [.ref q13, .int 18, .int 0, .null] G14 (fun G18 k19 n20 => (sk_V G18 x8 4 ∧ sk_c_v mX4_add d k19 n20 [.ref x8, .ref q13] G18 Qx (fun G22 k23 n24 => sk_new G22 k23 n24 4 2 [.null, .null] (fun q25 G26 k27 n28 => (sk_n_v mX4_init d k27 n28 [.ref q25] G26 (fun G30 k31 n32 => (sk_c_r mX3_label d k31 n32 [] G30 Qx (fun x37 G34 k35 n36 => (∃ n9 : Nat, wk_X3_match_59 d o a1 x8 q13 q25 x37 Qr Qx (fun w109 w110 G106 k107 n108 => (sk_V G106 o 3 ∧ sk_c_v mX3_expect d k107 n108 [.ref o, .int 125] G106 Qx (fun G112 k113 n114 => sk_pt G112 q13 5 1 (.int w110) (fun G115 => (sk_V G115 x8 4 ∧ sk_c_v mX4_append d k113 n114 [.ref x8, .ref q25] G115 Qx (fun G117 k118 n119 => (sk_V G117 x8 4 ∧ sk_c_v mX4_add d k118 n119 [.ref x8, .ref x37] G117 Qx (fun G121 k122 n123 => Qr (some (.ref x8)) G121)))))))) n9 0 0 G34 k35 n36)))))))))))))))))
set_option maxHeartbeats 4000000 in
set_option maxRecDepth 100000 in
theorem wk_X3_match_59_ok {d k0 n0 : Nat} (hd9 : 6 ≤ d) (v0 : Nat) (v1 : Int32) (v2 : Nat) (v3 : Nat) (v4 : Nat) (v5 : Nat) {Qr : Option Value → cj_G → Prop} {Qx : String → cj_G → Prop} {K : Int32 → Int32 → cj_G → Nat → Nat → Prop} (hK : ∀ (v6 : Int32) (v7 : Int32) (G : cj_G) (k n1 : Nat), K v6 v7 G k n1 → cj_J mX3_match d k0 n0 Qr Qx k n1 143 [(0, .ref v0), (1, .int v1), (2, .ref v2), (3, .ref v3), (4, .ref v4), (5, .ref v5), (6, .int v6), (7, .int v7)] [] G) : ∀ (n : Nat) (v6 : Int32) (v7 : Int32) (G : cj_G) (k n1 : Nat), wk_X3_match_59 d v0 v1 v2 v3 v4 v5 Qr Qx K n v6 v7 G k n1 → cj_J mX3_match d k0 n0 Qr Qx k n1 59 [(0, .ref v0), (1, .int v1), (2, .ref v2), (3, .ref v3), (4, .ref v4), (5, .ref v5), (6, .int v6), (7, .int v7)] [] G := by
  intro n
  induction n with
  | zero => intro v6 v7 G k n1 h; exact absurd h id
  | succ n ih =>
    intro v6 v7 G k n1 h
    unfold wk_X3_match_59 at h
    refine cj_iload dX3_match_59 rfl ?_
    refine cj_bipush (v := 8) dX3_match_61 (by decide) ?_
    refine cj_pc (pc' := 63) rfl ?_
    refine cj_icmp_ge (tgt := 143) dX3_match_63 (by decide) (fun c38 => ?_) (fun c38 => ?_)
    · replace h := h.1 c38
      refine cj_sub (lv' := [(0, .ref v0), (1, .int v1), (2, .ref v2), (3, .ref v3), (4, .ref v4), (5, .ref v5), (6, .int v6), (7, .int v7)]) (by simp) ?_
      exact hK _ _ _ _ _ h
    · replace h := h.2 c38
      refine cj_iload dX3_match_66 rfl ?_
      refine cj_if_eq (tgt := 80) dX3_match_68 (by decide) (fun c39 => ?_) (fun c39 => ?_)
      · replace h := h.1 c39
        refine cj_aload_n dX3_match_80 rfl ?_
        refine cj_pc (pc' := 81) rfl ?_
        refine cj_iload dX3_match_81 rfl ?_
        obtain ⟨⟨fs9, e9⟩, h⟩ := h
        obtain ⟨d', k', n', Qr', Qx', h1, h2, h3, hT, hx, h⟩ := h
        refine cj_fewer (k' := (k - k') + k') (n' := (n1 - n') + n') (by omega) (by omega) ?_
        refine cj_callV (M' := mX3_takeTagNotIn) (d' := d') (k' := k') (n' := n') (index := 125) (np := 1) (As := [.int v6]) (rest := []) dX3_match_83 lkX3_125 mwX3_takeTagNotIn hT h1 rfl rfl (Nat.le_of_ble_eq_true rfl) e9 rfl (fun v9 G41 q40 => ?_) hx
        replace h := h v9 G41 q40
        obtain ⟨x44, e8, h⟩ := h
        subst e8
        refine cj_nmk (fun k42 n43 e6 e7 => ?_)
        (try rw [← e6] at h); (try rw [← e7] at h)
        refine cj_st (st' := [.int x44]) rfl ?_
        refine cj_istore (lv' := [(8, .int x44), (0, .ref v0), (1, .int v1), (2, .ref v2), (3, .ref v3), (4, .ref v4), (5, .ref v5), (6, .int v6), (7, .int v7)]) dX3_match_86 (by decide) rfl ?_
        refine cj_iload dX3_match_88 rfl ?_
        refine cj_pc (pc' := 90) rfl ?_
        refine cj_iconst (v := 1) dX3_match_90 (by decide) ?_
        refine cj_iload dX3_match_91 rfl ?_
        refine cj_ishl dX3_match_93 ?_
        refine cj_ior dX3_match_94 ?_
        refine cj_pc (pc' := 95) rfl ?_
        refine cj_istore (lv' := [(6, .int (v6 ||| ((1 : Int32) <<< (x44 &&& 31)))), (8, .int x44), (0, .ref v0), (1, .int v1), (2, .ref v2), (3, .ref v3), (4, .ref v4), (5, .ref v5), (7, .int v7)]) dX3_match_95 (by decide) rfl ?_
        refine cj_iinc (v := v7 + 1) (lv' := [(7, .int (v7 + 1)), (6, .int (v6 ||| ((1 : Int32) <<< (x44 &&& 31)))), (8, .int x44), (0, .ref v0), (1, .int v1), (2, .ref v2), (3, .ref v3), (4, .ref v4), (5, .ref v5)]) dX3_match_97 rfl rfl (by decide) rfl ?_
        obtain ⟨d', k', n', Qr', Qx', h1, h2, h3, hT, hx, h⟩ := h
        refine cj_fewer (k' := (k42 - k') + k') (n' := (n43 - n') + n') (by omega) (by omega) ?_
        refine cj_callS (M' := mX3_label) (d' := d') (k' := k') (n' := n') (index := 103) (np := 0) (As := []) (rest := []) dX3_match_100 lkX3_103 mwX3_label hT h1 rfl rfl (Nat.le_of_ble_eq_true rfl) (fun v9 G46 q45 => ?_) hx
        replace h := h v9 G46 q45
        obtain ⟨x49, e8, h⟩ := h
        subst e8
        refine cj_nmk (fun k47 n48 e6 e7 => ?_)
        (try rw [← e6] at h); (try rw [← e7] at h)
        refine cj_st (st' := [.ref x49]) rfl ?_
        refine cj_astore (lv' := [(9, .ref x49), (7, .int (v7 + 1)), (6, .int (v6 ||| ((1 : Int32) <<< (x44 &&& 31)))), (8, .int x44), (0, .ref v0), (1, .int v1), (2, .ref v2), (3, .ref v3), (4, .ref v4), (5, .ref v5)]) dX3_match_103 (by decide) rfl ?_
        refine cj_pc (pc' := 105) rfl ?_
        refine cj_aload_n dX3_match_105 rfl ?_
        obtain ⟨h1, h2, h⟩ := h
        refine cj_fewer (k' := (k47 - 1) + 1) (n' := (n48 - 5) + 5) (by omega) (by omega) ?_
        refine cj_new (ci := 5) (fs := [.int 0, .int 0, .null, .int 0, .null]) rfl uw_X5 tyX5_ok klX3_115.1 klX3_115.2.1 klX3_115.2.2 (by intro j hj; rcases (show j = 0 ∨ j = 1 ∨ j = 2 ∨ j = 3 ∨ j = 4 by omega) with rfl | rfl | rfl | rfl | rfl <;> rfl) dX3_match_106 (fun q50 z9 => ?_)
        replace h := h q50 z9
        refine cj_nm (fun G51 e7 => ?_)
        (try rw [← e7] at h)
        clear e7
        refine cj_nmk (fun k52 n53 e6 e7 => ?_)
        (try rw [← e6] at h); (try rw [← e7] at h)
        refine cj_dup dX3_match_109 rfl ?_
        refine cj_bipush (v := 19) dX3_match_110 (by decide) ?_
        refine cj_pc (pc' := 112) rfl ?_
        refine cj_iload dX3_match_112 rfl ?_
        refine cj_aload dX3_match_114 rfl ?_
        obtain ⟨d', k', n', Qr', h1, h2, h3, hT, h⟩ := h
        refine cj_fewer (k' := (k52 - k') + k') (n' := (n53 - n') + n') (by omega) (by omega) ?_
        refine cj_callI (M' := mX5_init) (d' := d') (k' := k') (n' := n') (index := 117) (np := 3) (As := [.int 19, .int x44, .ref x49]) (rest := [.ref q50, .ref v2]) dX3_match_116 lkX3_117 mwX5_init hT h1 rfl rfl (Nat.le_of_ble_eq_true rfl) (fun v9 G55 q54 => ?_)
        replace h := h v9 G55 q54
        obtain ⟨e8, h⟩ := h
        subst e8
        refine cj_nmk (fun k56 n57 e6 e7 => ?_)
        (try rw [← e6] at h); (try rw [← e7] at h)
        refine cj_st (st' := [.ref q50, .ref v2]) rfl ?_
        obtain ⟨⟨fs9, e9⟩, h⟩ := h
        obtain ⟨d', k', n', Qr', Qx', h1, h2, h3, hT, hx, h⟩ := h
        refine cj_fewer (k' := (k56 - k') + k') (n' := (n57 - n') + n') (by omega) (by omega) ?_
        refine cj_callV (M' := mX4_add) (d' := d') (k' := k') (n' := n') (index := 123) (np := 1) (As := [.ref q50]) (rest := []) dX3_match_119 lkX3_123 mwX4_add hT h1 rfl rfl (Nat.le_of_ble_eq_true rfl) e9 rfl (fun v9 G59 q58 => ?_) hx
        replace h := h v9 G59 q58
        obtain ⟨e8, h⟩ := h
        subst e8
        refine cj_nmk (fun k60 n61 e6 e7 => ?_)
        (try rw [← e6] at h); (try rw [← e7] at h)
        refine cj_st (st' := []) rfl ?_
        refine cj_pc (pc' := 122) rfl ?_
        refine cj_aload dX3_match_122 rfl ?_
        refine cj_aload dX3_match_124 rfl ?_
        obtain ⟨⟨fs9, e9⟩, h⟩ := h
        obtain ⟨d', k', n', Qr', Qx', h1, h2, h3, hT, hx, h⟩ := h
        refine cj_fewer (k' := (k60 - k') + k') (n' := (n61 - n') + n') (by omega) (by omega) ?_
        refine cj_callV (M' := mX4_add) (d' := d') (k' := k') (n' := n') (index := 123) (np := 1) (As := [.ref x49]) (rest := []) dX3_match_126 lkX3_123 mwX4_add hT h1 rfl rfl (Nat.le_of_ble_eq_true rfl) e9 rfl (fun v9 G63 q62 => ?_) hx
        replace h := h v9 G63 q62
        obtain ⟨e8, h⟩ := h
        subst e8
        refine cj_nmk (fun k64 n65 e6 e7 => ?_)
        (try rw [← e6] at h); (try rw [← e7] at h)
        refine cj_st (st' := []) rfl ?_
        refine cj_aload_n dX3_match_129 rfl ?_
        refine cj_pc (pc' := 130) rfl ?_
        refine cj_aload dX3_match_130 rfl ?_
        refine cj_iload dX3_match_132 rfl ?_
        refine cj_aload dX3_match_134 rfl ?_
        refine cj_iload_n dX3_match_136 rfl ?_
        refine cj_pc (pc' := 137) rfl ?_
        obtain ⟨⟨fs9, e9⟩, h⟩ := h
        obtain ⟨d', k', n', Qr', Qx', h1, h2, h3, hT, hx, h⟩ := h
        refine cj_fewer (k' := (k64 - k') + k') (n' := (n65 - n') + n') (by omega) (by omega) ?_
        refine cj_callV (M' := mX3_caseBody) (d' := d') (k' := k') (n' := n') (index := 129) (np := 4) (As := [.ref v4, .int x44, .ref v5, .int v1]) (rest := []) dX3_match_137 lkX3_129 mwX3_caseBody hT h1 rfl rfl (Nat.le_of_ble_eq_true rfl) e9 rfl (fun v9 G67 q66 => ?_) hx
        replace h := h v9 G67 q66
        obtain ⟨e8, h⟩ := h
        subst e8
        refine cj_nmk (fun k68 n69 e6 e7 => ?_)
        (try rw [← e6] at h); (try rw [← e7] at h)
        refine cj_st (st' := []) rfl ?_
        refine cj_goto (tgt := 59) dX3_match_140 (by decide) ?_
        refine cj_sub (lv' := [(0, .ref v0), (1, .int v1), (2, .ref v2), (3, .ref v3), (4, .ref v4), (5, .ref v5), (6, .int (v6 ||| ((1 : Int32) <<< (x44 &&& 31)))), (7, .int (v7 + 1))]) (by simp) ?_
        exact ih _ _ _ _ _ h
      · replace h := h.2 c39
        refine cj_aload_n dX3_match_71 rfl ?_
        obtain ⟨⟨fs9, e9⟩, h⟩ := h
        obtain ⟨d', k', n', Qr', Qx', h1, h2, h3, hT, hx, h⟩ := h
        refine cj_fewer (k' := (k - k') + k') (n' := (n1 - n') + n') (by omega) (by omega) ?_
        refine cj_callV (M' := mX3_peek) (d' := d') (k' := k') (n' := n') (index := 64) (np := 0) (As := []) (rest := []) dX3_match_72 lkX3_64 mwX3_peek hT h1 rfl rfl (Nat.le_of_ble_eq_true rfl) e9 rfl (fun v9 G71 q70 => ?_) hx
        replace h := h v9 G71 q70
        obtain ⟨x74, e8, h⟩ := h
        subst e8
        refine cj_nmk (fun k72 n73 e6 e7 => ?_)
        (try rw [← e6] at h); (try rw [← e7] at h)
        refine cj_st (st' := [.int x74]) rfl ?_
        refine cj_pc (pc' := 75) rfl ?_
        refine cj_bipush (v := 125) dX3_match_75 (by decide) ?_
        refine cj_icmp_eq (tgt := 143) dX3_match_77 (by decide) (fun c75 => ?_) (fun c75 => ?_)
        · replace h := h.1 c75
          refine cj_sub (lv' := [(0, .ref v0), (1, .int v1), (2, .ref v2), (3, .ref v3), (4, .ref v4), (5, .ref v5), (6, .int v6), (7, .int v7)]) (by simp) ?_
          exact hK _ _ _ _ _ h
        · replace h := h.2 c75
          refine cj_aload_n dX3_match_80 rfl ?_
          refine cj_iload dX3_match_81 rfl ?_
          refine cj_pc (pc' := 83) rfl ?_
          obtain ⟨⟨fs9, e9⟩, h⟩ := h
          obtain ⟨d', k', n', Qr', Qx', h1, h2, h3, hT, hx, h⟩ := h
          refine cj_fewer (k' := (k72 - k') + k') (n' := (n73 - n') + n') (by omega) (by omega) ?_
          refine cj_callV (M' := mX3_takeTagNotIn) (d' := d') (k' := k') (n' := n') (index := 125) (np := 1) (As := [.int v6]) (rest := []) dX3_match_83 lkX3_125 mwX3_takeTagNotIn hT h1 rfl rfl (Nat.le_of_ble_eq_true rfl) e9 rfl (fun v9 G77 q76 => ?_) hx
          replace h := h v9 G77 q76
          obtain ⟨x80, e8, h⟩ := h
          subst e8
          refine cj_nmk (fun k78 n79 e6 e7 => ?_)
          (try rw [← e6] at h); (try rw [← e7] at h)
          refine cj_st (st' := [.int x80]) rfl ?_
          refine cj_istore (lv' := [(8, .int x80), (0, .ref v0), (1, .int v1), (2, .ref v2), (3, .ref v3), (4, .ref v4), (5, .ref v5), (6, .int v6), (7, .int v7)]) dX3_match_86 (by decide) rfl ?_
          refine cj_iload dX3_match_88 rfl ?_
          refine cj_iconst (v := 1) dX3_match_90 (by decide) ?_
          refine cj_pc (pc' := 91) rfl ?_
          refine cj_iload dX3_match_91 rfl ?_
          refine cj_ishl dX3_match_93 ?_
          refine cj_ior dX3_match_94 ?_
          refine cj_istore (lv' := [(6, .int (v6 ||| ((1 : Int32) <<< (x80 &&& 31)))), (8, .int x80), (0, .ref v0), (1, .int v1), (2, .ref v2), (3, .ref v3), (4, .ref v4), (5, .ref v5), (7, .int v7)]) dX3_match_95 (by decide) rfl ?_
          refine cj_pc (pc' := 97) rfl ?_
          refine cj_iinc (v := v7 + 1) (lv' := [(7, .int (v7 + 1)), (6, .int (v6 ||| ((1 : Int32) <<< (x80 &&& 31)))), (8, .int x80), (0, .ref v0), (1, .int v1), (2, .ref v2), (3, .ref v3), (4, .ref v4), (5, .ref v5)]) dX3_match_97 rfl rfl (by decide) rfl ?_
          obtain ⟨d', k', n', Qr', Qx', h1, h2, h3, hT, hx, h⟩ := h
          refine cj_fewer (k' := (k78 - k') + k') (n' := (n79 - n') + n') (by omega) (by omega) ?_
          refine cj_callS (M' := mX3_label) (d' := d') (k' := k') (n' := n') (index := 103) (np := 0) (As := []) (rest := []) dX3_match_100 lkX3_103 mwX3_label hT h1 rfl rfl (Nat.le_of_ble_eq_true rfl) (fun v9 G82 q81 => ?_) hx
          replace h := h v9 G82 q81
          obtain ⟨x85, e8, h⟩ := h
          subst e8
          refine cj_nmk (fun k83 n84 e6 e7 => ?_)
          (try rw [← e6] at h); (try rw [← e7] at h)
          refine cj_st (st' := [.ref x85]) rfl ?_
          refine cj_astore (lv' := [(9, .ref x85), (7, .int (v7 + 1)), (6, .int (v6 ||| ((1 : Int32) <<< (x80 &&& 31)))), (8, .int x80), (0, .ref v0), (1, .int v1), (2, .ref v2), (3, .ref v3), (4, .ref v4), (5, .ref v5)]) dX3_match_103 (by decide) rfl ?_
          refine cj_aload_n dX3_match_105 rfl ?_
          refine cj_pc (pc' := 106) rfl ?_
          obtain ⟨h1, h2, h⟩ := h
          refine cj_fewer (k' := (k83 - 1) + 1) (n' := (n84 - 5) + 5) (by omega) (by omega) ?_
          refine cj_new (ci := 5) (fs := [.int 0, .int 0, .null, .int 0, .null]) rfl uw_X5 tyX5_ok klX3_115.1 klX3_115.2.1 klX3_115.2.2 (by intro j hj; rcases (show j = 0 ∨ j = 1 ∨ j = 2 ∨ j = 3 ∨ j = 4 by omega) with rfl | rfl | rfl | rfl | rfl <;> rfl) dX3_match_106 (fun q86 z9 => ?_)
          replace h := h q86 z9
          refine cj_nm (fun G87 e7 => ?_)
          (try rw [← e7] at h)
          clear e7
          refine cj_nmk (fun k88 n89 e6 e7 => ?_)
          (try rw [← e6] at h); (try rw [← e7] at h)
          refine cj_dup dX3_match_109 rfl ?_
          refine cj_bipush (v := 19) dX3_match_110 (by decide) ?_
          refine cj_iload dX3_match_112 rfl ?_
          refine cj_pc (pc' := 114) rfl ?_
          refine cj_aload dX3_match_114 rfl ?_
          obtain ⟨d', k', n', Qr', h1, h2, h3, hT, h⟩ := h
          refine cj_fewer (k' := (k88 - k') + k') (n' := (n89 - n') + n') (by omega) (by omega) ?_
          refine cj_callI (M' := mX5_init) (d' := d') (k' := k') (n' := n') (index := 117) (np := 3) (As := [.int 19, .int x80, .ref x85]) (rest := [.ref q86, .ref v2]) dX3_match_116 lkX3_117 mwX5_init hT h1 rfl rfl (Nat.le_of_ble_eq_true rfl) (fun v9 G91 q90 => ?_)
          replace h := h v9 G91 q90
          obtain ⟨e8, h⟩ := h
          subst e8
          refine cj_nmk (fun k92 n93 e6 e7 => ?_)
          (try rw [← e6] at h); (try rw [← e7] at h)
          refine cj_st (st' := [.ref q86, .ref v2]) rfl ?_
          obtain ⟨⟨fs9, e9⟩, h⟩ := h
          obtain ⟨d', k', n', Qr', Qx', h1, h2, h3, hT, hx, h⟩ := h
          refine cj_fewer (k' := (k92 - k') + k') (n' := (n93 - n') + n') (by omega) (by omega) ?_
          refine cj_callV (M' := mX4_add) (d' := d') (k' := k') (n' := n') (index := 123) (np := 1) (As := [.ref q86]) (rest := []) dX3_match_119 lkX3_123 mwX4_add hT h1 rfl rfl (Nat.le_of_ble_eq_true rfl) e9 rfl (fun v9 G95 q94 => ?_) hx
          replace h := h v9 G95 q94
          obtain ⟨e8, h⟩ := h
          subst e8
          refine cj_nmk (fun k96 n97 e6 e7 => ?_)
          (try rw [← e6] at h); (try rw [← e7] at h)
          refine cj_st (st' := []) rfl ?_
          refine cj_aload dX3_match_122 rfl ?_
          refine cj_pc (pc' := 124) rfl ?_
          refine cj_aload dX3_match_124 rfl ?_
          obtain ⟨⟨fs9, e9⟩, h⟩ := h
          obtain ⟨d', k', n', Qr', Qx', h1, h2, h3, hT, hx, h⟩ := h
          refine cj_fewer (k' := (k96 - k') + k') (n' := (n97 - n') + n') (by omega) (by omega) ?_
          refine cj_callV (M' := mX4_add) (d' := d') (k' := k') (n' := n') (index := 123) (np := 1) (As := [.ref x85]) (rest := []) dX3_match_126 lkX3_123 mwX4_add hT h1 rfl rfl (Nat.le_of_ble_eq_true rfl) e9 rfl (fun v9 G99 q98 => ?_) hx
          replace h := h v9 G99 q98
          obtain ⟨e8, h⟩ := h
          subst e8
          refine cj_nmk (fun k100 n101 e6 e7 => ?_)
          (try rw [← e6] at h); (try rw [← e7] at h)
          refine cj_st (st' := []) rfl ?_
          refine cj_aload_n dX3_match_129 rfl ?_
          refine cj_aload dX3_match_130 rfl ?_
          refine cj_pc (pc' := 132) rfl ?_
          refine cj_iload dX3_match_132 rfl ?_
          refine cj_aload dX3_match_134 rfl ?_
          refine cj_iload_n dX3_match_136 rfl ?_
          obtain ⟨⟨fs9, e9⟩, h⟩ := h
          obtain ⟨d', k', n', Qr', Qx', h1, h2, h3, hT, hx, h⟩ := h
          refine cj_fewer (k' := (k100 - k') + k') (n' := (n101 - n') + n') (by omega) (by omega) ?_
          refine cj_callV (M' := mX3_caseBody) (d' := d') (k' := k') (n' := n') (index := 129) (np := 4) (As := [.ref v4, .int x80, .ref v5, .int v1]) (rest := []) dX3_match_137 lkX3_129 mwX3_caseBody hT h1 rfl rfl (Nat.le_of_ble_eq_true rfl) e9 rfl (fun v9 G103 q102 => ?_) hx
          replace h := h v9 G103 q102
          obtain ⟨e8, h⟩ := h
          subst e8
          refine cj_nmk (fun k104 n105 e6 e7 => ?_)
          (try rw [← e6] at h); (try rw [← e7] at h)
          refine cj_st (st' := []) rfl ?_
          refine cj_pc (pc' := 140) rfl ?_
          refine cj_goto (tgt := 59) dX3_match_140 (by decide) ?_
          refine cj_sub (lv' := [(0, .ref v0), (1, .int v1), (2, .ref v2), (3, .ref v3), (4, .ref v4), (5, .ref v5), (6, .int (v6 ||| ((1 : Int32) <<< (x80 &&& 31)))), (7, .int (v7 + 1))]) (by simp) ?_
          exact ih _ _ _ _ _ h
set_option maxHeartbeats 4000000 in
set_option maxRecDepth 100000 in
theorem tq_X3_match {d k n1 : Nat} (hd9 : 6 ≤ d) {o : Nat} {a1 : Int32} {G : cj_G} {Qr : Option Value → cj_G → Prop} {Qx : String → cj_G → Prop} (h : wq_X3_match d k n1 o a1 G Qr Qx) : cj_T mX3_match d k n1 [.ref o, .int a1] G Qr Qx := by
  refine cj_T_of (by decide +kernel) (Nat.le_of_ble_eq_true rfl) ?_
  refine cj_lvs (lv' := [(0, .ref o), (1, .int a1)]) rfl ?_
  unfold wq_X3_match at h
  refine cj_aload_n dX3_match_0 rfl ?_
  refine cj_dup dX3_match_1 rfl ?_
  obtain ⟨fs9, x1, g2, e9, h⟩ := h
  refine cj_get flX3_19 dX3_match_2 g2 e9 ?_
  refine cj_pc (pc' := 5) rfl ?_
  refine cj_iconst (v := 1) dX3_match_5 (by decide) ?_
  refine cj_iadd dX3_match_6 ?_
  obtain ⟨fs9, e8, e9, h⟩ := h
  refine cj_put flX3_19 dX3_match_7 e8 rfl rfl e9 ?_
  refine cj_nm (fun G3 e7 => ?_)
  rw [← e7] at h
  clear e7
  refine cj_aload_n dX3_match_10 rfl ?_
  refine cj_pc (pc' := 11) rfl ?_
  refine cj_iload_n dX3_match_11 rfl ?_
  obtain ⟨⟨fs9, e9⟩, h⟩ := h
  obtain ⟨d', k', n', Qr', Qx', h1, h2, h3, hT, hx, h⟩ := h
  refine cj_fewer (k' := (k - k') + k') (n' := (n1 - n') + n') (by omega) (by omega) ?_
  refine cj_callV (M' := mX3_comparison) (d' := d') (k' := k') (n' := n') (index := 71) (np := 1) (As := [.int a1]) (rest := []) dX3_match_12 lkX3_71 mwX3_comparison hT h1 rfl rfl (Nat.le_of_ble_eq_true rfl) e9 rfl (fun v9 G5 q4 => ?_) hx
  replace h := h v9 G5 q4
  obtain ⟨x8, e8, h⟩ := h
  subst e8
  refine cj_nmk (fun k6 n7 e6 e7 => ?_)
  (try rw [← e6] at h); (try rw [← e7] at h)
  refine cj_st (st' := [.ref x8]) rfl ?_
  refine cj_astore_n (lv' := [(2, .ref x8), (0, .ref o), (1, .int a1)]) dX3_match_15 (by decide) rfl ?_
  refine cj_aload_n dX3_match_16 rfl ?_
  refine cj_pc (pc' := 17) rfl ?_
  refine cj_bipush (v := 123) dX3_match_17 (by decide) ?_
  obtain ⟨⟨fs9, e9⟩, h⟩ := h
  obtain ⟨d', k', n', Qr', Qx', h1, h2, h3, hT, hx, h⟩ := h
  refine cj_fewer (k' := (k6 - k') + k') (n' := (n7 - n') + n') (by omega) (by omega) ?_
  refine cj_callV (M' := mX3_expect) (d' := d') (k' := k') (n' := n') (index := 120) (np := 1) (As := [.int 123]) (rest := []) dX3_match_19 lkX3_120 mwX3_expect hT h1 rfl rfl (Nat.le_of_ble_eq_true rfl) e9 rfl (fun v9 G10 q9 => ?_) hx
  replace h := h v9 G10 q9
  obtain ⟨e8, h⟩ := h
  subst e8
  refine cj_nmk (fun k11 n12 e6 e7 => ?_)
  (try rw [← e6] at h); (try rw [← e7] at h)
  refine cj_st (st' := []) rfl ?_
  obtain ⟨h1, h2, h⟩ := h
  refine cj_fewer (k' := (k11 - 1) + 1) (n' := (n12 - 5) + 5) (by omega) (by omega) ?_
  refine cj_new (ci := 5) (fs := [.int 0, .int 0, .null, .int 0, .null]) rfl uw_X5 tyX5_ok klX3_115.1 klX3_115.2.1 klX3_115.2.2 (by intro j hj; rcases (show j = 0 ∨ j = 1 ∨ j = 2 ∨ j = 3 ∨ j = 4 by omega) with rfl | rfl | rfl | rfl | rfl <;> rfl) dX3_match_22 (fun q13 z9 => ?_)
  replace h := h q13 z9
  refine cj_nm (fun G14 e7 => ?_)
  (try rw [← e7] at h)
  clear e7
  refine cj_nmk (fun k15 n16 e6 e7 => ?_)
  (try rw [← e6] at h); (try rw [← e7] at h)
  refine cj_dup dX3_match_25 rfl ?_
  refine cj_pc (pc' := 26) rfl ?_
  refine cj_bipush (v := 18) dX3_match_26 (by decide) ?_
  refine cj_iconst (v := 0) dX3_match_28 (by decide) ?_
  refine cj_null dX3_match_29 ?_
  obtain ⟨d', k', n', Qr', h1, h2, h3, hT, h⟩ := h
  refine cj_fewer (k' := (k15 - k') + k') (n' := (n16 - n') + n') (by omega) (by omega) ?_
  refine cj_callI (M' := mX5_init) (d' := d') (k' := k') (n' := n') (index := 117) (np := 3) (As := [.int 18, .int 0, .null]) (rest := [.ref q13]) dX3_match_30 lkX3_117 mwX5_init hT h1 rfl rfl (Nat.le_of_ble_eq_true rfl) (fun v9 G18 q17 => ?_)
  replace h := h v9 G18 q17
  obtain ⟨e8, h⟩ := h
  subst e8
  refine cj_nmk (fun k19 n20 e6 e7 => ?_)
  (try rw [← e6] at h); (try rw [← e7] at h)
  refine cj_st (st' := [.ref q13]) rfl ?_
  refine cj_pc (pc' := 33) rfl ?_
  refine cj_astore_n (lv' := [(3, .ref q13), (2, .ref x8), (0, .ref o), (1, .int a1)]) dX3_match_33 (by decide) rfl ?_
  refine cj_aload_n dX3_match_34 rfl ?_
  refine cj_aload_n dX3_match_35 rfl ?_
  obtain ⟨⟨fs9, e9⟩, h⟩ := h
  obtain ⟨d', k', n', Qr', Qx', h1, h2, h3, hT, hx, h⟩ := h
  refine cj_fewer (k' := (k19 - k') + k') (n' := (n20 - n') + n') (by omega) (by omega) ?_
  refine cj_callV (M' := mX4_add) (d' := d') (k' := k') (n' := n') (index := 123) (np := 1) (As := [.ref q13]) (rest := []) dX3_match_36 lkX3_123 mwX4_add hT h1 rfl rfl (Nat.le_of_ble_eq_true rfl) e9 rfl (fun v9 G22 q21 => ?_) hx
  replace h := h v9 G22 q21
  obtain ⟨e8, h⟩ := h
  subst e8
  refine cj_nmk (fun k23 n24 e6 e7 => ?_)
  (try rw [← e6] at h); (try rw [← e7] at h)
  refine cj_st (st' := []) rfl ?_
  refine cj_pc (pc' := 39) rfl ?_
  obtain ⟨h1, h2, h⟩ := h
  refine cj_fewer (k' := (k23 - 1) + 1) (n' := (n24 - 2) + 2) (by omega) (by omega) ?_
  refine cj_new (ci := 4) (fs := [.null, .null]) rfl uw_X4 tyX4_ok klX3_43.1 klX3_43.2.1 klX3_43.2.2 (by intro j hj; rcases (show j = 0 ∨ j = 1 by omega) with rfl | rfl <;> rfl) dX3_match_39 (fun q25 z9 => ?_)
  replace h := h q25 z9
  refine cj_nm (fun G26 e7 => ?_)
  (try rw [← e7] at h)
  clear e7
  refine cj_nmk (fun k27 n28 e6 e7 => ?_)
  (try rw [← e6] at h); (try rw [← e7] at h)
  refine cj_dup dX3_match_42 rfl ?_
  obtain ⟨d', k', n', Qr', h1, h2, h3, hT, h⟩ := h
  refine cj_fewer (k' := (k27 - k') + k') (n' := (n28 - n') + n') (by omega) (by omega) ?_
  refine cj_callIN (M' := mX4_init) (d' := d') (k' := k') (n' := n') (index := 55) (np := 0) (As := []) (rest := [.ref q25]) dX3_match_43 lkX3_55 mwX4_init hT h1 rfl rfl (Nat.le_of_ble_eq_true rfl) (fun v9 G30 q29 => ?_)
  replace h := h v9 G30 q29
  obtain ⟨e8, h⟩ := h
  subst e8
  refine cj_nmk (fun k31 n32 e6 e7 => ?_)
  (try rw [← e6] at h); (try rw [← e7] at h)
  refine cj_st (st' := [.ref q25]) rfl ?_
  refine cj_astore (lv' := [(4, .ref q25), (3, .ref q13), (2, .ref x8), (0, .ref o), (1, .int a1)]) dX3_match_46 (by decide) rfl ?_
  refine cj_pc (pc' := 48) rfl ?_
  obtain ⟨d', k', n', Qr', Qx', h1, h2, h3, hT, hx, h⟩ := h
  refine cj_fewer (k' := (k31 - k') + k') (n' := (n32 - n') + n') (by omega) (by omega) ?_
  refine cj_callS (M' := mX3_label) (d' := d') (k' := k') (n' := n') (index := 103) (np := 0) (As := []) (rest := []) dX3_match_48 lkX3_103 mwX3_label hT h1 rfl rfl (Nat.le_of_ble_eq_true rfl) (fun v9 G34 q33 => ?_) hx
  replace h := h v9 G34 q33
  obtain ⟨x37, e8, h⟩ := h
  subst e8
  refine cj_nmk (fun k35 n36 e6 e7 => ?_)
  (try rw [← e6] at h); (try rw [← e7] at h)
  refine cj_st (st' := [.ref x37]) rfl ?_
  refine cj_astore (lv' := [(5, .ref x37), (4, .ref q25), (3, .ref q13), (2, .ref x8), (0, .ref o), (1, .int a1)]) dX3_match_51 (by decide) rfl ?_
  refine cj_iconst (v := 0) dX3_match_53 (by decide) ?_
  refine cj_istore (lv' := [(6, .int 0), (5, .ref x37), (4, .ref q25), (3, .ref q13), (2, .ref x8), (0, .ref o), (1, .int a1)]) dX3_match_54 (by decide) rfl ?_
  refine cj_pc (pc' := 56) rfl ?_
  refine cj_iconst (v := 0) dX3_match_56 (by decide) ?_
  refine cj_istore (lv' := [(7, .int 0), (6, .int 0), (5, .ref x37), (4, .ref q25), (3, .ref q13), (2, .ref x8), (0, .ref o), (1, .int a1)]) dX3_match_57 (by decide) rfl ?_
  obtain ⟨n9, h⟩ := h
  refine cj_sub (lv' := [(0, .ref o), (1, .int a1), (2, .ref x8), (3, .ref q13), (4, .ref q25), (5, .ref x37), (6, .int 0), (7, .int 0)]) (by simp) ?_
  refine wk_X3_match_59_ok hd9 _ _ _ _ _ _ ?_ n9 _ _ _ _ _ h
  clear h
  intro w109 w110 G106 k107 n108 h
  refine cj_aload_n dX3_match_143 rfl ?_
  refine cj_bipush (v := 125) dX3_match_144 (by decide) ?_
  obtain ⟨⟨fs9, e9⟩, h⟩ := h
  obtain ⟨d', k', n', Qr', Qx', h1, h2, h3, hT, hx, h⟩ := h
  refine cj_fewer (k' := (k107 - k') + k') (n' := (n108 - n') + n') (by omega) (by omega) ?_
  refine cj_callV (M' := mX3_expect) (d' := d') (k' := k') (n' := n') (index := 120) (np := 1) (As := [.int 125]) (rest := []) dX3_match_146 lkX3_120 mwX3_expect hT h1 rfl rfl (Nat.le_of_ble_eq_true rfl) e9 rfl (fun v9 G112 q111 => ?_) hx
  replace h := h v9 G112 q111
  obtain ⟨e8, h⟩ := h
  subst e8
  refine cj_nmk (fun k113 n114 e6 e7 => ?_)
  (try rw [← e6] at h); (try rw [← e7] at h)
  refine cj_st (st' := []) rfl ?_
  refine cj_pc (pc' := 149) rfl ?_
  refine cj_aload_n dX3_match_149 rfl ?_
  refine cj_iload dX3_match_150 rfl ?_
  obtain ⟨fs9, e8, e9, h⟩ := h
  refine cj_put flX3_133 dX3_match_152 e8 rfl rfl e9 ?_
  refine cj_nm (fun G115 e7 => ?_)
  rw [← e7] at h
  clear e7
  refine cj_aload_n dX3_match_155 rfl ?_
  refine cj_pc (pc' := 156) rfl ?_
  refine cj_aload dX3_match_156 rfl ?_
  obtain ⟨⟨fs9, e9⟩, h⟩ := h
  obtain ⟨d', k', n', Qr', Qx', h1, h2, h3, hT, hx, h⟩ := h
  refine cj_fewer (k' := (k113 - k') + k') (n' := (n114 - n') + n') (by omega) (by omega) ?_
  refine cj_callV (M' := mX4_append) (d' := d') (k' := k') (n' := n') (index := 74) (np := 1) (As := [.ref q25]) (rest := []) dX3_match_158 lkX3_74 mwX4_append hT h1 rfl rfl (Nat.le_of_ble_eq_true rfl) e9 rfl (fun v9 G117 q116 => ?_) hx
  replace h := h v9 G117 q116
  obtain ⟨e8, h⟩ := h
  subst e8
  refine cj_nmk (fun k118 n119 e6 e7 => ?_)
  (try rw [← e6] at h); (try rw [← e7] at h)
  refine cj_st (st' := []) rfl ?_
  refine cj_aload_n dX3_match_161 rfl ?_
  refine cj_aload dX3_match_162 rfl ?_
  refine cj_pc (pc' := 164) rfl ?_
  obtain ⟨⟨fs9, e9⟩, h⟩ := h
  obtain ⟨d', k', n', Qr', Qx', h1, h2, h3, hT, hx, h⟩ := h
  refine cj_fewer (k' := (k118 - k') + k') (n' := (n119 - n') + n') (by omega) (by omega) ?_
  refine cj_callV (M' := mX4_add) (d' := d') (k' := k') (n' := n') (index := 123) (np := 1) (As := [.ref x37]) (rest := []) dX3_match_164 lkX3_123 mwX4_add hT h1 rfl rfl (Nat.le_of_ble_eq_true rfl) e9 rfl (fun v9 G121 q120 => ?_) hx
  replace h := h v9 G121 q120
  obtain ⟨e8, h⟩ := h
  subst e8
  refine cj_nmk (fun k122 n123 e6 e7 => ?_)
  (try rw [← e6] at h); (try rw [← e7] at h)
  refine cj_st (st' := []) rfl ?_
  refine cj_aload_n dX3_match_167 rfl ?_
  refine cj_aret rfl dX3_match_168 ?_
  exact h
def wk_X3_expression_34 (d : Nat) (v0 : Nat) (v1 : Int32) (v2 : Int32) (v3 : Nat) (v4 : Nat) (Qr : Option Value → cj_G → Prop) (Qx : String → cj_G → Prop) (K : Int32 → cj_G → Nat → Nat → Prop) : Nat → Int32 → cj_G → Nat → Nat → Prop
  | 0, _, _, _, _ => False
  | n + 1, v5, G, k, n1 => sk_gi G v0 3 1 (fun x20 => ((x20 ≤ v5 → K v5 G k n1) ∧ (¬ x20 ≤ v5 → (sk_V G v0 3 ∧ sk_c_i mX3_beginsHead d k n1 [.ref v0] G Qx (fun x27 G24 k25 n26 => ((x27 = 0 → K v5 G24 k25 n26) ∧ (¬ x27 = 0 → (sk_V G24 v0 3 ∧ sk_c_v mX3_head d k25 n26 [.ref v0, .ref v3, .ref v4, .int v1] G24 Qx (fun G30 k31 n32 => wk_X3_expression_34 d v0 v1 v2 v3 v4 Qr Qx K n (v5 + 1) G30 k31 n32)))))))))
def wq_X3_expression (d k n1 : Nat) (o : Nat) (a1 : Int32) (G : cj_G) (Qr : Option Value → cj_G → Prop) (Qx : String → cj_G → Prop) : Prop := ((a1 ≤ 5 → sk_gi G o 3 4 (fun x2 => sk_new G k n1 4 2 [.null, .null] (fun q4 G5 k6 n7 => (sk_n_v mX4_init d k6 n7 [.ref q4] G5 (fun G9 k10 n11 => sk_new G9 k10 n11 4 2 [.null, .null] (fun q12 G13 k14 n15 => (sk_n_v mX4_init d k14 n15 [.ref q12] G13 (fun G17 k18 n19 => (∃ n9 : Nat, wk_X3_expression_34 d o a1 x2 q4 q12 Qr Qx (fun w36 G33 k34 n35 => (sk_V G33 o 3 ∧ sk_c_i mX3_peek d k34 n35 [.ref o] G33 Qx (fun x41 G38 k39 n40 => ((¬ x41 = 63 → (sk_V G38 o 3 ∧ sk_c_r mX3_comparison d k39 n40 [.ref o, .int a1] G38 Qx (fun x47 G44 k45 n46 => (sk_V G44 q4 4 ∧ sk_c_v mX4_append d k45 n46 [.ref q4, .ref x47] G44 Qx (fun G49 k50 n51 => (sk_V G49 q4 4 ∧ sk_c_v mX4_append d k50 n51 [.ref q4, .ref q12] G49 Qx (fun G53 k54 n55 => sk_pt G53 o 3 4 (.int x2) (fun G56 => Qr (some (.ref q4)) G56)))))))) ∧ (x41 = 63 → (sk_V G38 o 3 ∧ sk_c_r mX3_match d k39 n40 [.ref o, .int a1] G38 Qx (fun x61 G58 k59 n60 => (sk_V G58 q4 4 ∧ sk_c_v mX4_append d k59 n60 [.ref q4, .ref x61] G58 Qx (fun G63 k64 n65 => (sk_V G63 q4 4 ∧ sk_c_v mX4_append d k64 n65 [.ref q4, .ref q12] G63 Qx (fun G67 k68 n69 => sk_pt G67 o 3 4 (.int x2) (fun G70 => Qr (some (.ref q4)) G70)))))))))))) n9 0 G17 k18 n19))))))))) ∧ (¬ a1 ≤ 5 → (sk_V G o 3 ∧ sk_c_v mX3_refuse d k n1 [.ref o] G Qx (fun G72 k73 n74 => sk_gi G72 o 3 4 (fun x75 => sk_new G72 k73 n74 4 2 [.null, .null] (fun q77 G78 k79 n80 => (sk_n_v mX4_init d k79 n80 [.ref q77] G78 (fun G82 k83 n84 => sk_new G82 k83 n84 4 2 [.null, .null] (fun q85 G86 k87 n88 => (sk_n_v mX4_init d k87 n88 [.ref q85] G86 (fun G90 k91 n92 => (∃ n9 : Nat, wk_X3_expression_34 d o a1 x75 q77 q85 Qr Qx (fun w96 G93 k94 n95 => (sk_V G93 o 3 ∧ sk_c_i mX3_peek d k94 n95 [.ref o] G93 Qx (fun x101 G98 k99 n100 => ((¬ x101 = 63 → (sk_V G98 o 3 ∧ sk_c_r mX3_comparison d k99 n100 [.ref o, .int a1] G98 Qx (fun x107 G104 k105 n106 => (sk_V G104 q77 4 ∧ sk_c_v mX4_append d k105 n106 [.ref q77, .ref x107] G104 Qx (fun G109 k110 n111 => (sk_V G109 q77 4 ∧ sk_c_v mX4_append d k110 n111 [.ref q77, .ref q85] G109 Qx (fun G113 k114 n115 => sk_pt G113 o 3 4 (.int x75) (fun G116 => Qr (some (.ref q77)) G116)))))))) ∧ (x101 = 63 → (sk_V G98 o 3 ∧ sk_c_r mX3_match d k99 n100 [.ref o, .int a1] G98 Qx (fun x121 G118 k119 n120 => (sk_V G118 q77 4 ∧ sk_c_v mX4_append d k119 n120 [.ref q77, .ref x121] G118 Qx (fun G123 k124 n125 => (sk_V G123 q77 4 ∧ sk_c_v mX4_append d k124 n125 [.ref q77, .ref q85] G123 Qx (fun G127 k128 n129 => sk_pt G127 o 3 4 (.int x75) (fun G130 => Qr (some (.ref q77)) G130)))))))))))) n9 0 G90 k91 n92))))))))))))
set_option maxHeartbeats 4000000 in
set_option maxRecDepth 100000 in
theorem wk_X3_expression_34_ok {d k0 n0 : Nat} (hd9 : 6 ≤ d) (v0 : Nat) (v1 : Int32) (v2 : Int32) (v3 : Nat) (v4 : Nat) {Qr : Option Value → cj_G → Prop} {Qx : String → cj_G → Prop} {K : Int32 → cj_G → Nat → Nat → Prop} (hK : ∀ (v5 : Int32) (G : cj_G) (k n1 : Nat), K v5 G k n1 → cj_J mX3_expression d k0 n0 Qr Qx k n1 64 [(0, .ref v0), (1, .int v1), (2, .int v2), (3, .ref v3), (4, .ref v4), (5, .int v5)] [] G) : ∀ (n : Nat) (v5 : Int32) (G : cj_G) (k n1 : Nat), wk_X3_expression_34 d v0 v1 v2 v3 v4 Qr Qx K n v5 G k n1 → cj_J mX3_expression d k0 n0 Qr Qx k n1 34 [(0, .ref v0), (1, .int v1), (2, .int v2), (3, .ref v3), (4, .ref v4), (5, .int v5)] [] G := by
  intro n
  induction n with
  | zero => intro v5 G k n1 h; exact absurd h id
  | succ n ih =>
    intro v5 G k n1 h
    unfold wk_X3_expression_34 at h
    refine cj_iload dX3_expression_34 rfl ?_
    refine cj_pc (pc' := 36) rfl ?_
    refine cj_aload_n dX3_expression_36 rfl ?_
    obtain ⟨fs9, x20, g21, e9, h⟩ := h
    refine cj_get flX3_15 dX3_expression_37 g21 e9 ?_
    refine cj_icmp_ge (tgt := 64) dX3_expression_40 (by decide) (fun c22 => ?_) (fun c22 => ?_)
    · replace h := h.1 c22
      refine cj_sub (lv' := [(0, .ref v0), (1, .int v1), (2, .int v2), (3, .ref v3), (4, .ref v4), (5, .int v5)]) (by simp) ?_
      exact hK _ _ _ _ h
    · replace h := h.2 c22
      refine cj_aload_n dX3_expression_43 rfl ?_
      refine cj_pc (pc' := 44) rfl ?_
      obtain ⟨⟨fs9, e9⟩, h⟩ := h
      obtain ⟨d', k', n', Qr', Qx', h1, h2, h3, hT, hx, h⟩ := h
      refine cj_fewer (k' := (k - k') + k') (n' := (n1 - n') + n') (by omega) (by omega) ?_
      refine cj_callV (M' := mX3_beginsHead) (d' := d') (k' := k') (n' := n') (index := 56) (np := 0) (As := []) (rest := []) dX3_expression_44 lkX3_56 mwX3_beginsHead hT h1 rfl rfl (Nat.le_of_ble_eq_true rfl) e9 rfl (fun v9 G24 q23 => ?_) hx
      replace h := h v9 G24 q23
      obtain ⟨x27, e8, h⟩ := h
      subst e8
      refine cj_nmk (fun k25 n26 e6 e7 => ?_)
      (try rw [← e6] at h); (try rw [← e7] at h)
      refine cj_st (st' := [.int x27]) rfl ?_
      refine cj_if_eq (tgt := 64) dX3_expression_47 (by decide) (fun c28 => ?_) (fun c28 => ?_)
      · replace h := h.1 c28
        refine cj_sub (lv' := [(0, .ref v0), (1, .int v1), (2, .int v2), (3, .ref v3), (4, .ref v4), (5, .int v5)]) (by simp) ?_
        exact hK _ _ _ _ h
      · replace h := h.2 c28
        refine cj_aload_n dX3_expression_50 rfl ?_
        refine cj_aload_n dX3_expression_51 rfl ?_
        refine cj_pc (pc' := 52) rfl ?_
        refine cj_aload dX3_expression_52 rfl ?_
        refine cj_iload_n dX3_expression_54 rfl ?_
        obtain ⟨⟨fs9, e9⟩, h⟩ := h
        obtain ⟨d', k', n', Qr', Qx', h1, h2, h3, hT, hx, h⟩ := h
        refine cj_fewer (k' := (k25 - k') + k') (n' := (n26 - n') + n') (by omega) (by omega) ?_
        refine cj_callV (M' := mX3_head) (d' := d') (k' := k') (n' := n') (index := 60) (np := 3) (As := [.ref v3, .ref v4, .int v1]) (rest := []) dX3_expression_55 lkX3_60 mwX3_head hT h1 rfl rfl (Nat.le_of_ble_eq_true rfl) e9 rfl (fun v9 G30 q29 => ?_) hx
        replace h := h v9 G30 q29
        obtain ⟨e8, h⟩ := h
        subst e8
        refine cj_nmk (fun k31 n32 e6 e7 => ?_)
        (try rw [← e6] at h); (try rw [← e7] at h)
        refine cj_st (st' := []) rfl ?_
        refine cj_iinc (v := v5 + 1) (lv' := [(5, .int (v5 + 1)), (0, .ref v0), (1, .int v1), (2, .int v2), (3, .ref v3), (4, .ref v4)]) dX3_expression_58 rfl rfl (by decide) rfl ?_
        refine cj_pc (pc' := 61) rfl ?_
        refine cj_goto (tgt := 34) dX3_expression_61 (by decide) ?_
        refine cj_sub (lv' := [(0, .ref v0), (1, .int v1), (2, .int v2), (3, .ref v3), (4, .ref v4), (5, .int (v5 + 1))]) (by simp) ?_
        exact ih _ _ _ _ h
set_option maxHeartbeats 4000000 in
set_option maxRecDepth 100000 in
theorem tq_X3_expression {d k n1 : Nat} (hd9 : 6 ≤ d) {o : Nat} {a1 : Int32} {G : cj_G} {Qr : Option Value → cj_G → Prop} {Qx : String → cj_G → Prop} (h : wq_X3_expression d k n1 o a1 G Qr Qx) : cj_T mX3_expression d k n1 [.ref o, .int a1] G Qr Qx := by
  refine cj_T_of (by decide +kernel) (Nat.le_of_ble_eq_true rfl) ?_
  refine cj_lvs (lv' := [(0, .ref o), (1, .int a1)]) rfl ?_
  unfold wq_X3_expression at h
  refine cj_iload_n dX3_expression_0 rfl ?_
  refine cj_iconst (v := 5) dX3_expression_1 (by decide) ?_
  refine cj_icmp_le (tgt := 9) dX3_expression_2 (by decide) (fun c1 => ?_) (fun c1 => ?_)
  · replace h := h.1 c1
    refine cj_aload_n dX3_expression_9 rfl ?_
    refine cj_pc (pc' := 10) rfl ?_
    obtain ⟨fs9, x2, g3, e9, h⟩ := h
    refine cj_get flX3_25 dX3_expression_10 g3 e9 ?_
    refine cj_istore_n (lv' := [(2, .int x2), (0, .ref o), (1, .int a1)]) dX3_expression_13 (by decide) rfl ?_
    obtain ⟨h1, h2, h⟩ := h
    refine cj_fewer (k' := (k - 1) + 1) (n' := (n1 - 2) + 2) (by omega) (by omega) ?_
    refine cj_new (ci := 4) (fs := [.null, .null]) rfl uw_X4 tyX4_ok klX3_43.1 klX3_43.2.1 klX3_43.2.2 (by intro j hj; rcases (show j = 0 ∨ j = 1 by omega) with rfl | rfl <;> rfl) dX3_expression_14 (fun q4 z9 => ?_)
    replace h := h q4 z9
    refine cj_nm (fun G5 e7 => ?_)
    (try rw [← e7] at h)
    clear e7
    refine cj_nmk (fun k6 n7 e6 e7 => ?_)
    (try rw [← e6] at h); (try rw [← e7] at h)
    refine cj_dup dX3_expression_17 rfl ?_
    refine cj_pc (pc' := 18) rfl ?_
    obtain ⟨d', k', n', Qr', h1, h2, h3, hT, h⟩ := h
    refine cj_fewer (k' := (k6 - k') + k') (n' := (n7 - n') + n') (by omega) (by omega) ?_
    refine cj_callIN (M' := mX4_init) (d' := d') (k' := k') (n' := n') (index := 55) (np := 0) (As := []) (rest := [.ref q4]) dX3_expression_18 lkX3_55 mwX4_init hT h1 rfl rfl (Nat.le_of_ble_eq_true rfl) (fun v9 G9 q8 => ?_)
    replace h := h v9 G9 q8
    obtain ⟨e8, h⟩ := h
    subst e8
    refine cj_nmk (fun k10 n11 e6 e7 => ?_)
    (try rw [← e6] at h); (try rw [← e7] at h)
    refine cj_st (st' := [.ref q4]) rfl ?_
    refine cj_astore_n (lv' := [(3, .ref q4), (2, .int x2), (0, .ref o), (1, .int a1)]) dX3_expression_21 (by decide) rfl ?_
    obtain ⟨h1, h2, h⟩ := h
    refine cj_fewer (k' := (k10 - 1) + 1) (n' := (n11 - 2) + 2) (by omega) (by omega) ?_
    refine cj_new (ci := 4) (fs := [.null, .null]) rfl uw_X4 tyX4_ok klX3_43.1 klX3_43.2.1 klX3_43.2.2 (by intro j hj; rcases (show j = 0 ∨ j = 1 by omega) with rfl | rfl <;> rfl) dX3_expression_22 (fun q12 z9 => ?_)
    replace h := h q12 z9
    refine cj_nm (fun G13 e7 => ?_)
    (try rw [← e7] at h)
    clear e7
    refine cj_nmk (fun k14 n15 e6 e7 => ?_)
    (try rw [← e6] at h); (try rw [← e7] at h)
    refine cj_dup dX3_expression_25 rfl ?_
    refine cj_pc (pc' := 26) rfl ?_
    obtain ⟨d', k', n', Qr', h1, h2, h3, hT, h⟩ := h
    refine cj_fewer (k' := (k14 - k') + k') (n' := (n15 - n') + n') (by omega) (by omega) ?_
    refine cj_callIN (M' := mX4_init) (d' := d') (k' := k') (n' := n') (index := 55) (np := 0) (As := []) (rest := [.ref q12]) dX3_expression_26 lkX3_55 mwX4_init hT h1 rfl rfl (Nat.le_of_ble_eq_true rfl) (fun v9 G17 q16 => ?_)
    replace h := h v9 G17 q16
    obtain ⟨e8, h⟩ := h
    subst e8
    refine cj_nmk (fun k18 n19 e6 e7 => ?_)
    (try rw [← e6] at h); (try rw [← e7] at h)
    refine cj_st (st' := [.ref q12]) rfl ?_
    refine cj_astore (lv' := [(4, .ref q12), (3, .ref q4), (2, .int x2), (0, .ref o), (1, .int a1)]) dX3_expression_29 (by decide) rfl ?_
    refine cj_iconst (v := 0) dX3_expression_31 (by decide) ?_
    refine cj_istore (lv' := [(5, .int 0), (4, .ref q12), (3, .ref q4), (2, .int x2), (0, .ref o), (1, .int a1)]) dX3_expression_32 (by decide) rfl ?_
    obtain ⟨n9, h⟩ := h
    refine cj_sub (lv' := [(0, .ref o), (1, .int a1), (2, .int x2), (3, .ref q4), (4, .ref q12), (5, .int 0)]) (by simp) ?_
    refine wk_X3_expression_34_ok hd9 _ _ _ _ _ ?_ n9 _ _ _ _ h
    clear h
    intro w36 G33 k34 n35 h
    refine cj_aload_n dX3_expression_64 rfl ?_
    refine cj_aload_n dX3_expression_65 rfl ?_
    obtain ⟨⟨fs9, e9⟩, h⟩ := h
    obtain ⟨d', k', n', Qr', Qx', h1, h2, h3, hT, hx, h⟩ := h
    refine cj_fewer (k' := (k34 - k') + k') (n' := (n35 - n') + n') (by omega) (by omega) ?_
    refine cj_callV (M' := mX3_peek) (d' := d') (k' := k') (n' := n') (index := 64) (np := 0) (As := []) (rest := [.ref q4]) dX3_expression_66 lkX3_64 mwX3_peek hT h1 rfl rfl (Nat.le_of_ble_eq_true rfl) e9 rfl (fun v9 G38 q37 => ?_) hx
    replace h := h v9 G38 q37
    obtain ⟨x41, e8, h⟩ := h
    subst e8
    refine cj_nmk (fun k39 n40 e6 e7 => ?_)
    (try rw [← e6] at h); (try rw [← e7] at h)
    refine cj_st (st' := [.int x41, .ref q4]) rfl ?_
    refine cj_pc (pc' := 69) rfl ?_
    refine cj_bipush (v := 63) dX3_expression_69 (by decide) ?_
    refine cj_icmp_ne (tgt := 82) dX3_expression_71 (by decide) (fun c42 => ?_) (fun c42 => ?_)
    · replace h := h.1 c42
      refine cj_aload_n dX3_expression_82 rfl ?_
      refine cj_iload_n dX3_expression_83 rfl ?_
      refine cj_pc (pc' := 84) rfl ?_
      obtain ⟨⟨fs9, e9⟩, h⟩ := h
      obtain ⟨d', k', n', Qr', Qx', h1, h2, h3, hT, hx, h⟩ := h
      refine cj_fewer (k' := (k39 - k') + k') (n' := (n40 - n') + n') (by omega) (by omega) ?_
      refine cj_callV (M' := mX3_comparison) (d' := d') (k' := k') (n' := n') (index := 71) (np := 1) (As := [.int a1]) (rest := [.ref q4]) dX3_expression_84 lkX3_71 mwX3_comparison hT h1 rfl rfl (Nat.le_of_ble_eq_true rfl) e9 rfl (fun v9 G44 q43 => ?_) hx
      replace h := h v9 G44 q43
      obtain ⟨x47, e8, h⟩ := h
      subst e8
      refine cj_nmk (fun k45 n46 e6 e7 => ?_)
      (try rw [← e6] at h); (try rw [← e7] at h)
      refine cj_st (st' := [.ref x47, .ref q4]) rfl ?_
      obtain ⟨⟨fs9, e9⟩, h⟩ := h
      obtain ⟨d', k', n', Qr', Qx', h1, h2, h3, hT, hx, h⟩ := h
      refine cj_fewer (k' := (k45 - k') + k') (n' := (n46 - n') + n') (by omega) (by omega) ?_
      refine cj_callV (M' := mX4_append) (d' := d') (k' := k') (n' := n') (index := 74) (np := 1) (As := [.ref x47]) (rest := []) dX3_expression_87 lkX3_74 mwX4_append hT h1 rfl rfl (Nat.le_of_ble_eq_true rfl) e9 rfl (fun v9 G49 q48 => ?_) hx
      replace h := h v9 G49 q48
      obtain ⟨e8, h⟩ := h
      subst e8
      refine cj_nmk (fun k50 n51 e6 e7 => ?_)
      (try rw [← e6] at h); (try rw [← e7] at h)
      refine cj_st (st' := []) rfl ?_
      refine cj_aload_n dX3_expression_90 rfl ?_
      refine cj_aload dX3_expression_91 rfl ?_
      refine cj_pc (pc' := 93) rfl ?_
      obtain ⟨⟨fs9, e9⟩, h⟩ := h
      obtain ⟨d', k', n', Qr', Qx', h1, h2, h3, hT, hx, h⟩ := h
      refine cj_fewer (k' := (k50 - k') + k') (n' := (n51 - n') + n') (by omega) (by omega) ?_
      refine cj_callV (M' := mX4_append) (d' := d') (k' := k') (n' := n') (index := 74) (np := 1) (As := [.ref q12]) (rest := []) dX3_expression_93 lkX3_74 mwX4_append hT h1 rfl rfl (Nat.le_of_ble_eq_true rfl) e9 rfl (fun v9 G53 q52 => ?_) hx
      replace h := h v9 G53 q52
      obtain ⟨e8, h⟩ := h
      subst e8
      refine cj_nmk (fun k54 n55 e6 e7 => ?_)
      (try rw [← e6] at h); (try rw [← e7] at h)
      refine cj_st (st' := []) rfl ?_
      refine cj_aload_n dX3_expression_96 rfl ?_
      refine cj_iload_n dX3_expression_97 rfl ?_
      obtain ⟨fs9, e8, e9, h⟩ := h
      refine cj_put flX3_25 dX3_expression_98 e8 rfl rfl e9 ?_
      refine cj_nm (fun G56 e7 => ?_)
      rw [← e7] at h
      clear e7
      refine cj_pc (pc' := 101) rfl ?_
      refine cj_aload_n dX3_expression_101 rfl ?_
      refine cj_aret rfl dX3_expression_102 ?_
      exact h
    · replace h := h.2 c42
      refine cj_aload_n dX3_expression_74 rfl ?_
      refine cj_iload_n dX3_expression_75 rfl ?_
      refine cj_pc (pc' := 76) rfl ?_
      obtain ⟨⟨fs9, e9⟩, h⟩ := h
      obtain ⟨d', k', n', Qr', Qx', h1, h2, h3, hT, hx, h⟩ := h
      refine cj_fewer (k' := (k39 - k') + k') (n' := (n40 - n') + n') (by omega) (by omega) ?_
      refine cj_callV (M' := mX3_match) (d' := d') (k' := k') (n' := n') (index := 68) (np := 1) (As := [.int a1]) (rest := [.ref q4]) dX3_expression_76 lkX3_68 mwX3_match hT h1 rfl rfl (Nat.le_of_ble_eq_true rfl) e9 rfl (fun v9 G58 q57 => ?_) hx
      replace h := h v9 G58 q57
      obtain ⟨x61, e8, h⟩ := h
      subst e8
      refine cj_nmk (fun k59 n60 e6 e7 => ?_)
      (try rw [← e6] at h); (try rw [← e7] at h)
      refine cj_st (st' := [.ref x61, .ref q4]) rfl ?_
      refine cj_goto (tgt := 87) dX3_expression_79 (by decide) ?_
      obtain ⟨⟨fs9, e9⟩, h⟩ := h
      obtain ⟨d', k', n', Qr', Qx', h1, h2, h3, hT, hx, h⟩ := h
      refine cj_fewer (k' := (k59 - k') + k') (n' := (n60 - n') + n') (by omega) (by omega) ?_
      refine cj_callV (M' := mX4_append) (d' := d') (k' := k') (n' := n') (index := 74) (np := 1) (As := [.ref x61]) (rest := []) dX3_expression_87 lkX3_74 mwX4_append hT h1 rfl rfl (Nat.le_of_ble_eq_true rfl) e9 rfl (fun v9 G63 q62 => ?_) hx
      replace h := h v9 G63 q62
      obtain ⟨e8, h⟩ := h
      subst e8
      refine cj_nmk (fun k64 n65 e6 e7 => ?_)
      (try rw [← e6] at h); (try rw [← e7] at h)
      refine cj_st (st' := []) rfl ?_
      refine cj_aload_n dX3_expression_90 rfl ?_
      refine cj_pc (pc' := 91) rfl ?_
      refine cj_aload dX3_expression_91 rfl ?_
      obtain ⟨⟨fs9, e9⟩, h⟩ := h
      obtain ⟨d', k', n', Qr', Qx', h1, h2, h3, hT, hx, h⟩ := h
      refine cj_fewer (k' := (k64 - k') + k') (n' := (n65 - n') + n') (by omega) (by omega) ?_
      refine cj_callV (M' := mX4_append) (d' := d') (k' := k') (n' := n') (index := 74) (np := 1) (As := [.ref q12]) (rest := []) dX3_expression_93 lkX3_74 mwX4_append hT h1 rfl rfl (Nat.le_of_ble_eq_true rfl) e9 rfl (fun v9 G67 q66 => ?_) hx
      replace h := h v9 G67 q66
      obtain ⟨e8, h⟩ := h
      subst e8
      refine cj_nmk (fun k68 n69 e6 e7 => ?_)
      (try rw [← e6] at h); (try rw [← e7] at h)
      refine cj_st (st' := []) rfl ?_
      refine cj_aload_n dX3_expression_96 rfl ?_
      refine cj_iload_n dX3_expression_97 rfl ?_
      refine cj_pc (pc' := 98) rfl ?_
      obtain ⟨fs9, e8, e9, h⟩ := h
      refine cj_put flX3_25 dX3_expression_98 e8 rfl rfl e9 ?_
      refine cj_nm (fun G70 e7 => ?_)
      rw [← e7] at h
      clear e7
      refine cj_aload_n dX3_expression_101 rfl ?_
      refine cj_aret rfl dX3_expression_102 ?_
      exact h
  · replace h := h.2 c1
    refine cj_aload_n dX3_expression_5 rfl ?_
    refine cj_pc (pc' := 6) rfl ?_
    obtain ⟨⟨fs9, e9⟩, h⟩ := h
    obtain ⟨d', k', n', Qr', Qx', h1, h2, h3, hT, hx, h⟩ := h
    refine cj_fewer (k' := (k - k') + k') (n' := (n1 - n') + n') (by omega) (by omega) ?_
    refine cj_callV (M' := mX3_refuse) (d' := d') (k' := k') (n' := n') (index := 39) (np := 0) (As := []) (rest := []) dX3_expression_6 lkX3_39 mwX3_refuse hT h1 rfl rfl (Nat.le_of_ble_eq_true rfl) e9 rfl (fun v9 G72 q71 => ?_) hx
    replace h := h v9 G72 q71
    obtain ⟨e8, h⟩ := h
    subst e8
    refine cj_nmk (fun k73 n74 e6 e7 => ?_)
    (try rw [← e6] at h); (try rw [← e7] at h)
    refine cj_st (st' := []) rfl ?_
    refine cj_aload_n dX3_expression_9 rfl ?_
    obtain ⟨fs9, x75, g76, e9, h⟩ := h
    refine cj_get flX3_25 dX3_expression_10 g76 e9 ?_
    refine cj_istore_n (lv' := [(2, .int x75), (0, .ref o), (1, .int a1)]) dX3_expression_13 (by decide) rfl ?_
    refine cj_pc (pc' := 14) rfl ?_
    obtain ⟨h1, h2, h⟩ := h
    refine cj_fewer (k' := (k73 - 1) + 1) (n' := (n74 - 2) + 2) (by omega) (by omega) ?_
    refine cj_new (ci := 4) (fs := [.null, .null]) rfl uw_X4 tyX4_ok klX3_43.1 klX3_43.2.1 klX3_43.2.2 (by intro j hj; rcases (show j = 0 ∨ j = 1 by omega) with rfl | rfl <;> rfl) dX3_expression_14 (fun q77 z9 => ?_)
    replace h := h q77 z9
    refine cj_nm (fun G78 e7 => ?_)
    (try rw [← e7] at h)
    clear e7
    refine cj_nmk (fun k79 n80 e6 e7 => ?_)
    (try rw [← e6] at h); (try rw [← e7] at h)
    refine cj_dup dX3_expression_17 rfl ?_
    obtain ⟨d', k', n', Qr', h1, h2, h3, hT, h⟩ := h
    refine cj_fewer (k' := (k79 - k') + k') (n' := (n80 - n') + n') (by omega) (by omega) ?_
    refine cj_callIN (M' := mX4_init) (d' := d') (k' := k') (n' := n') (index := 55) (np := 0) (As := []) (rest := [.ref q77]) dX3_expression_18 lkX3_55 mwX4_init hT h1 rfl rfl (Nat.le_of_ble_eq_true rfl) (fun v9 G82 q81 => ?_)
    replace h := h v9 G82 q81
    obtain ⟨e8, h⟩ := h
    subst e8
    refine cj_nmk (fun k83 n84 e6 e7 => ?_)
    (try rw [← e6] at h); (try rw [← e7] at h)
    refine cj_st (st' := [.ref q77]) rfl ?_
    refine cj_astore_n (lv' := [(3, .ref q77), (2, .int x75), (0, .ref o), (1, .int a1)]) dX3_expression_21 (by decide) rfl ?_
    refine cj_pc (pc' := 22) rfl ?_
    obtain ⟨h1, h2, h⟩ := h
    refine cj_fewer (k' := (k83 - 1) + 1) (n' := (n84 - 2) + 2) (by omega) (by omega) ?_
    refine cj_new (ci := 4) (fs := [.null, .null]) rfl uw_X4 tyX4_ok klX3_43.1 klX3_43.2.1 klX3_43.2.2 (by intro j hj; rcases (show j = 0 ∨ j = 1 by omega) with rfl | rfl <;> rfl) dX3_expression_22 (fun q85 z9 => ?_)
    replace h := h q85 z9
    refine cj_nm (fun G86 e7 => ?_)
    (try rw [← e7] at h)
    clear e7
    refine cj_nmk (fun k87 n88 e6 e7 => ?_)
    (try rw [← e6] at h); (try rw [← e7] at h)
    refine cj_dup dX3_expression_25 rfl ?_
    obtain ⟨d', k', n', Qr', h1, h2, h3, hT, h⟩ := h
    refine cj_fewer (k' := (k87 - k') + k') (n' := (n88 - n') + n') (by omega) (by omega) ?_
    refine cj_callIN (M' := mX4_init) (d' := d') (k' := k') (n' := n') (index := 55) (np := 0) (As := []) (rest := [.ref q85]) dX3_expression_26 lkX3_55 mwX4_init hT h1 rfl rfl (Nat.le_of_ble_eq_true rfl) (fun v9 G90 q89 => ?_)
    replace h := h v9 G90 q89
    obtain ⟨e8, h⟩ := h
    subst e8
    refine cj_nmk (fun k91 n92 e6 e7 => ?_)
    (try rw [← e6] at h); (try rw [← e7] at h)
    refine cj_st (st' := [.ref q85]) rfl ?_
    refine cj_astore (lv' := [(4, .ref q85), (3, .ref q77), (2, .int x75), (0, .ref o), (1, .int a1)]) dX3_expression_29 (by decide) rfl ?_
    refine cj_pc (pc' := 31) rfl ?_
    refine cj_iconst (v := 0) dX3_expression_31 (by decide) ?_
    refine cj_istore (lv' := [(5, .int 0), (4, .ref q85), (3, .ref q77), (2, .int x75), (0, .ref o), (1, .int a1)]) dX3_expression_32 (by decide) rfl ?_
    obtain ⟨n9, h⟩ := h
    refine cj_sub (lv' := [(0, .ref o), (1, .int a1), (2, .int x75), (3, .ref q77), (4, .ref q85), (5, .int 0)]) (by simp) ?_
    refine wk_X3_expression_34_ok hd9 _ _ _ _ _ ?_ n9 _ _ _ _ h
    clear h
    intro w96 G93 k94 n95 h
    refine cj_aload_n dX3_expression_64 rfl ?_
    refine cj_aload_n dX3_expression_65 rfl ?_
    refine cj_pc (pc' := 66) rfl ?_
    obtain ⟨⟨fs9, e9⟩, h⟩ := h
    obtain ⟨d', k', n', Qr', Qx', h1, h2, h3, hT, hx, h⟩ := h
    refine cj_fewer (k' := (k94 - k') + k') (n' := (n95 - n') + n') (by omega) (by omega) ?_
    refine cj_callV (M' := mX3_peek) (d' := d') (k' := k') (n' := n') (index := 64) (np := 0) (As := []) (rest := [.ref q77]) dX3_expression_66 lkX3_64 mwX3_peek hT h1 rfl rfl (Nat.le_of_ble_eq_true rfl) e9 rfl (fun v9 G98 q97 => ?_) hx
    replace h := h v9 G98 q97
    obtain ⟨x101, e8, h⟩ := h
    subst e8
    refine cj_nmk (fun k99 n100 e6 e7 => ?_)
    (try rw [← e6] at h); (try rw [← e7] at h)
    refine cj_st (st' := [.int x101, .ref q77]) rfl ?_
    refine cj_bipush (v := 63) dX3_expression_69 (by decide) ?_
    refine cj_icmp_ne (tgt := 82) dX3_expression_71 (by decide) (fun c102 => ?_) (fun c102 => ?_)
    · replace h := h.1 c102
      refine cj_aload_n dX3_expression_82 rfl ?_
      refine cj_pc (pc' := 83) rfl ?_
      refine cj_iload_n dX3_expression_83 rfl ?_
      obtain ⟨⟨fs9, e9⟩, h⟩ := h
      obtain ⟨d', k', n', Qr', Qx', h1, h2, h3, hT, hx, h⟩ := h
      refine cj_fewer (k' := (k99 - k') + k') (n' := (n100 - n') + n') (by omega) (by omega) ?_
      refine cj_callV (M' := mX3_comparison) (d' := d') (k' := k') (n' := n') (index := 71) (np := 1) (As := [.int a1]) (rest := [.ref q77]) dX3_expression_84 lkX3_71 mwX3_comparison hT h1 rfl rfl (Nat.le_of_ble_eq_true rfl) e9 rfl (fun v9 G104 q103 => ?_) hx
      replace h := h v9 G104 q103
      obtain ⟨x107, e8, h⟩ := h
      subst e8
      refine cj_nmk (fun k105 n106 e6 e7 => ?_)
      (try rw [← e6] at h); (try rw [← e7] at h)
      refine cj_st (st' := [.ref x107, .ref q77]) rfl ?_
      obtain ⟨⟨fs9, e9⟩, h⟩ := h
      obtain ⟨d', k', n', Qr', Qx', h1, h2, h3, hT, hx, h⟩ := h
      refine cj_fewer (k' := (k105 - k') + k') (n' := (n106 - n') + n') (by omega) (by omega) ?_
      refine cj_callV (M' := mX4_append) (d' := d') (k' := k') (n' := n') (index := 74) (np := 1) (As := [.ref x107]) (rest := []) dX3_expression_87 lkX3_74 mwX4_append hT h1 rfl rfl (Nat.le_of_ble_eq_true rfl) e9 rfl (fun v9 G109 q108 => ?_) hx
      replace h := h v9 G109 q108
      obtain ⟨e8, h⟩ := h
      subst e8
      refine cj_nmk (fun k110 n111 e6 e7 => ?_)
      (try rw [← e6] at h); (try rw [← e7] at h)
      refine cj_st (st' := []) rfl ?_
      refine cj_aload_n dX3_expression_90 rfl ?_
      refine cj_pc (pc' := 91) rfl ?_
      refine cj_aload dX3_expression_91 rfl ?_
      obtain ⟨⟨fs9, e9⟩, h⟩ := h
      obtain ⟨d', k', n', Qr', Qx', h1, h2, h3, hT, hx, h⟩ := h
      refine cj_fewer (k' := (k110 - k') + k') (n' := (n111 - n') + n') (by omega) (by omega) ?_
      refine cj_callV (M' := mX4_append) (d' := d') (k' := k') (n' := n') (index := 74) (np := 1) (As := [.ref q85]) (rest := []) dX3_expression_93 lkX3_74 mwX4_append hT h1 rfl rfl (Nat.le_of_ble_eq_true rfl) e9 rfl (fun v9 G113 q112 => ?_) hx
      replace h := h v9 G113 q112
      obtain ⟨e8, h⟩ := h
      subst e8
      refine cj_nmk (fun k114 n115 e6 e7 => ?_)
      (try rw [← e6] at h); (try rw [← e7] at h)
      refine cj_st (st' := []) rfl ?_
      refine cj_aload_n dX3_expression_96 rfl ?_
      refine cj_iload_n dX3_expression_97 rfl ?_
      refine cj_pc (pc' := 98) rfl ?_
      obtain ⟨fs9, e8, e9, h⟩ := h
      refine cj_put flX3_25 dX3_expression_98 e8 rfl rfl e9 ?_
      refine cj_nm (fun G116 e7 => ?_)
      rw [← e7] at h
      clear e7
      refine cj_aload_n dX3_expression_101 rfl ?_
      refine cj_aret rfl dX3_expression_102 ?_
      exact h
    · replace h := h.2 c102
      refine cj_aload_n dX3_expression_74 rfl ?_
      refine cj_pc (pc' := 75) rfl ?_
      refine cj_iload_n dX3_expression_75 rfl ?_
      obtain ⟨⟨fs9, e9⟩, h⟩ := h
      obtain ⟨d', k', n', Qr', Qx', h1, h2, h3, hT, hx, h⟩ := h
      refine cj_fewer (k' := (k99 - k') + k') (n' := (n100 - n') + n') (by omega) (by omega) ?_
      refine cj_callV (M' := mX3_match) (d' := d') (k' := k') (n' := n') (index := 68) (np := 1) (As := [.int a1]) (rest := [.ref q77]) dX3_expression_76 lkX3_68 mwX3_match hT h1 rfl rfl (Nat.le_of_ble_eq_true rfl) e9 rfl (fun v9 G118 q117 => ?_) hx
      replace h := h v9 G118 q117
      obtain ⟨x121, e8, h⟩ := h
      subst e8
      refine cj_nmk (fun k119 n120 e6 e7 => ?_)
      (try rw [← e6] at h); (try rw [← e7] at h)
      refine cj_st (st' := [.ref x121, .ref q77]) rfl ?_
      refine cj_goto (tgt := 87) dX3_expression_79 (by decide) ?_
      obtain ⟨⟨fs9, e9⟩, h⟩ := h
      obtain ⟨d', k', n', Qr', Qx', h1, h2, h3, hT, hx, h⟩ := h
      refine cj_fewer (k' := (k119 - k') + k') (n' := (n120 - n') + n') (by omega) (by omega) ?_
      refine cj_callV (M' := mX4_append) (d' := d') (k' := k') (n' := n') (index := 74) (np := 1) (As := [.ref x121]) (rest := []) dX3_expression_87 lkX3_74 mwX4_append hT h1 rfl rfl (Nat.le_of_ble_eq_true rfl) e9 rfl (fun v9 G123 q122 => ?_) hx
      replace h := h v9 G123 q122
      obtain ⟨e8, h⟩ := h
      subst e8
      refine cj_nmk (fun k124 n125 e6 e7 => ?_)
      (try rw [← e6] at h); (try rw [← e7] at h)
      refine cj_st (st' := []) rfl ?_
      refine cj_pc (pc' := 90) rfl ?_
      refine cj_aload_n dX3_expression_90 rfl ?_
      refine cj_aload dX3_expression_91 rfl ?_
      obtain ⟨⟨fs9, e9⟩, h⟩ := h
      obtain ⟨d', k', n', Qr', Qx', h1, h2, h3, hT, hx, h⟩ := h
      refine cj_fewer (k' := (k124 - k') + k') (n' := (n125 - n') + n') (by omega) (by omega) ?_
      refine cj_callV (M' := mX4_append) (d' := d') (k' := k') (n' := n') (index := 74) (np := 1) (As := [.ref q85]) (rest := []) dX3_expression_93 lkX3_74 mwX4_append hT h1 rfl rfl (Nat.le_of_ble_eq_true rfl) e9 rfl (fun v9 G127 q126 => ?_) hx
      replace h := h v9 G127 q126
      obtain ⟨e8, h⟩ := h
      subst e8
      refine cj_nmk (fun k128 n129 e6 e7 => ?_)
      (try rw [← e6] at h); (try rw [← e7] at h)
      refine cj_st (st' := []) rfl ?_
      refine cj_aload_n dX3_expression_96 rfl ?_
      refine cj_pc (pc' := 97) rfl ?_
      refine cj_iload_n dX3_expression_97 rfl ?_
      obtain ⟨fs9, e8, e9, h⟩ := h
      refine cj_put flX3_25 dX3_expression_98 e8 rfl rfl e9 ?_
      refine cj_nm (fun G130 e7 => ?_)
      rw [← e7] at h
      clear e7
      refine cj_aload_n dX3_expression_101 rfl ?_
      refine cj_aret rfl dX3_expression_102 ?_
      exact h
def wq_X3_read (d k n1 : Nat) (o : Nat) (a1 : Nat) (a2 : Int32) (G : cj_G) (Qr : Option Value → cj_G → Prop) (Qx : String → cj_G → Prop) : Prop := (sk_V G o 3 ∧ sk_c_v mX3_leaveOutBlanks d k n1 [.ref o, .ref a1, .int a2] G Qx (fun G2 k3 n4 => sk_pt G2 o 3 2 (.int 0) (fun G5 => sk_pt G5 o 3 4 (.int 0) (fun G6 => sk_pt G6 o 3 5 (.int (-1)) (fun G7 => (sk_V G7 o 3 ∧ sk_c_r mX3_expression d k3 n4 [.ref o, .int 0] G7 Qx (fun x12 G9 k10 n11 => sk_gi G9 o 3 2 (fun x13 => sk_gi G9 o 3 1 (fun x15 => ((x15 ≤ x13 → (sk_V G9 x12 4 ∧ sk_c_v mX4_add_ d k10 n11 [.ref x12, .int 0, .int 0] G9 Qx (fun G19 k20 n21 => Qr (some (.ref x12)) G19))) ∧ (¬ x15 ≤ x13 → (sk_V G9 o 3 ∧ sk_c_v mX3_refuse d k10 n11 [.ref o] G9 Qx (fun G23 k24 n25 => (sk_V G23 x12 4 ∧ sk_c_v mX4_add_ d k24 n25 [.ref x12, .int 0, .int 0] G23 Qx (fun G27 k28 n29 => Qr (some (.ref x12)) G27)))))))))))))))
set_option maxHeartbeats 4000000 in
set_option maxRecDepth 100000 in
theorem tq_X3_read {d k n1 : Nat} (hd9 : 6 ≤ d) {o : Nat} {a1 : Nat} {a2 : Int32} {G : cj_G} {Qr : Option Value → cj_G → Prop} {Qx : String → cj_G → Prop} (h : wq_X3_read d k n1 o a1 a2 G Qr Qx) : cj_T mX3_read d k n1 [.ref o, .ref a1, .int a2] G Qr Qx := by
  refine cj_T_of (by decide +kernel) (Nat.le_of_ble_eq_true rfl) ?_
  refine cj_lvs (lv' := [(0, .ref o), (1, .ref a1), (2, .int a2)]) rfl ?_
  unfold wq_X3_read at h
  refine cj_aload_n dX3_read_0 rfl ?_
  refine cj_aload_n dX3_read_1 rfl ?_
  refine cj_iload_n dX3_read_2 rfl ?_
  refine cj_pc (pc' := 3) rfl ?_
  obtain ⟨⟨fs9, e9⟩, h⟩ := h
  obtain ⟨d', k', n', Qr', Qx', h1, h2, h3, hT, hx, h⟩ := h
  refine cj_fewer (k' := (k - k') + k') (n' := (n1 - n') + n') (by omega) (by omega) ?_
  refine cj_callV (M' := mX3_leaveOutBlanks) (d' := d') (k' := k') (n' := n') (index := 31) (np := 2) (As := [.ref a1, .int a2]) (rest := []) dX3_read_3 lkX3_31 mwX3_leaveOutBlanks hT h1 rfl rfl (Nat.le_of_ble_eq_true rfl) e9 rfl (fun v9 G2 q1 => ?_) hx
  replace h := h v9 G2 q1
  obtain ⟨e8, h⟩ := h
  subst e8
  refine cj_nmk (fun k3 n4 e6 e7 => ?_)
  (try rw [← e6] at h); (try rw [← e7] at h)
  refine cj_st (st' := []) rfl ?_
  refine cj_aload_n dX3_read_6 rfl ?_
  refine cj_iconst (v := 0) dX3_read_7 (by decide) ?_
  obtain ⟨fs9, e8, e9, h⟩ := h
  refine cj_put flX3_19 dX3_read_8 e8 rfl rfl e9 ?_
  refine cj_nm (fun G5 e7 => ?_)
  rw [← e7] at h
  clear e7
  refine cj_pc (pc' := 11) rfl ?_
  refine cj_aload_n dX3_read_11 rfl ?_
  refine cj_iconst (v := 0) dX3_read_12 (by decide) ?_
  obtain ⟨fs9, e8, e9, h⟩ := h
  refine cj_put flX3_25 dX3_read_13 e8 rfl rfl e9 ?_
  refine cj_nm (fun G6 e7 => ?_)
  rw [← e7] at h
  clear e7
  refine cj_aload_n dX3_read_16 rfl ?_
  refine cj_pc (pc' := 17) rfl ?_
  refine cj_iconst (v := (-1)) dX3_read_17 (by decide) ?_
  obtain ⟨fs9, e8, e9, h⟩ := h
  refine cj_put flX3_28 dX3_read_18 e8 rfl rfl e9 ?_
  refine cj_nm (fun G7 e7 => ?_)
  rw [← e7] at h
  clear e7
  refine cj_aload_n dX3_read_21 rfl ?_
  refine cj_iconst (v := 0) dX3_read_22 (by decide) ?_
  refine cj_pc (pc' := 23) rfl ?_
  obtain ⟨⟨fs9, e9⟩, h⟩ := h
  obtain ⟨d', k', n', Qr', Qx', h1, h2, h3, hT, hx, h⟩ := h
  refine cj_fewer (k' := (k3 - k') + k') (n' := (n4 - n') + n') (by omega) (by omega) ?_
  refine cj_callV (M' := mX3_expression) (d' := d') (k' := k') (n' := n') (index := 35) (np := 1) (As := [.int 0]) (rest := []) dX3_read_23 lkX3_35 mwX3_expression hT h1 rfl rfl (Nat.le_of_ble_eq_true rfl) e9 rfl (fun v9 G9 q8 => ?_) hx
  replace h := h v9 G9 q8
  obtain ⟨x12, e8, h⟩ := h
  subst e8
  refine cj_nmk (fun k10 n11 e6 e7 => ?_)
  (try rw [← e6] at h); (try rw [← e7] at h)
  refine cj_st (st' := [.ref x12]) rfl ?_
  refine cj_astore_n (lv' := [(3, .ref x12), (0, .ref o), (1, .ref a1), (2, .int a2)]) dX3_read_26 (by decide) rfl ?_
  refine cj_aload_n dX3_read_27 rfl ?_
  obtain ⟨fs9, x13, g14, e9, h⟩ := h
  refine cj_get flX3_19 dX3_read_28 g14 e9 ?_
  refine cj_pc (pc' := 31) rfl ?_
  refine cj_aload_n dX3_read_31 rfl ?_
  obtain ⟨fs9, x15, g16, e9, h⟩ := h
  refine cj_get flX3_15 dX3_read_32 g16 e9 ?_
  refine cj_icmp_ge (tgt := 42) dX3_read_35 (by decide) (fun c17 => ?_) (fun c17 => ?_)
  · replace h := h.1 c17
    refine cj_aload_n dX3_read_42 rfl ?_
    refine cj_pc (pc' := 43) rfl ?_
    refine cj_iconst (v := 0) dX3_read_43 (by decide) ?_
    refine cj_iconst (v := 0) dX3_read_44 (by decide) ?_
    obtain ⟨⟨fs9, e9⟩, h⟩ := h
    obtain ⟨d', k', n', Qr', Qx', h1, h2, h3, hT, hx, h⟩ := h
    refine cj_fewer (k' := (k10 - k') + k') (n' := (n11 - n') + n') (by omega) (by omega) ?_
    refine cj_callV (M' := mX4_add_) (d' := d') (k' := k') (n' := n') (index := 42) (np := 2) (As := [.int 0, .int 0]) (rest := []) dX3_read_45 lkX3_42 mwX4_add_ hT h1 rfl rfl (Nat.le_of_ble_eq_true rfl) e9 rfl (fun v9 G19 q18 => ?_) hx
    replace h := h v9 G19 q18
    obtain ⟨e8, h⟩ := h
    subst e8
    refine cj_nmk (fun k20 n21 e6 e7 => ?_)
    (try rw [← e6] at h); (try rw [← e7] at h)
    refine cj_st (st' := []) rfl ?_
    refine cj_aload_n dX3_read_48 rfl ?_
    refine cj_pc (pc' := 49) rfl ?_
    refine cj_aret rfl dX3_read_49 ?_
    exact h
  · replace h := h.2 c17
    refine cj_aload_n dX3_read_38 rfl ?_
    obtain ⟨⟨fs9, e9⟩, h⟩ := h
    obtain ⟨d', k', n', Qr', Qx', h1, h2, h3, hT, hx, h⟩ := h
    refine cj_fewer (k' := (k10 - k') + k') (n' := (n11 - n') + n') (by omega) (by omega) ?_
    refine cj_callV (M' := mX3_refuse) (d' := d') (k' := k') (n' := n') (index := 39) (np := 0) (As := []) (rest := []) dX3_read_39 lkX3_39 mwX3_refuse hT h1 rfl rfl (Nat.le_of_ble_eq_true rfl) e9 rfl (fun v9 G23 q22 => ?_) hx
    replace h := h v9 G23 q22
    obtain ⟨e8, h⟩ := h
    subst e8
    refine cj_nmk (fun k24 n25 e6 e7 => ?_)
    (try rw [← e6] at h); (try rw [← e7] at h)
    refine cj_st (st' := []) rfl ?_
    refine cj_aload_n dX3_read_42 rfl ?_
    refine cj_pc (pc' := 43) rfl ?_
    refine cj_iconst (v := 0) dX3_read_43 (by decide) ?_
    refine cj_iconst (v := 0) dX3_read_44 (by decide) ?_
    obtain ⟨⟨fs9, e9⟩, h⟩ := h
    obtain ⟨d', k', n', Qr', Qx', h1, h2, h3, hT, hx, h⟩ := h
    refine cj_fewer (k' := (k24 - k') + k') (n' := (n25 - n') + n') (by omega) (by omega) ?_
    refine cj_callV (M' := mX4_add_) (d' := d') (k' := k') (n' := n') (index := 42) (np := 2) (As := [.int 0, .int 0]) (rest := []) dX3_read_45 lkX3_42 mwX4_add_ hT h1 rfl rfl (Nat.le_of_ble_eq_true rfl) e9 rfl (fun v9 G27 q26 => ?_) hx
    replace h := h v9 G27 q26
    obtain ⟨e8, h⟩ := h
    subst e8
    refine cj_nmk (fun k28 n29 e6 e7 => ?_)
    (try rw [← e6] at h); (try rw [← e7] at h)
    refine cj_st (st' := []) rfl ?_
    refine cj_aload_n dX3_read_48 rfl ?_
    refine cj_pc (pc' := 49) rfl ?_
    refine cj_aret rfl dX3_read_49 ?_
    exact h
def wq_X6_compile (d k n1 : Nat) (o : Nat) (G : cj_G) (Qr : Option Value → cj_G → Prop) (Qx : String → cj_G → Prop) : Prop := sk_gi G o 6 1 (fun x1 => sk_pt G o 6 1 (.int 0) (fun G3 => sk_gr G3 o 6 2 (fun x4 => sk_gr G3 o 6 0 (fun x6 => (sk_V G3 x4 3 ∧ sk_c_r mX3_read d k n1 [.ref x4, .ref x6, .int x1] G3 Qx (fun x12 G9 k10 n11 => sk_gr G9 o 6 3 (fun x13 => (sk_V G9 x13 0 ∧ sk_c_i mX0_replaceBy d k10 n11 [.ref x13, .ref x12] G9 Qx (fun x19 G16 k17 n18 => ((¬ x19 = 0 → sk_gr G16 o 6 4 (fun x21 => (sk_V G16 x21 2 ∧ sk_c_v mX2_beginAnew d k17 n18 [.ref x21] G16 Qx (fun G24 k25 n26 => sk_gr G24 o 6 3 (fun x27 => sk_gi G24 x27 0 1 (fun x29 => Qr (some (.int x29)) G24)))))) ∧ (x19 = 0 → sk_gr G16 o 6 2 (fun x31 => (sk_V G16 x31 3 ∧ sk_c_v mX3_refuse d k17 n18 [.ref x31] G16 Qx (fun G34 k35 n36 => sk_gr G34 o 6 4 (fun x37 => (sk_V G34 x37 2 ∧ sk_c_v mX2_beginAnew d k35 n36 [.ref x37] G34 Qx (fun G40 k41 n42 => sk_gr G40 o 6 3 (fun x43 => sk_gi G40 x43 0 1 (fun x45 => Qr (some (.int x45)) G40)))))))))))))))))))
set_option maxHeartbeats 4000000 in
set_option maxRecDepth 100000 in
theorem tq_X6_compile {d k n1 : Nat} (hd9 : 6 ≤ d) {o : Nat} {G : cj_G} {Qr : Option Value → cj_G → Prop} {Qx : String → cj_G → Prop} (h : wq_X6_compile d k n1 o G Qr Qx) : cj_T mX6_compile d k n1 [.ref o] G Qr Qx := by
  refine cj_T_of (by decide +kernel) (Nat.le_of_ble_eq_true rfl) ?_
  refine cj_lvs (lv' := [(0, .ref o)]) rfl ?_
  unfold wq_X6_compile at h
  refine cj_aload_n dX6_compile_0 rfl ?_
  obtain ⟨fs9, x1, g2, e9, h⟩ := h
  refine cj_get flX6_13 dX6_compile_1 g2 e9 ?_
  refine cj_istore_n (lv' := [(1, .int x1), (0, .ref o)]) dX6_compile_4 (by decide) rfl ?_
  refine cj_pc (pc' := 5) rfl ?_
  refine cj_aload_n dX6_compile_5 rfl ?_
  refine cj_iconst (v := 0) dX6_compile_6 (by decide) ?_
  obtain ⟨fs9, e8, e9, h⟩ := h
  refine cj_put flX6_13 dX6_compile_7 e8 rfl rfl e9 ?_
  refine cj_nm (fun G3 e7 => ?_)
  rw [← e7] at h
  clear e7
  refine cj_aload_n dX6_compile_10 rfl ?_
  refine cj_pc (pc' := 11) rfl ?_
  obtain ⟨fs9, x4, g5, e9, h⟩ := h
  refine cj_get flX6_20 dX6_compile_11 g5 e9 ?_
  refine cj_aload_n dX6_compile_14 rfl ?_
  obtain ⟨fs9, x6, g7, e9, h⟩ := h
  refine cj_get flX6_9 dX6_compile_15 g7 e9 ?_
  refine cj_iload_n dX6_compile_18 rfl ?_
  refine cj_pc (pc' := 19) rfl ?_
  obtain ⟨⟨fs9, e9⟩, h⟩ := h
  obtain ⟨d', k', n', Qr', Qx', h1, h2, h3, hT, hx, h⟩ := h
  refine cj_fewer (k' := (k - k') + k') (n' := (n1 - n') + n') (by omega) (by omega) ?_
  refine cj_callV (M' := mX3_read) (d' := d') (k' := k') (n' := n') (index := 54) (np := 2) (As := [.ref x6, .int x1]) (rest := []) dX6_compile_19 lkX6_54 mwX3_read hT h1 rfl rfl (Nat.le_of_ble_eq_true rfl) e9 rfl (fun v9 G9 q8 => ?_) hx
  replace h := h v9 G9 q8
  obtain ⟨x12, e8, h⟩ := h
  subst e8
  refine cj_nmk (fun k10 n11 e6 e7 => ?_)
  (try rw [← e6] at h); (try rw [← e7] at h)
  refine cj_st (st' := [.ref x12]) rfl ?_
  refine cj_astore_n (lv' := [(2, .ref x12), (1, .int x1), (0, .ref o)]) dX6_compile_22 (by decide) rfl ?_
  refine cj_aload_n dX6_compile_23 rfl ?_
  obtain ⟨fs9, x13, g14, e9, h⟩ := h
  refine cj_get flX6_27 dX6_compile_24 g14 e9 ?_
  refine cj_pc (pc' := 27) rfl ?_
  refine cj_aload_n dX6_compile_27 rfl ?_
  obtain ⟨⟨fs9, e9⟩, h⟩ := h
  obtain ⟨d', k', n', Qr', Qx', h1, h2, h3, hT, hx, h⟩ := h
  refine cj_fewer (k' := (k10 - k') + k') (n' := (n11 - n') + n') (by omega) (by omega) ?_
  refine cj_callV (M' := mX0_replaceBy) (d' := d') (k' := k') (n' := n') (index := 58) (np := 1) (As := [.ref x12]) (rest := []) dX6_compile_28 lkX6_58 mwX0_replaceBy hT h1 rfl rfl (Nat.le_of_ble_eq_true rfl) e9 rfl (fun v9 G16 q15 => ?_) hx
  replace h := h v9 G16 q15
  obtain ⟨x19, e8, h⟩ := h
  subst e8
  refine cj_nmk (fun k17 n18 e6 e7 => ?_)
  (try rw [← e6] at h); (try rw [← e7] at h)
  refine cj_st (st' := [.int x19]) rfl ?_
  refine cj_if_ne (tgt := 41) dX6_compile_31 (by decide) (fun c20 => ?_) (fun c20 => ?_)
  · replace h := h.1 c20
    refine cj_aload_n dX6_compile_41 rfl ?_
    refine cj_pc (pc' := 42) rfl ?_
    obtain ⟨fs9, x21, g22, e9, h⟩ := h
    refine cj_get flX6_50 dX6_compile_42 g22 e9 ?_
    obtain ⟨⟨fs9, e9⟩, h⟩ := h
    obtain ⟨d', k', n', Qr', Qx', h1, h2, h3, hT, hx, h⟩ := h
    refine cj_fewer (k' := (k17 - k') + k') (n' := (n18 - n') + n') (by omega) (by omega) ?_
    refine cj_callV (M' := mX2_beginAnew) (d' := d') (k' := k') (n' := n') (index := 65) (np := 0) (As := []) (rest := []) dX6_compile_45 lkX6_65 mwX2_beginAnew hT h1 rfl rfl (Nat.le_of_ble_eq_true rfl) e9 rfl (fun v9 G24 q23 => ?_) hx
    replace h := h v9 G24 q23
    obtain ⟨e8, h⟩ := h
    subst e8
    refine cj_nmk (fun k25 n26 e6 e7 => ?_)
    (try rw [← e6] at h); (try rw [← e7] at h)
    refine cj_st (st' := []) rfl ?_
    refine cj_aload_n dX6_compile_48 rfl ?_
    obtain ⟨fs9, x27, g28, e9, h⟩ := h
    refine cj_get flX6_27 dX6_compile_49 g28 e9 ?_
    refine cj_pc (pc' := 52) rfl ?_
    obtain ⟨fs9, x29, g30, e9, h⟩ := h
    refine cj_get flX6_68 dX6_compile_52 g30 e9 ?_
    refine cj_iret rfl dX6_compile_55 ?_
    exact h
  · replace h := h.2 c20
    refine cj_aload_n dX6_compile_34 rfl ?_
    obtain ⟨fs9, x31, g32, e9, h⟩ := h
    refine cj_get flX6_20 dX6_compile_35 g32 e9 ?_
    refine cj_pc (pc' := 38) rfl ?_
    obtain ⟨⟨fs9, e9⟩, h⟩ := h
    obtain ⟨d', k', n', Qr', Qx', h1, h2, h3, hT, hx, h⟩ := h
    refine cj_fewer (k' := (k17 - k') + k') (n' := (n18 - n') + n') (by omega) (by omega) ?_
    refine cj_callV (M' := mX3_refuse) (d' := d') (k' := k') (n' := n') (index := 62) (np := 0) (As := []) (rest := []) dX6_compile_38 lkX6_62 mwX3_refuse hT h1 rfl rfl (Nat.le_of_ble_eq_true rfl) e9 rfl (fun v9 G34 q33 => ?_) hx
    replace h := h v9 G34 q33
    obtain ⟨e8, h⟩ := h
    subst e8
    refine cj_nmk (fun k35 n36 e6 e7 => ?_)
    (try rw [← e6] at h); (try rw [← e7] at h)
    refine cj_st (st' := []) rfl ?_
    refine cj_aload_n dX6_compile_41 rfl ?_
    obtain ⟨fs9, x37, g38, e9, h⟩ := h
    refine cj_get flX6_50 dX6_compile_42 g38 e9 ?_
    obtain ⟨⟨fs9, e9⟩, h⟩ := h
    obtain ⟨d', k', n', Qr', Qx', h1, h2, h3, hT, hx, h⟩ := h
    refine cj_fewer (k' := (k35 - k') + k') (n' := (n36 - n') + n') (by omega) (by omega) ?_
    refine cj_callV (M' := mX2_beginAnew) (d' := d') (k' := k') (n' := n') (index := 65) (np := 0) (As := []) (rest := []) dX6_compile_45 lkX6_65 mwX2_beginAnew hT h1 rfl rfl (Nat.le_of_ble_eq_true rfl) e9 rfl (fun v9 G40 q39 => ?_) hx
    replace h := h v9 G40 q39
    obtain ⟨e8, h⟩ := h
    subst e8
    refine cj_nmk (fun k41 n42 e6 e7 => ?_)
    (try rw [← e6] at h); (try rw [← e7] at h)
    refine cj_st (st' := []) rfl ?_
    refine cj_pc (pc' := 48) rfl ?_
    refine cj_aload_n dX6_compile_48 rfl ?_
    obtain ⟨fs9, x43, g44, e9, h⟩ := h
    refine cj_get flX6_27 dX6_compile_49 g44 e9 ?_
    obtain ⟨fs9, x45, g46, e9, h⟩ := h
    refine cj_get flX6_68 dX6_compile_52 g46 e9 ?_
    refine cj_iret rfl dX6_compile_55 ?_
    exact h
def wk_X2_doUpTo_2 (d : Nat) (v0 : Nat) (v1 : Int32) (Qr : Option Value → cj_G → Prop) (Qx : String → cj_G → Prop) (K : Int32 → cj_G → Nat → Nat → Prop) : Nat → Int32 → cj_G → Nat → Nat → Prop
  | 0, _, _, _, _ => False
  | n + 1, v2, G, k, n1 => ((v1 ≤ v2 → K v2 G k n1) ∧ (¬ v1 ≤ v2 → sk_gi G v0 2 7 (fun x2 => ((¬ x2 = 0 → K v2 G k n1) ∧ (x2 = 0 → sk_gr G v0 2 0 (fun x5 => sk_gi G v0 2 6 (fun x7 => (sk_V G x5 0 ∧ sk_c_i mX0_part d k n1 [.ref x5, .int x7, .int 0] G Qx (fun x13 G10 k11 n12 => sk_gr G10 v0 2 0 (fun x14 => sk_gi G10 v0 2 6 (fun x16 => (sk_V G10 x14 0 ∧ sk_c_i mX0_part d k11 n12 [.ref x14, .int x16, .int 1] G10 Qx (fun x22 G19 k20 n21 => (sk_V G19 v0 2 ∧ sk_c_i mX2_hindrance d k20 n21 [.ref v0, .int x13, .int x22] G19 Qx (fun x27 G24 k25 n26 => sk_pt G24 v0 2 8 (.int x27) (fun G28 => sk_gi G28 v0 2 8 (fun x29 => ((x29 = 0 → (sk_V G28 v0 2 ∧ sk_c_v mX2_perform d k25 n26 [.ref v0, .int x13, .int x22] G28 Qx (fun G33 k34 n35 => wk_X2_doUpTo_2 d v0 v1 Qr Qx K n (v2 + 1) G33 k34 n35))) ∧ (¬ x29 = 0 → Qr (some (.int v2)) G28)))))))))))))))))))
def wq_X2_doUpTo (d k n1 : Nat) (o : Nat) (a1 : Int32) (G : cj_G) (Qr : Option Value → cj_G → Prop) (Qx : String → cj_G → Prop) : Prop := (∃ n9 : Nat, wk_X2_doUpTo_2 d o a1 Qr Qx (fun w39 G36 k37 n38 => Qr (some (.int w39)) G36) n9 0 G k n1)
set_option maxHeartbeats 4000000 in
set_option maxRecDepth 100000 in
theorem wk_X2_doUpTo_2_ok {d k0 n0 : Nat} (hd9 : 6 ≤ d) (v0 : Nat) (v1 : Int32) {Qr : Option Value → cj_G → Prop} {Qx : String → cj_G → Prop} {K : Int32 → cj_G → Nat → Nat → Prop} (hK : ∀ (v2 : Int32) (G : cj_G) (k n1 : Nat), K v2 G k n1 → cj_J mX2_doUpTo d k0 n0 Qr Qx k n1 74 [(0, .ref v0), (1, .int v1), (2, .int v2)] [] G) : ∀ (n : Nat) (v2 : Int32) (G : cj_G) (k n1 : Nat), wk_X2_doUpTo_2 d v0 v1 Qr Qx K n v2 G k n1 → cj_J mX2_doUpTo d k0 n0 Qr Qx k n1 2 [(0, .ref v0), (1, .int v1), (2, .int v2)] [] G := by
  intro n
  induction n with
  | zero => intro v2 G k n1 h; exact absurd h id
  | succ n ih =>
    intro v2 G k n1 h
    unfold wk_X2_doUpTo_2 at h
    refine cj_iload_n dX2_doUpTo_2 rfl ?_
    refine cj_pc (pc' := 3) rfl ?_
    refine cj_iload_n dX2_doUpTo_3 rfl ?_
    refine cj_icmp_ge (tgt := 74) dX2_doUpTo_4 (by decide) (fun c1 => ?_) (fun c1 => ?_)
    · replace h := h.1 c1
      refine cj_sub (lv' := [(0, .ref v0), (1, .int v1), (2, .int v2)]) (by simp) ?_
      exact hK _ _ _ _ h
    · replace h := h.2 c1
      refine cj_aload_n dX2_doUpTo_7 rfl ?_
      obtain ⟨fs9, x2, g3, e9, h⟩ := h
      refine cj_get flX2_28 dX2_doUpTo_8 g3 e9 ?_
      refine cj_pc (pc' := 11) rfl ?_
      refine cj_if_ne (tgt := 74) dX2_doUpTo_11 (by decide) (fun c4 => ?_) (fun c4 => ?_)
      · replace h := h.1 c4
        refine cj_sub (lv' := [(0, .ref v0), (1, .int v1), (2, .int v2)]) (by simp) ?_
        exact hK _ _ _ _ h
      · replace h := h.2 c4
        refine cj_aload_n dX2_doUpTo_14 rfl ?_
        obtain ⟨fs9, x5, g6, e9, h⟩ := h
        refine cj_get flX2_35 dX2_doUpTo_15 g6 e9 ?_
        refine cj_aload_n dX2_doUpTo_18 rfl ?_
        refine cj_pc (pc' := 19) rfl ?_
        obtain ⟨fs9, x7, g8, e9, h⟩ := h
        refine cj_get flX2_25 dX2_doUpTo_19 g8 e9 ?_
        refine cj_iconst (v := 0) dX2_doUpTo_22 (by decide) ?_
        obtain ⟨⟨fs9, e9⟩, h⟩ := h
        obtain ⟨d', k', n', Qr', Qx', h1, h2, h3, hT, hx, h⟩ := h
        refine cj_fewer (k' := (k - k') + k') (n' := (n1 - n') + n') (by omega) (by omega) ?_
        refine cj_callV (M' := mX0_part) (d' := d') (k' := k') (n' := n') (index := 53) (np := 2) (As := [.int x7, .int 0]) (rest := []) dX2_doUpTo_23 lkX2_53 mwX0_part hT h1 rfl rfl (Nat.le_of_ble_eq_true rfl) e9 rfl (fun v9 G10 q9 => ?_) hx
        replace h := h v9 G10 q9
        obtain ⟨x13, e8, h⟩ := h
        subst e8
        refine cj_nmk (fun k11 n12 e6 e7 => ?_)
        (try rw [← e6] at h); (try rw [← e7] at h)
        refine cj_st (st' := [.int x13]) rfl ?_
        refine cj_istore_n (lv' := [(3, .int x13), (0, .ref v0), (1, .int v1), (2, .int v2)]) dX2_doUpTo_26 (by decide) rfl ?_
        refine cj_pc (pc' := 27) rfl ?_
        refine cj_aload_n dX2_doUpTo_27 rfl ?_
        obtain ⟨fs9, x14, g15, e9, h⟩ := h
        refine cj_get flX2_35 dX2_doUpTo_28 g15 e9 ?_
        refine cj_aload_n dX2_doUpTo_31 rfl ?_
        obtain ⟨fs9, x16, g17, e9, h⟩ := h
        refine cj_get flX2_25 dX2_doUpTo_32 g17 e9 ?_
        refine cj_pc (pc' := 35) rfl ?_
        refine cj_iconst (v := 1) dX2_doUpTo_35 (by decide) ?_
        obtain ⟨⟨fs9, e9⟩, h⟩ := h
        obtain ⟨d', k', n', Qr', Qx', h1, h2, h3, hT, hx, h⟩ := h
        refine cj_fewer (k' := (k11 - k') + k') (n' := (n12 - n') + n') (by omega) (by omega) ?_
        refine cj_callV (M' := mX0_part) (d' := d') (k' := k') (n' := n') (index := 53) (np := 2) (As := [.int x16, .int 1]) (rest := []) dX2_doUpTo_36 lkX2_53 mwX0_part hT h1 rfl rfl (Nat.le_of_ble_eq_true rfl) e9 rfl (fun v9 G19 q18 => ?_) hx
        replace h := h v9 G19 q18
        obtain ⟨x22, e8, h⟩ := h
        subst e8
        refine cj_nmk (fun k20 n21 e6 e7 => ?_)
        (try rw [← e6] at h); (try rw [← e7] at h)
        refine cj_st (st' := [.int x22]) rfl ?_
        refine cj_istore (lv' := [(4, .int x22), (3, .int x13), (0, .ref v0), (1, .int v1), (2, .int v2)]) dX2_doUpTo_39 (by decide) rfl ?_
        refine cj_aload_n dX2_doUpTo_41 rfl ?_
        refine cj_pc (pc' := 42) rfl ?_
        refine cj_aload_n dX2_doUpTo_42 rfl ?_
        refine cj_iload_n dX2_doUpTo_43 rfl ?_
        refine cj_iload dX2_doUpTo_44 rfl ?_
        obtain ⟨⟨fs9, e9⟩, h⟩ := h
        obtain ⟨d', k', n', Qr', Qx', h1, h2, h3, hT, hx, h⟩ := h
        refine cj_fewer (k' := (k20 - k') + k') (n' := (n21 - n') + n') (by omega) (by omega) ?_
        refine cj_callV (M' := mX2_hindrance) (d' := d') (k' := k') (n' := n') (index := 57) (np := 2) (As := [.int x13, .int x22]) (rest := [.ref v0]) dX2_doUpTo_46 lkX2_57 mwX2_hindrance hT h1 rfl rfl (Nat.le_of_ble_eq_true rfl) e9 rfl (fun v9 G24 q23 => ?_) hx
        replace h := h v9 G24 q23
        obtain ⟨x27, e8, h⟩ := h
        subst e8
        refine cj_nmk (fun k25 n26 e6 e7 => ?_)
        (try rw [← e6] at h); (try rw [← e7] at h)
        refine cj_st (st' := [.int x27, .ref v0]) rfl ?_
        refine cj_pc (pc' := 49) rfl ?_
        obtain ⟨fs9, e8, e9, h⟩ := h
        refine cj_put flX2_32 dX2_doUpTo_49 e8 rfl rfl e9 ?_
        refine cj_nm (fun G28 e7 => ?_)
        rw [← e7] at h
        clear e7
        refine cj_aload_n dX2_doUpTo_52 rfl ?_
        obtain ⟨fs9, x29, g30, e9, h⟩ := h
        refine cj_get flX2_32 dX2_doUpTo_53 g30 e9 ?_
        refine cj_if_eq (tgt := 61) dX2_doUpTo_56 (by decide) (fun c31 => ?_) (fun c31 => ?_)
        · replace h := h.1 c31
          refine cj_aload_n dX2_doUpTo_61 rfl ?_
          refine cj_pc (pc' := 62) rfl ?_
          refine cj_iload_n dX2_doUpTo_62 rfl ?_
          refine cj_iload dX2_doUpTo_63 rfl ?_
          obtain ⟨⟨fs9, e9⟩, h⟩ := h
          obtain ⟨d', k', n', Qr', Qx', h1, h2, h3, hT, hx, h⟩ := h
          refine cj_fewer (k' := (k25 - k') + k') (n' := (n26 - n') + n') (by omega) (by omega) ?_
          refine cj_callV (M' := mX2_perform) (d' := d') (k' := k') (n' := n') (index := 60) (np := 2) (As := [.int x13, .int x22]) (rest := []) dX2_doUpTo_65 lkX2_60 mwX2_perform hT h1 rfl rfl (Nat.le_of_ble_eq_true rfl) e9 rfl (fun v9 G33 q32 => ?_) hx
          replace h := h v9 G33 q32
          obtain ⟨e8, h⟩ := h
          subst e8
          refine cj_nmk (fun k34 n35 e6 e7 => ?_)
          (try rw [← e6] at h); (try rw [← e7] at h)
          refine cj_st (st' := []) rfl ?_
          refine cj_iinc (v := v2 + 1) (lv' := [(2, .int (v2 + 1)), (4, .int x22), (3, .int x13), (0, .ref v0), (1, .int v1)]) dX2_doUpTo_68 rfl rfl (by decide) rfl ?_
          refine cj_pc (pc' := 71) rfl ?_
          refine cj_goto (tgt := 2) dX2_doUpTo_71 (by decide) ?_
          refine cj_sub (lv' := [(0, .ref v0), (1, .int v1), (2, .int (v2 + 1))]) (by simp) ?_
          exact ih _ _ _ _ h
        · replace h := h.2 c31
          refine cj_iload_n dX2_doUpTo_59 rfl ?_
          refine cj_iret rfl dX2_doUpTo_60 ?_
          exact h
set_option maxHeartbeats 4000000 in
set_option maxRecDepth 100000 in
theorem tq_X2_doUpTo {d k n1 : Nat} (hd9 : 6 ≤ d) {o : Nat} {a1 : Int32} {G : cj_G} {Qr : Option Value → cj_G → Prop} {Qx : String → cj_G → Prop} (h : wq_X2_doUpTo d k n1 o a1 G Qr Qx) : cj_T mX2_doUpTo d k n1 [.ref o, .int a1] G Qr Qx := by
  refine cj_T_of (by decide +kernel) (Nat.le_of_ble_eq_true rfl) ?_
  refine cj_lvs (lv' := [(0, .ref o), (1, .int a1)]) rfl ?_
  unfold wq_X2_doUpTo at h
  refine cj_iconst (v := 0) dX2_doUpTo_0 (by decide) ?_
  refine cj_istore_n (lv' := [(2, .int 0), (0, .ref o), (1, .int a1)]) dX2_doUpTo_1 (by decide) rfl ?_
  obtain ⟨n9, h⟩ := h
  refine cj_sub (lv' := [(0, .ref o), (1, .int a1), (2, .int 0)]) (by simp) ?_
  refine wk_X2_doUpTo_2_ok hd9 _ _ ?_ n9 _ _ _ _ h
  clear h
  intro w39 G36 k37 n38 h
  refine cj_iload_n dX2_doUpTo_74 rfl ?_
  refine cj_pc (pc' := 75) rfl ?_
  refine cj_iret rfl dX2_doUpTo_75 ?_
  exact h
def wq_X6_run (d k n1 : Nat) (o : Nat) (a1 : Int32) (G : cj_G) (Qr : Option Value → cj_G → Prop) (Qx : String → cj_G → Prop) : Prop := ((a1 < 0 → (1 ≤ k ∧ 6 ≤ n1 ∧ Qx "java/lang/IllegalArgumentException" G)) ∧ (¬ a1 < 0 → ((a1 ≤ 500 → sk_gr G o 6 4 (fun x3 => (sk_V G x3 2 ∧ sk_c_i mX2_condition d k n1 [.ref x3] G Qx (fun x9 G6 k7 n8 => ((x9 = 1 → sk_gr G6 o 6 4 (fun x11 => (sk_V G6 x11 2 ∧ sk_c_i mX2_doUpTo d k7 n8 [.ref x11, .int a1] G6 Qx (fun x17 G14 k15 n16 => sk_gr G14 o 6 4 (fun x18 => (sk_V G14 x18 2 ∧ sk_c_i mX2_condition d k15 n16 [.ref x18] G14 Qx (fun x24 G21 k22 n23 => ((¬ x24 = 3 → Qr (some (.int x17)) G21) ∧ (x24 = 3 → (1 ≤ k22 ∧ 6 ≤ n23 ∧ Qx "java/lang/UnsupportedOperationException" G21)))))))))) ∧ (¬ x9 = 1 → (1 ≤ k7 ∧ 6 ≤ n8 ∧ Qx "java/lang/IllegalStateException" G6))))))) ∧ (¬ a1 ≤ 500 → (1 ≤ k ∧ 6 ≤ n1 ∧ Qx "java/lang/IllegalArgumentException" G)))))
set_option maxHeartbeats 4000000 in
set_option maxRecDepth 100000 in
theorem tq_X6_run {d k n1 : Nat} (hd9 : 6 ≤ d) {o : Nat} {a1 : Int32} {G : cj_G} {Qr : Option Value → cj_G → Prop} {Qx : String → cj_G → Prop} (h : wq_X6_run d k n1 o a1 G Qr Qx) : cj_T mX6_run d k n1 [.ref o, .int a1] G Qr Qx := by
  refine cj_T_of (by decide +kernel) (Nat.le_of_ble_eq_true rfl) ?_
  refine cj_lvs (lv' := [(0, .ref o), (1, .int a1)]) rfl ?_
  unfold wq_X6_run at h
  refine cj_iload_n dX6_run_0 rfl ?_
  refine cj_if_lt (tgt := 11) dX6_run_1 (by decide) (fun c1 => ?_) (fun c1 => ?_)
  · replace h := h.1 c1
    obtain ⟨h1, h2, h⟩ := h
    refine cj_fewer (k' := (k - 1) + 1) (n' := (n1 - 6) + 6) (by omega) (by omega) ?_
    exact cj_throw thX6_75 dX6_run_11 dX6_run_14 dX6_run_15 dX6_run_17 dX6_run_20 (by omega) (Nat.le_of_ble_eq_true rfl) h
  · replace h := h.2 c1
    refine cj_iload_n dX6_run_4 rfl ?_
    refine cj_pc (pc' := 5) rfl ?_
    refine cj_sipush (v := 500) dX6_run_5 (by decide) ?_
    refine cj_icmp_le (tgt := 21) dX6_run_8 (by decide) (fun c2 => ?_) (fun c2 => ?_)
    · replace h := h.1 c2
      refine cj_aload_n dX6_run_21 rfl ?_
      obtain ⟨fs9, x3, g4, e9, h⟩ := h
      refine cj_get flX6_50 dX6_run_22 g4 e9 ?_
      refine cj_pc (pc' := 25) rfl ?_
      obtain ⟨⟨fs9, e9⟩, h⟩ := h
      obtain ⟨d', k', n', Qr', Qx', h1, h2, h3, hT, hx, h⟩ := h
      refine cj_fewer (k' := (k - k') + k') (n' := (n1 - n') + n') (by omega) (by omega) ?_
      refine cj_callV (M' := mX2_condition) (d' := d') (k' := k') (n' := n') (index := 82) (np := 0) (As := []) (rest := []) dX6_run_25 lkX6_82 mwX2_condition hT h1 rfl rfl (Nat.le_of_ble_eq_true rfl) e9 rfl (fun v9 G6 q5 => ?_) hx
      replace h := h v9 G6 q5
      obtain ⟨x9, e8, h⟩ := h
      subst e8
      refine cj_nmk (fun k7 n8 e6 e7 => ?_)
      (try rw [← e6] at h); (try rw [← e7] at h)
      refine cj_st (st' := [.int x9]) rfl ?_
      refine cj_iconst (v := 1) dX6_run_28 (by decide) ?_
      refine cj_icmp_eq (tgt := 42) dX6_run_29 (by decide) (fun c10 => ?_) (fun c10 => ?_)
      · replace h := h.1 c10
        refine cj_aload_n dX6_run_42 rfl ?_
        refine cj_pc (pc' := 43) rfl ?_
        obtain ⟨fs9, x11, g12, e9, h⟩ := h
        refine cj_get flX6_50 dX6_run_43 g12 e9 ?_
        refine cj_iload_n dX6_run_46 rfl ?_
        obtain ⟨⟨fs9, e9⟩, h⟩ := h
        obtain ⟨d', k', n', Qr', Qx', h1, h2, h3, hT, hx, h⟩ := h
        refine cj_fewer (k' := (k7 - k') + k') (n' := (n8 - n') + n') (by omega) (by omega) ?_
        refine cj_callV (M' := mX2_doUpTo) (d' := d') (k' := k') (n' := n') (index := 91) (np := 1) (As := [.int a1]) (rest := []) dX6_run_47 lkX6_91 mwX2_doUpTo hT h1 rfl rfl (Nat.le_of_ble_eq_true rfl) e9 rfl (fun v9 G14 q13 => ?_) hx
        replace h := h v9 G14 q13
        obtain ⟨x17, e8, h⟩ := h
        subst e8
        refine cj_nmk (fun k15 n16 e6 e7 => ?_)
        (try rw [← e6] at h); (try rw [← e7] at h)
        refine cj_st (st' := [.int x17]) rfl ?_
        refine cj_istore_n (lv' := [(2, .int x17), (0, .ref o), (1, .int a1)]) dX6_run_50 (by decide) rfl ?_
        refine cj_pc (pc' := 51) rfl ?_
        refine cj_aload_n dX6_run_51 rfl ?_
        obtain ⟨fs9, x18, g19, e9, h⟩ := h
        refine cj_get flX6_50 dX6_run_52 g19 e9 ?_
        obtain ⟨⟨fs9, e9⟩, h⟩ := h
        obtain ⟨d', k', n', Qr', Qx', h1, h2, h3, hT, hx, h⟩ := h
        refine cj_fewer (k' := (k15 - k') + k') (n' := (n16 - n') + n') (by omega) (by omega) ?_
        refine cj_callV (M' := mX2_condition) (d' := d') (k' := k') (n' := n') (index := 82) (np := 0) (As := []) (rest := []) dX6_run_55 lkX6_82 mwX2_condition hT h1 rfl rfl (Nat.le_of_ble_eq_true rfl) e9 rfl (fun v9 G21 q20 => ?_) hx
        replace h := h v9 G21 q20
        obtain ⟨x24, e8, h⟩ := h
        subst e8
        refine cj_nmk (fun k22 n23 e6 e7 => ?_)
        (try rw [← e6] at h); (try rw [← e7] at h)
        refine cj_st (st' := [.int x24]) rfl ?_
        refine cj_iconst (v := 3) dX6_run_58 (by decide) ?_
        refine cj_pc (pc' := 59) rfl ?_
        refine cj_icmp_ne (tgt := 72) dX6_run_59 (by decide) (fun c25 => ?_) (fun c25 => ?_)
        · replace h := h.1 c25
          refine cj_iload_n dX6_run_72 rfl ?_
          refine cj_iret rfl dX6_run_73 ?_
          exact h
        · replace h := h.2 c25
          obtain ⟨h1, h2, h⟩ := h
          refine cj_fewer (k' := (k22 - 1) + 1) (n' := (n23 - 6) + 6) (by omega) (by omega) ?_
          exact cj_throw thX6_95 dX6_run_62 dX6_run_65 dX6_run_66 dX6_run_68 dX6_run_71 (by omega) (Nat.le_of_ble_eq_true rfl) h
      · replace h := h.2 c10
        obtain ⟨h1, h2, h⟩ := h
        refine cj_fewer (k' := (k7 - 1) + 1) (n' := (n8 - 6) + 6) (by omega) (by omega) ?_
        exact cj_throw thX6_86 dX6_run_32 dX6_run_35 dX6_run_36 dX6_run_38 dX6_run_41 (by omega) (Nat.le_of_ble_eq_true rfl) h
    · replace h := h.2 c2
      obtain ⟨h1, h2, h⟩ := h
      refine cj_fewer (k' := (k - 1) + 1) (n' := (n1 - 6) + 6) (by omega) (by omega) ?_
      exact cj_throw thX6_75 dX6_run_11 dX6_run_14 dX6_run_15 dX6_run_17 dX6_run_20 (by omega) (Nat.le_of_ble_eq_true rfl) h
