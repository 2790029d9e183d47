/-! THE LAW'S LOOP -/
def ex_L (b L : Nat) (xs : Nat → Int32) : State → (Nat → Prop) → Code → Prop := fun s A _ => (va_X b L xs s s.heap ∧ b < s.heap.size ∧ ¬ A b) ∧ nc_Y s
def mL_law : cj_M := (yL_law, cL_law, 7, (some .boolean))
abbrev lw_lv (b : Nat) (I : Nat → Nat) (i : Nat) : List (Nat × Value) := [(0, .ref b), (1, .ref (I 0)), (2, .ref (I 13)), (3, .ref (I 14)), (4, .int (nI i))]
theorem and15 (x : Int32) : ∃ k : Nat, k < 16 ∧ x &&& 15 = nI k := by
  refine ⟨(x &&& 15).toBitVec.toNat, ?_, ?_⟩
  · rw [Int32.toBitVec_and, BitVec.toNat_and]
    exact Nat.lt_of_le_of_lt Nat.and_le_right (by decide)
  · refine Int32.toBitVec_inj.mp ?_
    show (x &&& 15).toBitVec = BitVec.ofNat 32 (x &&& 15).toBitVec.toNat
    refine BitVec.eq_of_toNat_eq ?_
    rw [BitVec.toNat_ofNat, Nat.mod_eq_of_lt (BitVec.isLt _)]
theorem lg_self (x : Int64) : lg_cmp x x = 0 := by unfold lg_cmp; simp
theorem lw_gt {L i : Nat} (h : L < i + 3) (hL : L ≤ 1537) (hi : i ≤ 3000) : nI L - 3 < nI i := by
  by_cases h3 : 3 ≤ L
  · have e : nI L - 3 = nI (L - 3) := by
      rw [show nI L = nI (L - 3) + 3 from by rw [show (3 : Int32) = nI 3 from rfl, nI_add, show L - 3 + 3 = L by omega], Int32.add_sub_cancel]
    rw [e]; exact nI_lt (by omega) (by omega)
  · have hl : L = 0 ∨ L = 1 ∨ L = 2 := by omega
    refine Int32.lt_iff_toInt_lt.mpr ?_
    rw [nI_toInt (n := i) (by omega)]
    rcases hl with rfl | rfl | rfl
    · show (-3 : Int) < _
      omega
    · show (-2 : Int) < _
      omega
    · show (-1 : Int) < _
      omega
section LWL
variable {b L N d k0 n0 : Nat} {xs : Nat → Int32} {I ad : Nat → Nat} {Qr : Option Value → cj_G → Prop} {Qx : String → cj_G → Prop}
/-- a number of the script -/
theorem lw_ld {pc i j k n : Nat} {z : Int} {lv : List (Nat × Value)} {st : List Value} {G : cj_G} (hz : Int32.ofInt z = nI j) (hij : i + j < L) (hL : L ≤ 1537) (g0 : cj_lg lv 0 = some (.ref b)) (g4 : cj_lg lv 4 = some (.int (nI i))) (d0 : decode mL_law.2.1 pc = .ok (.aload_n 0, 1)) (d1 : decode mL_law.2.1 (pc + 1) = .ok (.iload 4, 2)) (d2 : decode mL_law.2.1 (pc + 1 + 2) = .ok (.iconst z, 1)) (d3 : decode mL_law.2.1 (pc + 1 + 2 + 1) = .ok (.iadd, 1)) (d4 : decode mL_law.2.1 (pc + 1 + 2 + 1 + 1) = .ok (.iaload, 1)) (kk : ci_J (ex_L b L xs) mL_law d k0 n0 Qr Qx k n (pc + 6) lv (.int (xs (i + j)) :: st) G) : ci_J (ex_L b L xs) mL_law d k0 n0 Qr Qx k n pc lv st G := by
  refine ci_aload_n d0 g0 ?_
  refine ci_iload d1 g4 ?_
  refine ci_iconst (v := nI j) d2 hz ?_
  refine ci_iadd d3 ?_
  refine ci_st (st' := .int (nI (i + j)) :: .ref b :: st) (by rw [nI_add]) ?_
  refine ci_sld (b := b) (L := L) (xs := xs) (fun s A c h => h.1) (nI_vp hij (by omega)) d4 ?_
  refine ci_st (st' := .int (xs (i + j)) :: st) (by rw [nI_clamp (by omega)]) ?_
  exact kk
set_option maxHeartbeats 16000000 in
set_option maxRecDepth 100000 in
theorem lw_loop (hL : L ≤ 1537) (hI : ID I ad) (hN : 20 ≤ N ∧ N ≤ 200) (hd : 100 ≤ d) (hQ : ∀ G : cj_G, Qr (some (.int 1)) G) : ∀ (r i : Nat) (s : ls_T) (S : rm_S) (G : cj_G) (k n : Nat), L < i + 3 * r + 3 → i ≤ 2000 → AX N s → RX N s S → LWP I ad N s S G → 60 * r + 20 * s.1 ≤ k → 6 * (60 * r + 20 * s.1) ≤ n → ci_J (ex_L b L xs) mL_law d k0 n0 Qr Qx k n 33 (lw_lv b I i) [] G := by
  intro r
  induction r with
  | zero =>
    intro i s S G k n hr hi hA hR hG hk hn
    refine ci_iload dL_law_33 rfl ?_
    refine ci_aload_n dL_law_35 rfl ?_
    refine ci_slen (b := b) (L := L) (xs := xs) (fun s A c h => h.1) dL_law_36 ?_
    refine ci_iconst (v := 3) dL_law_37 (by decide) ?_
    refine ci_isub dL_law_38 ?_
    refine ci_icmp_gt (tgt := 444) dL_law_39 (by decide) (fun _ => ?_) (fun h9 => absurd (lw_gt (by omega) (by omega) (by omega)) h9)
    refine ci_iconst (v := 1) dL_law_444 (by decide) ?_
    exact ci_zret (ty := .boolean) rfl rfl dL_law_445 (hQ G)
  | succ r ih =>
    intro i s S G k n hr hi hA hR hG hk hn
    have h90 := hA.1
    have nxt : ∀ (s' : ls_T) (S' : rm_S) (G' : cj_G) (k' n' : Nat), i + 3 ≤ L → AX N s' → RX N s' S' → LWP I ad N s' S' G' → 60 * r + 20 * s'.1 ≤ k' → 6 * (60 * r + 20 * s'.1) ≤ n' → ci_J (ex_L b L xs) mL_law d k0 n0 Qr Qx k' n' 438 (lw_lv b I i) [] G' := fun s' S' G' k' n' hiL hA' hR' hG' hk' hn' => by
      refine ci_iinc (v := nI (i + 3)) (lv' := [(4, .int (nI (i + 3))), (0, .ref b), (1, .ref (I 0)), (2, .ref (I 13)), (3, .ref (I 14))]) dL_law_438 rfl (nI_add i 3) (by decide) rfl ?_
      refine ci_pc (pc' := 441) rfl ?_
      refine ci_goto (tgt := 33) dL_law_441 (by decide) ?_
      refine ci_sub (lv' := lw_lv b I (i + 3)) (fun q hq => by
        simp only [List.mem_cons, List.not_mem_nil, or_false] at hq ⊢
        rcases hq with h | h | h | h | h <;> simp [h]) ?_
      exact ih (i + 3) s' S' G' k' n' (by omega) (by omega) hA' hR' hG' hk' hn'
    refine ci_iload dL_law_33 rfl ?_
    refine ci_aload_n dL_law_35 rfl ?_
    refine ci_slen (b := b) (L := L) (xs := xs) (fun s A c h => h.1) dL_law_36 ?_
    refine ci_iconst (v := 3) dL_law_37 (by decide) ?_
    refine ci_isub dL_law_38 ?_
    refine ci_icmp_gt (tgt := 444) dL_law_39 (by decide) (fun _ => ?_) (fun h9 => ?_)
    · refine ci_iconst (v := 1) dL_law_444 (by decide) ?_
      exact ci_zret (ty := .boolean) rfl rfl dL_law_445 (hQ G)
    have hiL : i + 3 ≤ L := Classical.byContradiction fun h8 => h9 (lw_gt (by omega) (by omega) (by omega))
    refine ci_pc (pc' := 42) rfl ?_
    refine ci_aload_n dL_law_42 rfl ?_
    refine ci_iload dL_law_43 rfl ?_
    refine ci_pc (pc' := 45) rfl ?_
    refine ci_sld (b := b) (L := L) (xs := xs) (fun s A c h => h.1) (nI_vp (by omega) (by omega)) dL_law_45 ?_
    refine ci_bipush (v := 15) dL_law_46 (by decide) ?_
    refine ci_pc (pc' := 48) rfl ?_
    refine ci_iand dL_law_48 ?_
    obtain ⟨c, hc, ec⟩ := and15 (xs (nI i).toNatClampNeg)
    refine ci_st (st' := [.int (nI c)]) (by rw [ec]) ?_
    refine ci_pc (pc' := 49) rfl ?_
    have hcs : c = 0 ∨ c = 1 ∨ c = 2 ∨ c = 3 ∨ c = 4 ∨ c = 5 ∨ c = 6 ∨ c = 7 ∨ c = 8 ∨ c = 9 ∨ c = 10 ∨ c = 11 ∨ c = 12 ∨ c = 13 ∨ c = 14 ∨ c = 15 := by omega
    rcases hcs with rfl | rfl | rfl | rfl | rfl | rfl | rfl | rfl | rfl | rfl | rfl | rfl | rfl | rfl | rfl | rfl
    · refine ci_tableIn (tgt := 120) (off := 71) dL_law_49 (by decide) (by decide) (by decide) (by decide) ?_
      by_cases hw : ch_wr s.1 ((xs (i + 1)).toUInt32 % 65536).toInt32 = true
      · have e8 : (wr_s s ((xs (i + 1)).toUInt32 % 65536).toInt32).1 = s.1 + 1 := rfl
        refine ci_aload_n dL_law_120 rfl ?_
        refine lw_ld (j := 1) (i := i) (by decide) (by omega) hL rfl rfl dL_law_121 dL_law_122 dL_law_124 dL_law_125 dL_law_126 ?_
        refine ci_pc (pc' := 127) rfl ?_
        refine ci_i2c dL_law_127 rfl ?_
        refine ci_callV (M' := mX6_write) (d' := 0) (k' := 0) (n' := 0) (k := k) (n := n) (index := 35) (np := 1) (As := [.int ((xs (i + 1)).toUInt32 % 65536).toInt32]) (rest := []) dL_law_128 lkL_35 mwX6_write (lc_write1 hI hA hG hw) (by omega) rfl rfl (Nat.le_of_ble_eq_true rfl) hG.1.1 rfl (fun v9 G1 q9 => ?_) (fun _ _ h9 => absurd h9 id)
        obtain ⟨e9, hG1⟩ := q9
        subst e9
        refine ci_st (st' := [.int _]) rfl ?_
        refine ci_pc (pc' := 131) rfl ?_
        refine ci_aload_n dL_law_131 rfl ?_
        refine lw_ld (j := 1) (i := i) (by decide) (by omega) hL rfl rfl dL_law_132 dL_law_133 dL_law_135 dL_law_136 dL_law_137 ?_
        refine ci_pc (pc' := 138) rfl ?_
        refine ci_i2c dL_law_138 rfl ?_
        refine ci_callV (M' := mX7_write) (d' := 0) (k' := 0) (n' := 0) (k := k) (n := n) (index := 39) (np := 1) (As := [.int ((xs (i + 1)).toUInt32 % 65536).toInt32]) (rest := [.int _]) dL_law_139 lkL_39 mwX7_write (lr_write1 hI hA hR hw hG1) (by omega) rfl rfl (Nat.le_of_ble_eq_true rfl) hG1.2.1.1 rfl (fun v9 G2 q9 => ?_) (fun _ _ h9 => absurd h9 id)
        obtain ⟨e9, S2, hG2, hR2⟩ := q9
        subst e9
        refine ci_st (st' := [.int _, .int _]) rfl ?_
        refine ci_pc (pc' := 142) rfl ?_
        refine ci_icmp_eq (tgt := 438) dL_law_142 (by decide) (fun _ => ?_) (fun h9 => absurd rfl h9)
        exact nxt (wr_s s ((xs (i + 1)).toUInt32 % 65536).toInt32) S2 G2 k n hiL (ax_wr hA hw) hR2 hG2 (by rw [e8]; omega) (by rw [e8]; omega)
      · skip
        refine ci_aload_n dL_law_120 rfl ?_
        refine lw_ld (j := 1) (i := i) (by decide) (by omega) hL rfl rfl dL_law_121 dL_law_122 dL_law_124 dL_law_125 dL_law_126 ?_
        refine ci_pc (pc' := 127) rfl ?_
        refine ci_i2c dL_law_127 rfl ?_
        refine ci_callV (M' := mX6_write) (d' := 0) (k' := 0) (n' := 0) (k := k) (n := n) (index := 35) (np := 1) (As := [.int ((xs (i + 1)).toUInt32 % 65536).toInt32]) (rest := []) dL_law_128 lkL_35 mwX6_write (lc_write0 hA hG hw) (by omega) rfl rfl (Nat.le_of_ble_eq_true rfl) hG.1.1 rfl (fun v9 G1 q9 => ?_) (fun _ _ h9 => absurd h9 id)
        obtain ⟨e9, hG1⟩ := q9
        subst e9
        refine ci_st (st' := [.int _]) rfl ?_
        refine ci_pc (pc' := 131) rfl ?_
        refine ci_aload_n dL_law_131 rfl ?_
        refine lw_ld (j := 1) (i := i) (by decide) (by omega) hL rfl rfl dL_law_132 dL_law_133 dL_law_135 dL_law_136 dL_law_137 ?_
        refine ci_pc (pc' := 138) rfl ?_
        refine ci_i2c dL_law_138 rfl ?_
        refine ci_callV (M' := mX7_write) (d' := 0) (k' := 0) (n' := 0) (k := k) (n := n) (index := 39) (np := 1) (As := [.int ((xs (i + 1)).toUInt32 % 65536).toInt32]) (rest := [.int _]) dL_law_139 lkL_39 mwX7_write (lr_write0 hI hA hR hw hG1) (by omega) rfl rfl (Nat.le_of_ble_eq_true rfl) hG1.2.1.1 rfl (fun v9 G2 q9 => ?_) (fun _ _ h9 => absurd h9 id)
        obtain ⟨e9, S2, hG2, hR2⟩ := q9
        subst e9
        refine ci_st (st' := [.int _, .int _]) rfl ?_
        refine ci_pc (pc' := 142) rfl ?_
        refine ci_icmp_eq (tgt := 438) dL_law_142 (by decide) (fun _ => ?_) (fun h9 => absurd rfl h9)
        exact nxt s S2 G2 k n hiL hA hR2 hG2 (by omega) (by omega)
    · refine ci_tableIn (tgt := 147) (off := 98) dL_law_49 (by decide) (by decide) (by decide) (by decide) ?_
      obtain ⟨tx, t1, t2, hT⟩ := lc_compile hI hA hG
      refine ci_fewer (k' := 60 * r + (20 * s.1 + 60)) (n' := 6 * (60 * r) + 6 * (20 * s.1 + 60)) (by omega) (by omega) ?_
      refine ci_aload_n dL_law_147 rfl ?_
      refine ci_aload_n dL_law_148 rfl ?_
      refine ci_callSW (M' := mL_compile) (d' := 62) (k' := 20 * s.1 + 60) (n' := 6 * (20 * s.1 + 60)) (k := 60 * r) (n := 6 * (60 * r)) (index := 40) (np := 2) (hh := hh_c) (As := [.ref (I 0), .ref (I 14)]) (rest := []) (Y := fun _ => True) (fun _ _ _ _ _ => trivial) dL_law_149 lkL_40 mwL_compile (t_Lcompile hT hG.1.1 (fun v G' q => ?_) (fun X G' q => ?_)) (by omega) rfl rfl (Nat.le_of_ble_eq_true rfl) (fun _ _ _ _ _ _ _ _ _ _ _ => trivial) (fun v9 G1 q9 => ?_)
      · obtain ⟨F, _, ev, hLc⟩ := q
        obtain ⟨f, hf⟩ := hLc.2.2
        exact ⟨_, f, ev, hf⟩
      · obtain ⟨q, _, eX, _⟩ := q; exact eX
      · rcases q9 with ⟨z, Gc, f', ⟨F, eF, ez, hLc⟩, e9, hf', eG⟩ | ⟨e9, X, q, eq, eX, hLc⟩
        · subst e9 eG
          have ez : z = nI F.1 := Value.int.inj (Option.some.inj ez)
          subst ez
          have hG1 : LWP I ad N (cok_s s F) S (cj_up Gc (I 14) (.inl (3, 1, .inr (.inl f')))) := lp_long hI hLc
          have h14 : cj_up Gc (I 14) (.inl (3, 1, .inr (.inl f'))) (I 14) = some (.inl (3, 1, .inr (.inl f'))) := cj_up_s
          refine ci_st (st' := [.int 0]) rfl ?_
          refine ci_pc (pc' := 152) rfl ?_
          refine ci_istore (lv' := [(5, .int 0), (0, .ref b), (1, .ref (I 0)), (2, .ref (I 13)), (3, .ref (I 14)), (4, .int (nI i))]) dL_law_152 (by decide) rfl ?_
          refine ci_pc (pc' := 154) rfl ?_
          refine ci_aload_n dL_law_154 rfl ?_
          refine ci_callV (M' := mX7_compile) (d' := 6) (k' := 0) (n' := 0) (k := 60 * r) (n := 6 * (60 * r)) (index := 43) (np := 0) (As := []) (rest := []) dL_law_155 lkL_43 mwX7_compile (lr_cok hI hA hR t1 t2 eF hG1) (by omega) rfl rfl (Nat.le_of_ble_eq_true rfl) hG1.2.1.1 rfl (fun v9 G2 q9 => ?_) (fun _ _ h9 => absurd h9 id)
          obtain ⟨e9, S2, hG2, hR2, h0, h14b⟩ := q9
          subst e9
          refine ci_st (st' := [.int (nI F.1)]) rfl ?_
          refine ci_pc (pc' := 158) rfl ?_
          refine ci_istore (lv' := [(6, .int (nI F.1)), (5, .int 0), (0, .ref b), (1, .ref (I 0)), (2, .ref (I 13)), (3, .ref (I 14)), (4, .int (nI i))]) dL_law_158 (by decide) rfl ?_
          refine ci_pc (pc' := 160) rfl ?_
          refine ci_aload_n dL_law_160 rfl ?_
          refine ci_callV (M' := mX7_thrown) (d' := 0) (k' := 0) (n' := 0) (k := 60 * r) (n := 6 * (60 * r)) (index := 44) (np := 0) (As := []) (rest := []) dL_law_161 lkL_44 mwX7_thrown (lr_thrown hI hR2 hG2) (by omega) rfl rfl (Nat.le_of_ble_eq_true rfl) hG2.2.1.1 rfl (fun v9 G3 q9 => ?_) (fun _ _ h9 => absurd h9 id)
          obtain ⟨e9, ⟨S3, hG3, hR3⟩, h14c⟩ := q9
          subst e9
          refine ci_st (st' := [.int 0]) (by rw [h0]; rfl) ?_
          refine ci_pc (pc' := 164) rfl ?_
          refine ci_iload dL_law_164 rfl ?_
          refine ci_pc (pc' := 166) rfl ?_
          refine ci_icmp_eq (tgt := 171) dL_law_166 (by decide) (fun _ => ?_) (fun h9 => absurd rfl h9)
          refine ci_iload dL_law_171 rfl ?_
          refine ci_pc (pc' := 173) rfl ?_
          refine ci_if_ne (tgt := 188) dL_law_173 (by decide) (fun h9 => absurd rfl h9) (fun _ => ?_)
          refine ci_pc (pc' := 176) rfl ?_
          refine ci_aload_n dL_law_176 rfl ?_
          refine ci_iconst (v := 0) dL_law_177 (by decide) ?_
          refine ci_lald dL_law_178 (h14c.trans (h14b.trans h14)) (nI_vp (c := 0) (by omega) (by omega)) ?_
          refine ci_st (st' := [.long (f' 0)]) rfl ?_
          refine ci_pc (pc' := 179) rfl ?_
          refine ci_iload dL_law_179 rfl ?_
          refine ci_pc (pc' := 181) rfl ?_
          refine ci_i2l (v := f' 0) dL_law_181 (hf'.symm) ?_
          refine ci_lcmp dL_law_182 ?_
          refine ci_st (st' := [.int 0]) (by rw [lg_self]) ?_
          refine ci_pc (pc' := 183) rfl ?_
          refine ci_if_eq (tgt := 188) dL_law_183 (by decide) (fun _ => ?_) (fun h9 => absurd rfl h9)
          refine ci_goto (tgt := 438) dL_law_188 (by decide) ?_
          refine ci_sub (lv' := lw_lv b I i) (fun q hq => List.mem_cons_of_mem _ (List.mem_cons_of_mem _ hq)) ?_
          exact nxt (cok_s s F) S3 G3 (60 * r) (6 * (60 * r)) hiL (ax_cok hA eF).1 hR3 hG3 (Nat.le_refl _) (Nat.le_refl _)
        · subst e9
          have hG1 := hLc
          refine ci_st (st' := [.int 1]) rfl ?_
          refine ci_pc (pc' := 152) rfl ?_
          refine ci_istore (lv' := [(5, .int 1), (0, .ref b), (1, .ref (I 0)), (2, .ref (I 13)), (3, .ref (I 14)), (4, .int (nI i))]) dL_law_152 (by decide) rfl ?_
          refine ci_pc (pc' := 154) rfl ?_
          refine ci_aload_n dL_law_154 rfl ?_
          refine ci_callV (M' := mX7_compile) (d' := 6) (k' := 0) (n' := 0) (k := 60 * r) (n := 6 * (60 * r)) (index := 43) (np := 0) (As := []) (rest := []) dL_law_155 lkL_43 mwX7_compile (lr_cil hI hA hR t1 t2 eq hG1) (by omega) rfl rfl (Nat.le_of_ble_eq_true rfl) hG1.2.1.1 rfl (fun v9 G2 q9 => ?_) (fun _ _ h9 => absurd h9 id)
          obtain ⟨e9, S2, hG2, hR2, h0, h14b⟩ := q9
          subst e9
          refine ci_st (st' := [.int 0]) rfl ?_
          refine ci_pc (pc' := 158) rfl ?_
          refine ci_istore (lv' := [(6, .int 0), (5, .int 1), (0, .ref b), (1, .ref (I 0)), (2, .ref (I 13)), (3, .ref (I 14)), (4, .int (nI i))]) dL_law_158 (by decide) rfl ?_
          refine ci_pc (pc' := 160) rfl ?_
          refine ci_aload_n dL_law_160 rfl ?_
          refine ci_callV (M' := mX7_thrown) (d' := 0) (k' := 0) (n' := 0) (k := 60 * r) (n := 6 * (60 * r)) (index := 44) (np := 0) (As := []) (rest := []) dL_law_161 lkL_44 mwX7_thrown (lr_thrown hI hR2 hG2) (by omega) rfl rfl (Nat.le_of_ble_eq_true rfl) hG2.2.1.1 rfl (fun v9 G3 q9 => ?_) (fun _ _ h9 => absurd h9 id)
          obtain ⟨e9, ⟨S3, hG3, hR3⟩, h14c⟩ := q9
          subst e9
          refine ci_st (st' := [.int 1]) (by rw [h0]; rfl) ?_
          refine ci_pc (pc' := 164) rfl ?_
          refine ci_iload dL_law_164 rfl ?_
          refine ci_pc (pc' := 166) rfl ?_
          refine ci_icmp_eq (tgt := 171) dL_law_166 (by decide) (fun _ => ?_) (fun h9 => absurd rfl h9)
          refine ci_iload dL_law_171 rfl ?_
          refine ci_pc (pc' := 173) rfl ?_
          refine ci_if_ne (tgt := 188) dL_law_173 (by decide) (fun _ => ?_) (fun h9 => absurd h9 (by decide))
          refine ci_goto (tgt := 438) dL_law_188 (by decide) ?_
          refine ci_sub (lv' := lw_lv b I i) (fun q hq => List.mem_cons_of_mem _ (List.mem_cons_of_mem _ hq)) ?_
          exact nxt (cil_s s q) S3 G3 (60 * r) (6 * (60 * r)) hiL (ax_cil hA) hR3 hG3 (Nat.le_refl _) (Nat.le_refl _)
    · refine ci_tableIn (tgt := 191) (off := 142) dL_law_49 (by decide) (by decide) (by decide) (by decide) ?_
      refine ci_aload_n dL_law_191 rfl ?_
      refine ci_callV (M' := mX6_place) (d' := 0) (k' := 0) (n' := 0) (k := k) (n := n) (index := 47) (np := 0) (As := []) (rest := []) dL_law_192 lkL_47 mwX6_place (lc_place hG) (by omega) rfl rfl (Nat.le_of_ble_eq_true rfl) hG.1.1 rfl (fun v9 G1 q9 => ?_) (fun _ _ h9 => absurd h9 id)
      obtain ⟨e9, hG1⟩ := q9
      subst e9
      refine ci_st (st' := [.int _]) rfl ?_
      refine ci_pc (pc' := 195) rfl ?_
      refine ci_aload_n dL_law_195 rfl ?_
      refine ci_callV (M' := mX7_place) (d' := 0) (k' := 0) (n' := 0) (k := k) (n := n) (index := 50) (np := 0) (As := []) (rest := [.int _]) dL_law_196 lkL_50 mwX7_place (lr_place hI hR hG1) (by omega) rfl rfl (Nat.le_of_ble_eq_true rfl) hG1.2.1.1 rfl (fun v9 G2 q9 => ?_) (fun _ _ h9 => absurd h9 id)
      obtain ⟨e9, S2, hG2, hR2⟩ := q9
      subst e9
      refine ci_st (st' := [.int _, .int _]) rfl ?_
      refine ci_pc (pc' := 199) rfl ?_
      refine ci_icmp_eq (tgt := 438) dL_law_199 (by decide) (fun _ => ?_) (fun h9 => absurd rfl h9)
      exact nxt s S2 G2 k n hiL hA hR2 hG2 (by omega) (by omega)
    · refine ci_tableIn (tgt := 204) (off := 155) dL_law_49 (by decide) (by decide) (by decide) (by decide) ?_
      obtain ⟨pf, hpf, hT⟩ := lc_code (a1 := xs (i + 1)) (a2 := xs (i + 2)) hA hG
      refine ci_aload_n dL_law_204 rfl ?_
      refine lw_ld (j := 1) (i := i) (by decide) (by omega) hL rfl rfl dL_law_205 dL_law_206 dL_law_208 dL_law_209 dL_law_210 ?_
      refine ci_pc (pc' := 211) rfl ?_
      refine lw_ld (j := 2) (i := i) (by decide) (by omega) hL rfl rfl dL_law_211 dL_law_212 dL_law_214 dL_law_215 dL_law_216 ?_
      refine ci_pc (pc' := 217) rfl ?_
      refine ci_callV (M' := mX6_code) (d' := 1) (k' := 0) (n' := 0) (k := k) (n := n) (index := 51) (np := 2) (As := [.int (xs (i + 1)), .int (xs (i + 2))]) (rest := []) dL_law_217 lkL_51 mwX6_code hT (by omega) rfl rfl (Nat.le_of_ble_eq_true rfl) hG.1.1 rfl (fun v9 G1 q9 => ?_) (fun _ _ h9 => absurd h9 id)
      obtain ⟨e9, hG1⟩ := q9
      subst e9
      refine ci_st (st' := [.int _]) rfl ?_
      refine ci_pc (pc' := 220) rfl ?_
      refine ci_aload_n dL_law_220 rfl ?_
      refine lw_ld (j := 1) (i := i) (by decide) (by omega) hL rfl rfl dL_law_221 dL_law_222 dL_law_224 dL_law_225 dL_law_226 ?_
      refine ci_pc (pc' := 227) rfl ?_
      refine lw_ld (j := 2) (i := i) (by decide) (by omega) hL rfl rfl dL_law_227 dL_law_228 dL_law_230 dL_law_231 dL_law_232 ?_
      refine ci_pc (pc' := 233) rfl ?_
      refine ci_callV (M' := mX7_code) (d' := 0) (k' := 0) (n' := 0) (k := k) (n := n) (index := 55) (np := 2) (As := [.int (xs (i + 1)), .int (xs (i + 2))]) (rest := [.int _]) dL_law_233 lkL_55 mwX7_code (lr_code hI hA hR hpf hG1) (by omega) rfl rfl (Nat.le_of_ble_eq_true rfl) hG1.2.1.1 rfl (fun v9 G2 q9 => ?_) (fun _ _ h9 => absurd h9 id)
      obtain ⟨e9, S2, hG2, hR2⟩ := q9
      subst e9
      refine ci_st (st' := [.int _, .int _]) rfl ?_
      refine ci_pc (pc' := 236) rfl ?_
      refine ci_icmp_eq (tgt := 438) dL_law_236 (by decide) (fun _ => ?_) (fun h9 => absurd rfl h9)
      exact nxt s S2 G2 k n hiL hA hR2 hG2 (by omega) (by omega)
    · refine ci_tableIn (tgt := 241) (off := 192) dL_law_49 (by decide) (by decide) (by decide) (by decide) ?_
      obtain ⟨kc, dn, s', hkc, hs1, hA', hT, hW⟩ := lx_run (a1 := xs (i + 1)) hN.2 (by omega) hI hA hR
      have hT := hT G hG
      refine ci_fewer (k' := (60 * r + 20 * s.1) + 1) (n' := 6 * (60 * r + 20 * s.1) + 6) (by omega) (by omega) ?_
      refine ci_aload_n dL_law_241 rfl ?_
      refine lw_ld (j := 1) (i := i) (by decide) (by omega) hL rfl rfl dL_law_242 dL_law_243 dL_law_245 dL_law_246 dL_law_247 ?_
      refine ci_pc (pc' := 248) rfl ?_
      refine ci_aload_n dL_law_248 rfl ?_
      refine ci_callSW (M' := mL_run) (d' := 9) (k' := 1) (n' := 6) (k := 60 * r + 20 * s.1) (n := 6 * (60 * r + 20 * s.1)) (index := 56) (np := 3) (hh := hh_r) (As := [.ref (I 0), .int (xs (i + 1)), .ref (I 14)]) (rest := []) nc_bl dL_law_249 lkL_56 mwL_run (t_Lrun (k := kc) hT hG.1.1 (fun v G' q => ?_) (fun X G' q => q.2)) (by omega) rfl rfl (Nat.le_of_ble_eq_true rfl) (fun s A c H locs U h _ _ _ hW9 => nc_mv hW9.alike h.2) (fun v9 G1 q9 => ?_)
      · obtain ⟨_, ev, hLc⟩ := q
        obtain ⟨f, hf⟩ := hLc.2.2
        exact ⟨_, f, ev, hf⟩
      · rcases q9 with ⟨z, Gc, f', ⟨ek, ez, hLc⟩, e9, hf', eG⟩ | ⟨e9, X, hLc, hX⟩
        · subst e9 eG ek
          have ez : z = nI dn := Value.int.inj (Option.some.inj ez)
          subst ez
          have hG1 : LWP I ad N s' S (cj_up Gc (I 14) (.inl (3, 1, .inr (.inl f')))) := lp_long hI hLc
          have h14 : cj_up Gc (I 14) (.inl (3, 1, .inr (.inl f'))) (I 14) = some (.inl (3, 1, .inr (.inl f'))) := cj_up_s
          refine ci_st (st' := [.int 0]) rfl ?_
          refine ci_pc (pc' := 252) rfl ?_
          refine ci_istore (lv' := [(5, .int 0), (0, .ref b), (1, .ref (I 0)), (2, .ref (I 13)), (3, .ref (I 14)), (4, .int (nI i))]) dL_law_252 (by decide) rfl ?_
          refine ci_pc (pc' := 254) rfl ?_
          refine ci_aload_n dL_law_254 rfl ?_
          refine lw_ld (j := 1) (i := i) (by decide) (by omega) hL rfl rfl dL_law_255 dL_law_256 dL_law_258 dL_law_259 dL_law_260 ?_
          refine ci_pc (pc' := 261) rfl ?_
          refine ci_callV (M' := mX7_run) (d' := 5) (k' := 0) (n' := 0) (k := 60 * r + 20 * s.1) (n := 6 * (60 * r + 20 * s.1)) (index := 59) (np := 1) (As := [.int (xs (i + 1))]) (rest := []) dL_law_261 lkL_59 mwX7_run (lr_call (Q := fun v S' => RX N s' S' ∧ S'.1 0 = nI 0 ∧ (0 = 0 → v = nI dn)) hI hG1 (tR_run hI.2.2 (hW _ (fun v S' g1 g2 g3 => ⟨g1, g2, g3⟩)))) (by omega) rfl rfl (Nat.le_of_ble_eq_true rfl) hG1.2.1.1 rfl (fun v9 G2 q9 => ?_) (fun _ _ h9 => absurd h9 id)
          obtain ⟨z2, S2, e9, ⟨hR2, h0, hz⟩, hG2, h14b⟩ := q9
          have hz := hz rfl
          subst e9 hz
          refine ci_st (st' := [.int (nI dn)]) rfl ?_
          refine ci_pc (pc' := 264) rfl ?_
          refine ci_istore (lv' := [(6, .int (nI dn)), (5, .int 0), (0, .ref b), (1, .ref (I 0)), (2, .ref (I 13)), (3, .ref (I 14)), (4, .int (nI i))]) dL_law_264 (by decide) rfl ?_
          refine ci_pc (pc' := 266) rfl ?_
          refine ci_aload_n dL_law_266 rfl ?_
          refine ci_callV (M' := mX7_thrown) (d' := 0) (k' := 0) (n' := 0) (k := 60 * r + 20 * s.1) (n := 6 * (60 * r + 20 * s.1)) (index := 44) (np := 0) (As := []) (rest := []) dL_law_267 lkL_44 mwX7_thrown (lr_thrown hI hR2 hG2) (by omega) rfl rfl (Nat.le_of_ble_eq_true rfl) hG2.2.1.1 rfl (fun v9 G3 q9 => ?_) (fun _ _ h9 => absurd h9 id)
          obtain ⟨e9, ⟨S3, hG3, hR3⟩, h14c⟩ := q9
          subst e9
          refine ci_st (st' := [.int 0]) (by rw [h0]; rfl) ?_
          refine ci_pc (pc' := 270) rfl ?_
          refine ci_iload dL_law_270 rfl ?_
          refine ci_pc (pc' := 272) rfl ?_
          refine ci_icmp_eq (tgt := 277) dL_law_272 (by decide) (fun _ => ?_) (fun h9 => absurd rfl h9)
          refine ci_iload dL_law_277 rfl ?_
          refine ci_pc (pc' := 279) rfl ?_
          refine ci_if_ne (tgt := 294) dL_law_279 (by decide) (fun h9 => absurd rfl h9) (fun _ => ?_)
          refine ci_pc (pc' := 282) rfl ?_
          refine ci_aload_n dL_law_282 rfl ?_
          refine ci_iconst (v := 0) dL_law_283 (by decide) ?_
          refine ci_lald dL_law_284 (h14c.trans (h14b.trans h14)) (nI_vp (c := 0) (by omega) (by omega)) ?_
          refine ci_st (st' := [.long (f' 0)]) rfl ?_
          refine ci_pc (pc' := 285) rfl ?_
          refine ci_iload dL_law_285 rfl ?_
          refine ci_pc (pc' := 287) rfl ?_
          refine ci_i2l (v := f' 0) dL_law_287 (hf'.symm) ?_
          refine ci_lcmp dL_law_288 ?_
          refine ci_st (st' := [.int 0]) (by rw [lg_self]) ?_
          refine ci_pc (pc' := 289) rfl ?_
          refine ci_if_eq (tgt := 294) dL_law_289 (by decide) (fun _ => ?_) (fun h9 => absurd rfl h9)
          refine ci_goto (tgt := 438) dL_law_294 (by decide) ?_
          refine ci_sub (lv' := lw_lv b I i) (fun q hq => List.mem_cons_of_mem _ (List.mem_cons_of_mem _ hq)) ?_
          exact nxt s' S3 G3 (60 * r + 20 * s.1) (6 * (60 * r + 20 * s.1)) hiL hA' hR3 hG3 (by rw [hs1]; exact Nat.le_refl _) (by rw [hs1]; exact Nat.le_refl _)
        · subst e9
          have hG1 := hLc
          have hk9 : 1 ≤ kc := by omega
          refine ci_st (st' := [.int (nI kc)]) rfl ?_
          refine ci_pc (pc' := 252) rfl ?_
          refine ci_istore (lv' := [(5, .int (nI kc)), (0, .ref b), (1, .ref (I 0)), (2, .ref (I 13)), (3, .ref (I 14)), (4, .int (nI i))]) dL_law_252 (by decide) rfl ?_
          refine ci_pc (pc' := 254) rfl ?_
          refine ci_aload_n dL_law_254 rfl ?_
          refine lw_ld (j := 1) (i := i) (by decide) (by omega) hL rfl rfl dL_law_255 dL_law_256 dL_law_258 dL_law_259 dL_law_260 ?_
          refine ci_pc (pc' := 261) rfl ?_
          refine ci_callV (M' := mX7_run) (d' := 5) (k' := 0) (n' := 0) (k := 60 * r + 20 * s.1) (n := 6 * (60 * r + 20 * s.1)) (index := 59) (np := 1) (As := [.int (xs (i + 1))]) (rest := []) dL_law_261 lkL_59 mwX7_run (lr_call (Q := fun v S' => RX N s' S' ∧ S'.1 0 = nI kc ∧ (kc = 0 → v = nI dn)) hI hG1 (tR_run hI.2.2 (hW _ (fun v S' g1 g2 g3 => ⟨g1, g2, g3⟩)))) (by omega) rfl rfl (Nat.le_of_ble_eq_true rfl) hG1.2.1.1 rfl (fun v9 G2 q9 => ?_) (fun _ _ h9 => absurd h9 id)
          obtain ⟨z2, S2, e9, ⟨hR2, h0, hz⟩, hG2, h14b⟩ := q9
          subst e9
          refine ci_st (st' := [.int z2]) rfl ?_
          refine ci_pc (pc' := 264) rfl ?_
          refine ci_istore (lv' := [(6, .int z2), (5, .int (nI kc)), (0, .ref b), (1, .ref (I 0)), (2, .ref (I 13)), (3, .ref (I 14)), (4, .int (nI i))]) dL_law_264 (by decide) rfl ?_
          refine ci_pc (pc' := 266) rfl ?_
          refine ci_aload_n dL_law_266 rfl ?_
          refine ci_callV (M' := mX7_thrown) (d' := 0) (k' := 0) (n' := 0) (k := 60 * r + 20 * s.1) (n := 6 * (60 * r + 20 * s.1)) (index := 44) (np := 0) (As := []) (rest := []) dL_law_267 lkL_44 mwX7_thrown (lr_thrown hI hR2 hG2) (by omega) rfl rfl (Nat.le_of_ble_eq_true rfl) hG2.2.1.1 rfl (fun v9 G3 q9 => ?_) (fun _ _ h9 => absurd h9 id)
          obtain ⟨e9, ⟨S3, hG3, hR3⟩, h14c⟩ := q9
          subst e9
          refine ci_st (st' := [.int (nI kc)]) (by rw [h0]; rfl) ?_
          refine ci_pc (pc' := 270) rfl ?_
          refine ci_iload dL_law_270 rfl ?_
          refine ci_pc (pc' := 272) rfl ?_
          refine ci_icmp_eq (tgt := 277) dL_law_272 (by decide) (fun _ => ?_) (fun h9 => absurd rfl h9)
          refine ci_iload dL_law_277 rfl ?_
          refine ci_pc (pc' := 279) rfl ?_
          refine ci_if_ne (tgt := 294) dL_law_279 (by decide) (fun _ => ?_) (fun h9 => absurd h9 (fun h8 => by have := (nI_eq (b := 0) (by omega) (by omega)).mp h8; omega))
          refine ci_goto (tgt := 438) dL_law_294 (by decide) ?_
          refine ci_sub (lv' := lw_lv b I i) (fun q hq => List.mem_cons_of_mem _ (List.mem_cons_of_mem _ hq)) ?_
          exact nxt s' S3 G3 (60 * r + 20 * s.1) (6 * (60 * r + 20 * s.1)) hiL hA' hR3 hG3 (by rw [hs1]; exact Nat.le_refl _) (by rw [hs1]; exact Nat.le_refl _)
    · refine ci_tableIn (tgt := 297) (off := 248) dL_law_49 (by decide) (by decide) (by decide) (by decide) ?_
      refine ci_aload_n dL_law_297 rfl ?_
      refine ci_callV (M' := mX6_state) (d' := 1) (k' := 0) (n' := 0) (k := k) (n := n) (index := 60) (np := 0) (As := []) (rest := []) dL_law_298 lkL_60 mwX6_state (lc_state hA hG) (by omega) rfl rfl (Nat.le_of_ble_eq_true rfl) hG.1.1 rfl (fun v9 G1 q9 => ?_) (fun _ _ h9 => absurd h9 id)
      obtain ⟨e9, hG1⟩ := q9
      subst e9
      refine ci_st (st' := [.int _]) rfl ?_
      refine ci_pc (pc' := 301) rfl ?_
      refine ci_aload_n dL_law_301 rfl ?_
      refine ci_callV (M' := mX7_state) (d' := 0) (k' := 0) (n' := 0) (k := k) (n := n) (index := 63) (np := 0) (As := []) (rest := [.int _]) dL_law_302 lkL_63 mwX7_state (lr_state hI hR hG1) (by omega) rfl rfl (Nat.le_of_ble_eq_true rfl) hG1.2.1.1 rfl (fun v9 G2 q9 => ?_) (fun _ _ h9 => absurd h9 id)
      obtain ⟨e9, S2, hG2, hR2⟩ := q9
      subst e9
      refine ci_st (st' := [.int _, .int _]) rfl ?_
      refine ci_pc (pc' := 305) rfl ?_
      refine ci_icmp_eq (tgt := 438) dL_law_305 (by decide) (fun _ => ?_) (fun h9 => absurd rfl h9)
      exact nxt s S2 G2 k n hiL hA hR2 hG2 (by omega) (by omega)
    · refine ci_tableIn (tgt := 310) (off := 261) dL_law_49 (by decide) (by decide) (by decide) (by decide) ?_
      refine ci_aload_n dL_law_310 rfl ?_
      refine ci_callV (M' := mX6_why) (d' := 0) (k' := 0) (n' := 0) (k := k) (n := n) (index := 64) (np := 0) (As := []) (rest := []) dL_law_311 lkL_64 mwX6_why (lc_why hG) (by omega) rfl rfl (Nat.le_of_ble_eq_true rfl) hG.1.1 rfl (fun v9 G1 q9 => ?_) (fun _ _ h9 => absurd h9 id)
      obtain ⟨e9, hG1⟩ := q9
      subst e9
      refine ci_st (st' := [.int _]) rfl ?_
      refine ci_pc (pc' := 314) rfl ?_
      refine ci_aload_n dL_law_314 rfl ?_
      refine ci_callV (M' := mX7_why) (d' := 0) (k' := 0) (n' := 0) (k := k) (n := n) (index := 67) (np := 0) (As := []) (rest := [.int _]) dL_law_315 lkL_67 mwX7_why (lr_why hI hR hG1) (by omega) rfl rfl (Nat.le_of_ble_eq_true rfl) hG1.2.1.1 rfl (fun v9 G2 q9 => ?_) (fun _ _ h9 => absurd h9 id)
      obtain ⟨e9, S2, hG2, hR2⟩ := q9
      subst e9
      refine ci_st (st' := [.int _, .int _]) rfl ?_
      refine ci_pc (pc' := 318) rfl ?_
      refine ci_icmp_eq (tgt := 438) dL_law_318 (by decide) (fun _ => ?_) (fun h9 => absurd rfl h9)
      exact nxt s S2 G2 k n hiL hA hR2 hG2 (by omega) (by omega)
    · refine ci_tableIn (tgt := 323) (off := 274) dL_law_49 (by decide) (by decide) (by decide) (by decide) ?_
      refine ci_aload_n dL_law_323 rfl ?_
      refine ci_callV (M' := mX6_next) (d' := 0) (k' := 0) (n' := 0) (k := k) (n := n) (index := 68) (np := 0) (As := []) (rest := []) dL_law_324 lkL_68 mwX6_next (lc_next hG) (by omega) rfl rfl (Nat.le_of_ble_eq_true rfl) hG.1.1 rfl (fun v9 G1 q9 => ?_) (fun _ _ h9 => absurd h9 id)
      obtain ⟨e9, hG1⟩ := q9
      subst e9
      refine ci_st (st' := [.int _]) rfl ?_
      refine ci_pc (pc' := 327) rfl ?_
      refine ci_aload_n dL_law_327 rfl ?_
      refine ci_callV (M' := mX7_next) (d' := 0) (k' := 0) (n' := 0) (k := k) (n := n) (index := 71) (np := 0) (As := []) (rest := [.int _]) dL_law_328 lkL_71 mwX7_next (lr_next hI hR hG1) (by omega) rfl rfl (Nat.le_of_ble_eq_true rfl) hG1.2.1.1 rfl (fun v9 G2 q9 => ?_) (fun _ _ h9 => absurd h9 id)
      obtain ⟨e9, S2, hG2, hR2⟩ := q9
      subst e9
      refine ci_st (st' := [.int _, .int _]) rfl ?_
      refine ci_pc (pc' := 331) rfl ?_
      refine ci_icmp_eq (tgt := 438) dL_law_331 (by decide) (fun _ => ?_) (fun h9 => absurd rfl h9)
      exact nxt s S2 G2 k n hiL hA hR2 hG2 (by omega) (by omega)
    · refine ci_tableIn (tgt := 336) (off := 287) dL_law_49 (by decide) (by decide) (by decide) (by decide) ?_
      refine ci_aload_n dL_law_336 rfl ?_
      refine ci_callV (M' := mX6_depth) (d' := 0) (k' := 0) (n' := 0) (k := k) (n := n) (index := 72) (np := 0) (As := []) (rest := []) dL_law_337 lkL_72 mwX6_depth (lc_depth hG) (by omega) rfl rfl (Nat.le_of_ble_eq_true rfl) hG.1.1 rfl (fun v9 G1 q9 => ?_) (fun _ _ h9 => absurd h9 id)
      obtain ⟨e9, hG1⟩ := q9
      subst e9
      refine ci_st (st' := [.int _]) rfl ?_
      refine ci_pc (pc' := 340) rfl ?_
      refine ci_aload_n dL_law_340 rfl ?_
      refine ci_callV (M' := mX7_depth) (d' := 0) (k' := 0) (n' := 0) (k := k) (n := n) (index := 75) (np := 0) (As := []) (rest := [.int _]) dL_law_341 lkL_75 mwX7_depth (lr_depth hI hR hG1) (by omega) rfl rfl (Nat.le_of_ble_eq_true rfl) hG1.2.1.1 rfl (fun v9 G2 q9 => ?_) (fun _ _ h9 => absurd h9 id)
      obtain ⟨e9, S2, hG2, hR2⟩ := q9
      subst e9
      refine ci_st (st' := [.int _, .int _]) rfl ?_
      refine ci_pc (pc' := 344) rfl ?_
      refine ci_icmp_eq (tgt := 438) dL_law_344 (by decide) (fun _ => ?_) (fun h9 => absurd rfl h9)
      exact nxt s S2 G2 k n hiL hA hR2 hG2 (by omega) (by omega)
    · refine ci_tableIn (tgt := 349) (off := 300) dL_law_49 (by decide) (by decide) (by decide) (by decide) ?_
      refine ci_aload_n dL_law_349 rfl ?_
      refine ci_callV (M' := mX6_used) (d' := 0) (k' := 0) (n' := 0) (k := k) (n := n) (index := 76) (np := 0) (As := []) (rest := []) dL_law_350 lkL_76 mwX6_used (lc_used hG) (by omega) rfl rfl (Nat.le_of_ble_eq_true rfl) hG.1.1 rfl (fun v9 G1 q9 => ?_) (fun _ _ h9 => absurd h9 id)
      obtain ⟨e9, hG1⟩ := q9
      subst e9
      refine ci_st (st' := [.int _]) rfl ?_
      refine ci_pc (pc' := 353) rfl ?_
      refine ci_aload_n dL_law_353 rfl ?_
      refine ci_callV (M' := mX7_used) (d' := 0) (k' := 0) (n' := 0) (k := k) (n := n) (index := 79) (np := 0) (As := []) (rest := [.int _]) dL_law_354 lkL_79 mwX7_used (lr_used hI hR hG1) (by omega) rfl rfl (Nat.le_of_ble_eq_true rfl) hG1.2.1.1 rfl (fun v9 G2 q9 => ?_) (fun _ _ h9 => absurd h9 id)
      obtain ⟨e9, S2, hG2, hR2⟩ := q9
      subst e9
      refine ci_st (st' := [.int _, .int _]) rfl ?_
      refine ci_pc (pc' := 357) rfl ?_
      refine ci_icmp_eq (tgt := 438) dL_law_357 (by decide) (fun _ => ?_) (fun h9 => absurd rfl h9)
      exact nxt s S2 G2 k n hiL hA hR2 hG2 (by omega) (by omega)
    · refine ci_tableIn (tgt := 362) (off := 313) dL_law_49 (by decide) (by decide) (by decide) (by decide) ?_
      refine ci_aload_n dL_law_362 rfl ?_
      refine ci_callV (M' := mX6_live) (d' := 4) (k' := 0) (n' := 0) (k := k) (n := n) (index := 80) (np := 0) (As := []) (rest := []) dL_law_363 lkL_80 mwX6_live (lc_live hN.2 hI hA hG) (by omega) rfl rfl (Nat.le_of_ble_eq_true rfl) hG.1.1 rfl (fun v9 G1 q9 => ?_) (fun _ _ h9 => absurd h9 id)
      obtain ⟨e9, hG1⟩ := q9
      subst e9
      refine ci_st (st' := [.int _]) rfl ?_
      refine ci_pc (pc' := 366) rfl ?_
      refine ci_aload_n dL_law_366 rfl ?_
      refine ci_callV (M' := mX7_live) (d' := 2) (k' := 0) (n' := 0) (k := k) (n := n) (index := 83) (np := 0) (As := []) (rest := [.int _]) dL_law_367 lkL_83 mwX7_live (lr_live hN.2 hI hA hR hG1) (by omega) rfl rfl (Nat.le_of_ble_eq_true rfl) hG1.2.1.1 rfl (fun v9 G2 q9 => ?_) (fun _ _ h9 => absurd h9 id)
      obtain ⟨e9, S2, hG2, hR2⟩ := q9
      subst e9
      refine ci_st (st' := [.int _, .int _]) rfl ?_
      refine ci_pc (pc' := 370) rfl ?_
      refine ci_icmp_eq (tgt := 438) dL_law_370 (by decide) (fun _ => ?_) (fun h9 => absurd rfl h9)
      exact nxt s S2 G2 k n hiL hA hR2 hG2 (by omega) (by omega)
    · refine ci_tableIn (tgt := 375) (off := 326) dL_law_49 (by decide) (by decide) (by decide) (by decide) ?_
      refine ci_aload_n dL_law_375 rfl ?_
      refine ci_callV (M' := mX6_collections) (d' := 0) (k' := 0) (n' := 0) (k := k) (n := n) (index := 84) (np := 0) (As := []) (rest := []) dL_law_376 lkL_84 mwX6_collections (lc_collections hG) (by omega) rfl rfl (Nat.le_of_ble_eq_true rfl) hG.1.1 rfl (fun v9 G1 q9 => ?_) (fun _ _ h9 => absurd h9 id)
      obtain ⟨e9, hG1⟩ := q9
      subst e9
      refine ci_st (st' := [.int _]) rfl ?_
      refine ci_pc (pc' := 379) rfl ?_
      refine ci_aload_n dL_law_379 rfl ?_
      refine ci_callV (M' := mX7_collections) (d' := 0) (k' := 0) (n' := 0) (k := k) (n := n) (index := 87) (np := 0) (As := []) (rest := [.int _]) dL_law_380 lkL_87 mwX7_collections (lr_collections hI hR hG1) (by omega) rfl rfl (Nat.le_of_ble_eq_true rfl) hG1.2.1.1 rfl (fun v9 G2 q9 => ?_) (fun _ _ h9 => absurd h9 id)
      obtain ⟨e9, S2, hG2, hR2⟩ := q9
      subst e9
      refine ci_st (st' := [.int _, .int _]) rfl ?_
      refine ci_pc (pc' := 383) rfl ?_
      refine ci_icmp_eq (tgt := 438) dL_law_383 (by decide) (fun _ => ?_) (fun h9 => absurd rfl h9)
      exact nxt s S2 G2 k n hiL hA hR2 hG2 (by omega) (by omega)
    · refine ci_tableIn (tgt := 388) (off := 339) dL_law_49 (by decide) (by decide) (by decide) (by decide) ?_
      obtain ⟨f, hf, hT⟩ := lc_kind (a1 := xs (i + 1)) hN.2 hA hG
      refine ci_aload_n dL_law_388 rfl ?_
      refine lw_ld (j := 1) (i := i) (by decide) (by omega) hL rfl rfl dL_law_389 dL_law_390 dL_law_392 dL_law_393 dL_law_394 ?_
      refine ci_pc (pc' := 395) rfl ?_
      refine ci_callV (M' := mX6_kind) (d' := 5) (k' := 0) (n' := 0) (k := k) (n := n) (index := 88) (np := 1) (As := [.int (xs (i + 1))]) (rest := []) dL_law_395 lkL_88 mwX6_kind hT (by omega) rfl rfl (Nat.le_of_ble_eq_true rfl) hG.1.1 rfl (fun v9 G1 q9 => ?_) (fun _ _ h9 => absurd h9 id)
      obtain ⟨e9, hG1⟩ := q9
      subst e9
      refine ci_st (st' := [.int _]) rfl ?_
      refine ci_pc (pc' := 398) rfl ?_
      refine ci_aload_n dL_law_398 rfl ?_
      refine lw_ld (j := 1) (i := i) (by decide) (by omega) hL rfl rfl dL_law_399 dL_law_400 dL_law_402 dL_law_403 dL_law_404 ?_
      refine ci_pc (pc' := 405) rfl ?_
      refine ci_callV (M' := mX7_kind) (d' := 3) (k' := 0) (n' := 0) (k := k) (n := n) (index := 91) (np := 1) (As := [.int (xs (i + 1))]) (rest := [.int _]) dL_law_405 lkL_91 mwX7_kind (lr_kind hI hA hR hf hG1) (by omega) rfl rfl (Nat.le_of_ble_eq_true rfl) hG1.2.1.1 rfl (fun v9 G2 q9 => ?_) (fun _ _ h9 => absurd h9 id)
      obtain ⟨e9, S2, hG2, hR2⟩ := q9
      subst e9
      refine ci_st (st' := [.int _, .int _]) rfl ?_
      refine ci_pc (pc' := 408) rfl ?_
      refine ci_icmp_eq (tgt := 438) dL_law_408 (by decide) (fun _ => ?_) (fun h9 => absurd rfl h9)
      exact nxt s S2 G2 k n hiL hA hR2 hG2 (by omega) (by omega)
    · refine ci_tableIn (tgt := 413) (off := 364) dL_law_49 (by decide) (by decide) (by decide) (by decide) ?_
      obtain ⟨f, hf, hT⟩ := lc_value (a1 := xs (i + 1)) hN.2 hA hG
      refine ci_aload_n dL_law_413 rfl ?_
      refine lw_ld (j := 1) (i := i) (by decide) (by omega) hL rfl rfl dL_law_414 dL_law_415 dL_law_417 dL_law_418 dL_law_419 ?_
      refine ci_pc (pc' := 420) rfl ?_
      refine ci_callV (M' := mX6_value) (d' := 5) (k' := 0) (n' := 0) (k := k) (n := n) (index := 92) (np := 1) (As := [.int (xs (i + 1))]) (rest := []) dL_law_420 lkL_92 mwX6_value hT (by omega) rfl rfl (Nat.le_of_ble_eq_true rfl) hG.1.1 rfl (fun v9 G1 q9 => ?_) (fun _ _ h9 => absurd h9 id)
      obtain ⟨e9, hG1⟩ := q9
      subst e9
      refine ci_st (st' := [.int _]) rfl ?_
      refine ci_pc (pc' := 423) rfl ?_
      refine ci_aload_n dL_law_423 rfl ?_
      refine lw_ld (j := 1) (i := i) (by decide) (by omega) hL rfl rfl dL_law_424 dL_law_425 dL_law_427 dL_law_428 dL_law_429 ?_
      refine ci_pc (pc' := 430) rfl ?_
      refine ci_callV (M' := mX7_value) (d' := 2) (k' := 0) (n' := 0) (k := k) (n := n) (index := 95) (np := 1) (As := [.int (xs (i + 1))]) (rest := [.int _]) dL_law_430 lkL_95 mwX7_value (lr_value hI hA hR hf hG1) (by omega) rfl rfl (Nat.le_of_ble_eq_true rfl) hG1.2.1.1 rfl (fun v9 G2 q9 => ?_) (fun _ _ h9 => absurd h9 id)
      obtain ⟨e9, S2, hG2, hR2⟩ := q9
      subst e9
      refine ci_st (st' := [.int _, .int _]) rfl ?_
      refine ci_pc (pc' := 433) rfl ?_
      refine ci_icmp_eq (tgt := 438) dL_law_433 (by decide) (fun _ => ?_) (fun h9 => absurd rfl h9)
      exact nxt s S2 G2 k n hiL hA hR2 hG2 (by omega) (by omega)
    · refine ci_tableOut (tgt := 438) dL_law_49 (Or.inr (by decide)) (by decide) ?_
      exact nxt s S G k n hiL hA hR hG (by omega) (by omega)
    · refine ci_tableOut (tgt := 438) dL_law_49 (Or.inr (by decide)) (by decide) ?_
      exact nxt s S G k n hiL hA hR hG (by omega) (by omega)
end LWL
