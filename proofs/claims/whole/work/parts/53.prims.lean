/-! THE REFERENCE READS: its small methods -/
section RQ
variable {S0 S S' : rm_S} {L p m : Nat} {tx : Nat → Nat} {N N' : Nat → nd_T} {sc : List Nat} {FR : List rf_T} {HD : List (Int32 × Int32)} {VS SG : List Nat} {md en : Int32}
theorem rp_at5 (h : rp S0 p N m sc FR HD VS SG md en S) (q : Nat) : rp S0 q N m sc FR HD VS SG md en (rm_pf S 5 (nI q)) := by
  obtain ⟨h1, h2, h3, h4, h5, h6, h7, h8, h9, ha, hb⟩ := h
  exact ⟨rx_pf h1 (by decide), rfl, h3, h4, h5, h6, h7, h8, h9, ha, hb⟩
theorem rp_md (h : rp S0 p N m sc FR HD VS SG md en S) (v : Int32) : rp S0 p N m sc FR HD VS SG v en (rm_pf S 33 v) := by
  obtain ⟨h1, h2, h3, h4, h5, h6, h7, h8, h9, ha, hb⟩ := h
  exact ⟨rx_pf h1 (by decide), h2, h3, h4, h5, h6, h7, h8, h9, rfl, hb⟩
theorem rp_en (h : rp S0 p N m sc FR HD VS SG md en S) (v : Int32) : rp S0 p N m sc FR HD VS SG md v (rm_pf S 56 v) := by
  obtain ⟨h1, h2, h3, h4, h5, h6, h7, h8, h9, ha, hb⟩ := h
  exact ⟨rx_pf h1 (by decide), h2, h3, h4, h5, h6, h7, h8, h9, ha, rfl⟩
theorem rp_il6 (h : rp S0 p N m sc FR HD VS SG md en S) : rp_il S0 p (rm_pf S 6 1) := ⟨rx_pf h.1 (by decide), h.2.1, by show ¬ (1 : Int32) = 0; decide⟩
theorem il_pf {q k : Nat} {v : Int32} (h : rp_il S0 q S) (hk : k ∉ rx_s) (hk2 : k ≠ 5 ∧ k ≠ 6) : rp_il S0 q (rm_pf S k v) := by
  refine ⟨rx_pf h.1 hk, ?_, ?_⟩
  · show (if 5 = k then v else S.1 5) = _; rw [if_neg (Ne.symm hk2.1)]; exact h.2.1
  · show ¬ (if 6 = k then v else S.1 6) = 0; rw [if_neg (Ne.symm hk2.2)]; exact h.2.2
theorem il_pa {q k i : Nat} {v : Int32} (h : rp_il S0 q S) (hk : k ∉ rx_a) : rp_il S0 q (rm_pa S k i v) := ⟨rx_pa h.1 hk, h.2.1, h.2.2⟩
theorem rp_lk (ht : rt_ok S0 L tx) (h : rp S0 p N m sc FR HD VS SG md en S) (hp : p ≤ L) {Q : Int32 → rm_S → Prop} (hQ : Q (nI (rd_ch tx L p)) S) : wp_look S Q := rp_look ht h.1 h.2.1 hp hQ
theorem w_want_1 {c : Nat} (ht : rt_ok S0 L tx) (h : rp S0 p N m sc FR HD VS SG md en S) (hp : p ≤ L) (e : rd_ch tx L p = c) {Q : rm_S → Prop} (hQ : Q (rm_pf S 5 (nI (p + 1)))) : wp_want S (nI c) Q := by
  refine rp_lk ht h hp ⟨fun _ => ⟨fun h9 => absurd h.2.2.1 h9, fun _ => ?_⟩, fun h9 => absurd (by rw [e]) h9⟩
  rw [h.2.1, nI_1]; exact hQ
theorem w_want_0 {c : Nat} (ht : rt_ok S0 L tx) (h : rp S0 p N m sc FR HD VS SG md en S) (hp : p ≤ L) (hc : c < 65536) (e : ¬ rd_ch tx L p = c) {Q : rm_S → Prop} (hQ : Q (rm_pf S 6 1)) : wp_want S (nI c) Q :=
  rp_lk ht h hp ⟨fun h9 => absurd ((nI_eq (by have := rt_ch ht p; omega) (by omega)).mp h9) e, fun _ => hQ⟩
theorem w_name_1 (ht : rt_ok S0 L tx) (h : rp S0 p N m sc FR HD VS SG md en S) (hp : p ≤ L) (e : 97 ≤ rd_ch tx L p ∧ rd_ch tx L p ≤ 122) {Q : Int32 → rm_S → Prop} (hQ : Q (nI (rd_ch tx L p)) (rm_pf S 5 (nI (p + 1)))) : wp_wantName S Q := by
  refine rp_lk ht h hp (w_isName (rt_ch ht p) ⟨fun _ => ⟨fun _ => ⟨rm_c_n (rt_ch ht p), ?_⟩, fun h9 => absurd h.2.2.1 h9⟩, fun h9 => absurd e (ch_b0.mp h9)⟩)
  rw [h.2.1, nI_1]; exact hQ
theorem w_name_0 (ht : rt_ok S0 L tx) (h : rp S0 p N m sc FR HD VS SG md en S) (hp : p ≤ L) (e : ¬ (97 ≤ rd_ch tx L p ∧ rd_ch tx L p ≤ 122)) {Q : Int32 → rm_S → Prop} (hQ : Q 0 (rm_pf S 6 1)) : wp_wantName S Q :=
  rp_lk ht h hp (w_isName (rt_ch ht p) ⟨fun h9 => absurd (ch_b0.mpr e) h9, fun _ => hQ⟩)
/-- wantName when the text is ill already: it stays ill at its place -/
theorem w_name_il {q : Nat} (ht : rt_ok S0 L tx) (h : rp_il S0 q S) (hq : q ≤ L) : ∃ (x : Int32) (S' : rm_S), (∀ Q : Int32 → rm_S → Prop, Q x S' → wp_wantName S Q) ∧ rp_il S0 q S' := by
  by_cases e : 97 ≤ rd_ch tx L q ∧ rd_ch tx L q ≤ 122
  · exact ⟨0, S, fun Q hQ => rp_look ht h.1 h.2.1 hq (w_isName (rt_ch ht q) ⟨fun _ => ⟨fun h9 => absurd h9 h.2.2, fun _ => hQ⟩, fun h9 => absurd e (ch_b0.mp h9)⟩), h⟩
  · exact ⟨0, rm_pf S 6 1, fun Q hQ => rp_look ht h.1 h.2.1 hq (w_isName (rt_ch ht q) ⟨fun h9 => absurd (ch_b0.mpr e) h9, fun _ => hQ⟩), rx_pf h.1 (by decide), h.2.1, by show ¬ (1 : Int32) = 0; decide⟩
def rs_bind (S : rm_S) (n c : Nat) : rm_S := rm_pf (rm_pa S 16 n (nI c)) 15 (nI (n + 1))
theorem w_bind {c : Nat} (h : sc_at sc S) (hc : c < 65536) (hl : sc.length < 100) {Q : rm_S → Prop} (hQ : Q (rs_bind S sc.length c)) : wp_bind S (nI c) Q := by
  unfold wp_bind
  rw [h.1, nI_clamp (by omega), nI_1, rd_nar hc]
  exact ⟨nI_vp hl (by omega), hQ⟩
theorem rp_bind {c : Nat} (h : rp S0 p N m sc FR HD VS SG md en S) (hc : c < 65536) : rp S0 p N m (sc ++ [c]) FR HD VS SG md en (rs_bind S sc.length c) := by
  obtain ⟨h1, h2, h3, h4, h5, h6, h7, h8, h9, ha, hb⟩ := h
  refine ⟨rx_pf (rx_pa h1 (by decide)) (by decide), h2, h3, h4, ⟨?_, fun j hj => ?_, fun x hx => ?_⟩, h6, h7, h8, h9, ha, hb⟩
  · show nI (sc.length + 1) = _; rw [List.length_append]; rfl
  · show upd (S.2 16) sc.length (nI c) j = _
    rw [getD_app]
    by_cases e : j = sc.length
    · subst e; rw [upd_s, if_neg (Nat.lt_irrefl _), Nat.sub_self]; rfl
    · rw [upd_n e]
      rw [List.length_append] at hj
      have hj2 : j < sc.length := by have hj : j < sc.length + 1 := hj; omega
      rw [if_pos hj2]; exact h5.2.1 j hj2
  · rcases List.mem_append.mp hx with hx | hx
    · exact h5.2.2 x hx
    · rw [List.mem_singleton] at hx; rw [hx]; exact hc
def rs_begin (S : rm_S) (o : Nat) (a1 a2 : Int32) : rm_S := rm_pf (rm_pf (rm_pa (rm_pa (rm_pa (rm_pa (rm_pa (rm_pa (rm_pa S 18 o a1) 22 o a2) 19 o (S.1 26)) 20 o (S.1 15)) 21 o (S.1 31)) 24 o 0) 25 o (-1)) 17 ((S.1 17) + 1)) 33 0
theorem w_begin_1 {a1 a2 : Int32} (h : rp S0 p N m sc FR HD VS SG md en S) (hl : FR.length < 6) {Q : rm_S → Prop} (hQ : Q (rs_begin S FR.length a1 a2)) : wp_begin S a1 a2 Q := by
  have h17 := h.2.2.2.2.2.1.1
  have hv : vp_in (S.1 17) 8 := by rw [h17]; exact nI_vp (by omega) (by omega)
  have ht : (S.1 17).toNatClampNeg = FR.length := by rw [h17]; exact nI_clamp (by omega)
  unfold wp_begin
  refine ⟨fun _ => ⟨fun _ => ⟨hv, hv, hv, hv, hv, hv, hv, ?_⟩, fun h9 => absurd h.2.2.1 h9⟩, fun h9 => ?_⟩
  · rw [ht]; exact hQ
  · rw [h17] at h9
    have := (nI_eq (a := FR.length) (b := 6) (by omega) (by omega)).mp h9
    omega
theorem w_begin_0 {a1 a2 : Int32} (h : rp S0 p N m sc FR HD VS SG md en S) (hl : FR.length = 6) {Q : rm_S → Prop} (hQ : Q (rm_pf S 6 1)) : wp_begin S a1 a2 Q := by
  have h17 := h.2.2.2.2.2.1.1
  rw [hl] at h17
  exact ⟨fun h9 => absurd h17 h9, fun _ => hQ⟩
theorem w_begin_il {q : Nat} {a1 a2 : Int32} (h : rp_il S0 q S) : ∃ S' : rm_S, (∀ Q : rm_S → Prop, Q S' → wp_begin S a1 a2 Q) ∧ rp_il S0 q S' := by
  by_cases e : S.1 17 = 6
  · exact ⟨rm_pf S 6 1, fun Q hQ => ⟨fun h9 => absurd e h9, fun _ => hQ⟩, rx_pf h.1 (by decide), h.2.1, by show ¬ (1 : Int32) = 0; decide⟩
  · exact ⟨S, fun Q hQ => ⟨fun _ => ⟨fun h9 => absurd h9 h.2.2, fun _ => hQ⟩, fun h9 => absurd h9 e⟩, h⟩
theorem rp_begin {a : Nat} {a2 : Int32} (h : rp S0 p N m sc FR HD VS SG md en S) (hl : FR.length < 6) : rp S0 p N m sc ((a, a2, HD.length, sc.length, SG.length, S.2 23 FR.length, 0, -1) :: FR) HD VS SG 0 en (rs_begin S FR.length (nI a) a2) := by
  obtain ⟨h1, h2, h3, h4, h5, h6, h7, h8, h9, ha, hb⟩ := h
  refine ⟨rx_pf (rx_pf (rx_pa (rx_pa (rx_pa (rx_pa (rx_pa (rx_pa (rx_pa h1 (by decide)) (by decide)) (by decide)) (by decide)) (by decide)) (by decide)) (by decide)) (by decide)) (by decide), h2, h3, h4, h5, ⟨?_, ?_, ⟨upd_s, upd_s, ?_, ?_, ?_, rfl, upd_s, upd_s⟩, fq_up (fun j hj => ⟨upd_n (by omega), upd_n (by omega), upd_n (by omega), upd_n (by omega), upd_n (by omega), rfl, upd_n (by omega), upd_n (by omega)⟩) h6.2.2⟩, h7, h8, h9, rfl, hb⟩
  · show S.1 17 + 1 = nI (FR.length + 1); rw [h6.1, nI_1]
  · show FR.length + 1 ≤ 6; omega
  · show upd (S.2 19) FR.length (S.1 26) FR.length = _; rw [upd_s]; exact h7.1
  · show upd (S.2 20) FR.length (S.1 15) FR.length = _; rw [upd_s]; exact h5.1
  · show upd (S.2 21) FR.length (S.1 31) FR.length = _; rw [upd_s]; exact h9.1
def rs_head (S : rm_S) (n : Nat) (a1 a2 : Int32) : rm_S := rm_pf (rm_pa (rm_pa S 27 n a1) 28 n a2) 26 (nI (n + 1))
theorem w_head {a1 a2 : Int32} (h : hd_at HD S) (hl : HD.length < 60) {Q : rm_S → Prop} (hQ : Q (rs_head S HD.length a1 a2)) : wp_head S a1 a2 Q := by
  unfold wp_head
  rw [h.1, nI_clamp (by omega), nI_1]
  exact ⟨nI_vp hl (by omega), nI_vp hl (by omega), hQ⟩
theorem rp_head {a1 a2 : Int32} (h : rp S0 p N m sc FR HD VS SG md en S) : rp S0 p N m sc FR ((a1, a2) :: HD) VS SG md en (rs_head S HD.length a1 a2) := by
  obtain ⟨h1, h2, h3, h4, h5, h6, h7, h8, h9, ha, hb⟩ := h
  refine ⟨rx_pf (rx_pa (rx_pa h1 (by decide)) (by decide)) (by decide), h2, h3, h4, h5, h6, ⟨rfl, ?_, ?_⟩, h8, h9, ha, hb⟩
  · have := lq_push (v := a1) h7.2.1; rw [List.length_map] at this; exact this
  · have := lq_push (v := a2) h7.2.2; rw [List.length_map] at this; exact this
def rs_push (S : rm_S) (n : Nat) (v : Int32) : rm_S := rm_pf (rm_pf (rm_pa S 30 n v) 29 (nI (n + 1))) 33 2
theorem w_push {v : Int32} (h : vs_at VS S) (hl : VS.length < 100) {Q : rm_S → Prop} (hQ : Q (rs_push S VS.length v)) : wp_push S v Q := by
  unfold wp_push
  rw [h.1, nI_clamp (by omega), nI_1]
  exact ⟨nI_vp hl (by omega), hQ⟩
theorem rp_push {v : Nat} (h : rp S0 p N m sc FR HD VS SG md en S) : rp S0 p N m sc FR HD (v :: VS) SG 2 en (rs_push S VS.length (nI v)) := by
  obtain ⟨h1, h2, h3, h4, h5, h6, h7, h8, h9, ha, hb⟩ := h
  refine ⟨rx_pf (rx_pf (rx_pa h1 (by decide)) (by decide)) (by decide), h2, h3, h4, h5, h6, h7, ⟨rfl, ?_⟩, h9, rfl, hb⟩
  have := lq_push (v := nI v) h8.2; rw [List.length_map] at this; exact this
theorem rp_node {k v : Int32} (h : rp S0 p N m sc FR HD VS SG md en S) (hm : m < 300) : (∀ Q : Int32 → rm_S → Prop, Q (nI m) (rs_node S k v) → wp_node S k v Q) ∧ rp S0 p (nd_new N m k v) (m + 1) sc FR HD VS SG md en (rs_node S k v) := by
  obtain ⟨h1, h2, h3, h4, h5, h6, h7, h8, h9, ha, hb⟩ := h
  obtain ⟨q1, q2⟩ := rn_node (k := k) (v := v) h4 hm
  exact ⟨q1, rx_pa (rx_pa (rx_pa (rx_pa (rx_pa (rx_pa (rx_pf h1 (by decide)) (by decide)) (by decide)) (by decide)) (by decide)) (by decide)) (by decide), h2, h3, q2, h5, h6, h7, h8, h9, ha, hb⟩
theorem rp_only {m' : Nat} {l : List Nat} (h : rp S0 p N m sc FR HD VS SG md en S) (ho : rm_only l S S') (hl : ∀ k, k ∈ [2, 4, 36, 38, 40, 41, 42, 44, 48, 52, 16, 18, 22, 19, 20, 21, 23, 24, 25, 27, 28, 30, 32] → k ∉ l) (hn : ns_at N' m' S') : rp S0 p N' m' sc FR HD VS SG md en S' := by
  obtain ⟨h1, h2, h3, h4, h5, h6, h7, h8, h9, ha, hb⟩ := h
  have e := ho.1
  have f : ∀ k, k ∈ [2, 4, 36, 38, 40, 41, 42, 44, 48, 52, 16, 18, 22, 19, 20, 21, 23, 24, 25, 27, 28, 30, 32] → S'.2 k = S.2 k := fun k hk => ho.2 k (hl k hk)
  refine ⟨⟨fun k hk => by rw [e]; exact h1.1 k hk, fun k hk => ?_⟩, by rw [e]; exact h2, by rw [e]; exact h3, hn, ?_, ?_, ?_, ?_, ?_, by rw [e]; exact ha, by rw [e]; exact hb⟩
  · rw [f k (by revert k; decide)]; exact h1.2 k hk
  · unfold sc_at; rw [e, f 16 (by decide)]; exact h5
  · unfold fr_at; rw [e, f 18 (by decide), f 22 (by decide), f 19 (by decide), f 20 (by decide), f 21 (by decide), f 23 (by decide), f 24 (by decide), f 25 (by decide)]; exact h6
  · unfold hd_at; rw [e, f 27 (by decide), f 28 (by decide)]; exact h7
  · unfold vs_at; rw [e, f 30 (by decide)]; exact h8
  · unfold sg_at; rw [e, f 32 (by decide)]; exact h9
theorem rp_add {n c : Nat} (h : rp S0 p N m sc FR HD VS SG md en S) (hn : n < m) (hc : c < m) (hcn : c ≠ n) (hf : (N c).2.2.2.2 = false) : ∃ S' : rm_S, (∀ Q : rm_S → Prop, Q S' → wp_addChild S (nI n) (nI c) Q) ∧ rp S0 p (nd_add N n c) m sc FR HD VS SG md en S' ∧ rm_only [11, 12, 13] S S' := by
  obtain ⟨S', q1, q2, q3⟩ := rn_add h.2.2.2.1 hn hc hcn hf
  exact ⟨S', q1, rp_only h q2 (by decide) q3, q2⟩
/-- the frame on top, one of its numbers written anew -/
theorem rp_f20 {f : rf_T} {v : Nat} (h : rp S0 p N m sc (f :: FR) HD VS SG md en S) : rp S0 p N m sc ((f.1, f.2.1, f.2.2.1, v, f.2.2.2.2) :: FR) HD VS SG md en (rm_pa S 20 FR.length (nI v)) := by
  obtain ⟨h1, h2, h3, h4, h5, ⟨d0, d1, ⟨c1, c2, c3, c4, c5, c6, c7, c8⟩, c9⟩, h7, h8, h9, ha, hb⟩ := h
  exact ⟨rx_pa h1 (by decide), h2, h3, h4, h5, ⟨d0, d1, ⟨c1, c2, c3, upd_s, c5, c6, c7, c8⟩, fq_up (fun j hj => ⟨rfl, rfl, rfl, upd_n (by omega), rfl, rfl, rfl, rfl⟩) c9⟩, h7, h8, h9, ha, hb⟩
theorem rp_f23 {f : rf_T} {v : Int32} (h : rp S0 p N m sc (f :: FR) HD VS SG md en S) : rp S0 p N m sc ((f.1, f.2.1, f.2.2.1, f.2.2.2.1, f.2.2.2.2.1, v, f.2.2.2.2.2.2) :: FR) HD VS SG md en (rm_pa S 23 FR.length v) := by
  obtain ⟨h1, h2, h3, h4, h5, ⟨d0, d1, ⟨c1, c2, c3, c4, c5, c6, c7, c8⟩, c9⟩, h7, h8, h9, ha, hb⟩ := h
  exact ⟨rx_pa h1 (by decide), h2, h3, h4, h5, ⟨d0, d1, ⟨c1, c2, c3, c4, c5, upd_s, c7, c8⟩, fq_up (fun j hj => ⟨rfl, rfl, rfl, rfl, rfl, upd_n (by omega), rfl, rfl⟩) c9⟩, h7, h8, h9, ha, hb⟩
theorem rp_f24 {f : rf_T} {v : Int32} (h : rp S0 p N m sc (f :: FR) HD VS SG md en S) : rp S0 p N m sc ((f.1, f.2.1, f.2.2.1, f.2.2.2.1, f.2.2.2.2.1, f.2.2.2.2.2.1, v, f.2.2.2.2.2.2.2) :: FR) HD VS SG md en (rm_pa S 24 FR.length v) := by
  obtain ⟨h1, h2, h3, h4, h5, ⟨d0, d1, ⟨c1, c2, c3, c4, c5, c6, c7, c8⟩, c9⟩, h7, h8, h9, ha, hb⟩ := h
  exact ⟨rx_pa h1 (by decide), h2, h3, h4, h5, ⟨d0, d1, ⟨c1, c2, c3, c4, c5, c6, upd_s, c8⟩, fq_up (fun j hj => ⟨rfl, rfl, rfl, rfl, rfl, rfl, upd_n (by omega), rfl⟩) c9⟩, h7, h8, h9, ha, hb⟩
theorem rp_f25 {f : rf_T} {v : Int32} (h : rp S0 p N m sc (f :: FR) HD VS SG md en S) : rp S0 p N m sc ((f.1, f.2.1, f.2.2.1, f.2.2.2.1, f.2.2.2.2.1, f.2.2.2.2.2.1, f.2.2.2.2.2.2.1, v) :: FR) HD VS SG md en (rm_pa S 25 FR.length v) := by
  obtain ⟨h1, h2, h3, h4, h5, ⟨d0, d1, ⟨c1, c2, c3, c4, c5, c6, c7, c8⟩, c9⟩, h7, h8, h9, ha, hb⟩ := h
  exact ⟨rx_pa h1 (by decide), h2, h3, h4, h5, ⟨d0, d1, ⟨c1, c2, c3, c4, c5, c6, c7, upd_s⟩, fq_up (fun j hj => ⟨rfl, rfl, rfl, rfl, rfl, rfl, rfl, upd_n (by omega)⟩) c9⟩, h7, h8, h9, ha, hb⟩
/-- the frame on top -/
theorem rp_top {f : rf_T} (h : rp S0 p N m sc (f :: FR) HD VS SG md en S) : S.1 17 - 1 = nI FR.length ∧ vp_in (nI FR.length) 8 ∧ (nI FR.length).toNatClampNeg = FR.length ∧ S.2 18 FR.length = nI f.1 ∧ S.2 22 FR.length = f.2.1 ∧ S.2 19 FR.length = nI f.2.2.1 ∧ S.2 20 FR.length = nI f.2.2.2.1 ∧ S.2 21 FR.length = nI f.2.2.2.2.1 ∧ S.2 23 FR.length = f.2.2.2.2.2.1 ∧ S.2 24 FR.length = f.2.2.2.2.2.2.1 ∧ S.2 25 FR.length = f.2.2.2.2.2.2.2 := by
  obtain ⟨h1, h2, h3, h4, h5, ⟨d0, d1, ⟨c1, c2, c3, c4, c5, c6, c7, c8⟩, c9⟩, h7, h8, h9, ha, hb⟩ := h
  have d1 : FR.length + 1 ≤ 6 := d1
  have d0 : S.1 17 = nI (FR.length + 1) := d0
  exact ⟨by rw [d0, nI_pred], nI_vp (by omega) (by omega), nI_clamp (by omega), c1, c2, c3, c4, c5, c6, c7, c8⟩
end RQ
/-! the loop of readText -/
def RTs (S S' : rm_S) : Prop := ∀ Q K : rm_S → Prop, (∃ n : Nat, wl_readText_41 Q K n S') → ∃ n : Nat, wl_readText_41 Q K n S
theorem RTs.rf {S : rm_S} : RTs S S := fun _ _ h => h
theorem RTs.tr {S S1 S2 : rm_S} (h : RTs S S1) (h2 : RTs S1 S2) : RTs S S2 := fun Q K h9 => h Q K (h2 Q K h9)
section RTX
variable {S0 S S' : rm_S} {p m : Nat} {N : Nat → nd_T} {sc : List Nat} {FR : List rf_T} {HD : List (Int32 × Int32)} {VS SG : List Nat}
theorem rt_0 (h : rp S0 p N m sc FR HD VS SG 0 0 S) (hS : ∀ Q : rm_S → Prop, Q S' → wp_readHead S Q) : RTs S S' := by
  intro Q K hn
  obtain ⟨n, hn⟩ := hn
  obtain ⟨h1, h2, h3, h4, h5, h6, h7, h8, h9, ha, hb⟩ := h
  exact ⟨n + 1, fun h => absurd h3 h, fun _ => ⟨fun h => absurd (ha.symm.trans h) (by decide), fun _ => ⟨fun _ => ⟨fun h => absurd ha h, fun _ => hS _ hn⟩, fun h => absurd hb h⟩⟩⟩
theorem rt_1 (h : rp S0 p N m sc FR HD VS SG 1 0 S) (hS : ∀ Q : rm_S → Prop, Q S' → wp_readAtom S Q) : RTs S S' := by
  intro Q K hn
  obtain ⟨n, hn⟩ := hn
  obtain ⟨h1, h2, h3, h4, h5, h6, h7, h8, h9, ha, hb⟩ := h
  exact ⟨n + 1, fun h => absurd h3 h, fun _ => ⟨fun h => absurd (ha.symm.trans h) (by decide), fun _ => ⟨fun _ => ⟨fun _ => ⟨fun h => absurd ha h, fun _ => hS _ hn⟩, fun h => absurd (ha.symm.trans h) (by decide)⟩, fun h => absurd hb h⟩⟩⟩
theorem rt_2 (h : rp S0 p N m sc FR HD VS SG 2 0 S) (hS : ∀ Q : rm_S → Prop, Q S' → wp_readBehind S Q) : RTs S S' := by
  intro Q K hn
  obtain ⟨n, hn⟩ := hn
  obtain ⟨h1, h2, h3, h4, h5, h6, h7, h8, h9, ha, hb⟩ := h
  exact ⟨n + 1, fun h => absurd h3 h, fun _ => ⟨fun h => absurd (ha.symm.trans h) (by decide), fun _ => ⟨fun _ => ⟨fun _ => ⟨fun _ => ⟨fun h => absurd ha h, fun _ => hS _ hn⟩, fun h => absurd (ha.symm.trans h) (by decide)⟩, fun h => absurd (ha.symm.trans h) (by decide)⟩, fun h => absurd hb h⟩⟩⟩
theorem rt_3 (h : rp S0 p N m sc FR HD VS SG 3 0 S) (hS : ∀ Q : rm_S → Prop, Q S' → wp_readCase S Q) : RTs S S' := by
  intro Q K hn
  obtain ⟨n, hn⟩ := hn
  obtain ⟨h1, h2, h3, h4, h5, h6, h7, h8, h9, ha, hb⟩ := h
  exact ⟨n + 1, fun h => absurd h3 h, fun _ => ⟨fun h => absurd (ha.symm.trans h) (by decide), fun _ => ⟨fun _ => ⟨fun _ => ⟨fun _ => ⟨fun _ => hS _ hn, fun h => absurd (ha.symm.trans h) (by decide)⟩, fun h => absurd (ha.symm.trans h) (by decide)⟩, fun h => absurd (ha.symm.trans h) (by decide)⟩, fun h => absurd hb h⟩⟩⟩
theorem rt_e {f : rf_T} {v : Nat} (h : rp S0 p N m sc (f :: FR) HD VS SG 3 1 S) (hv : f.2.2.2.2.2.2.2 = nI v) (hS : ∀ Q : rm_S → Prop, Q S' → wp_completed (rm_pf (rm_pf S 56 0) 5 (nI (p + 1))) (nI v) Q) : RTs S S' := by
  intro Q K hn
  obtain ⟨n, hn⟩ := hn
  have ht := rp_top h
  obtain ⟨h1, h2, h3, h4, h5, h6, h7, h8, h9, ha, hb⟩ := h
  refine ⟨n + 1, fun h => absurd h3 h, fun _ => ⟨fun h => absurd (ha.symm.trans h) (by decide), fun _ => ⟨fun h => absurd (hb.symm.trans h) (by decide), fun _ => ⟨?_, ?_⟩⟩⟩⟩
  · rw [ht.1]; exact ht.2.1
  · rw [ht.1, ht.2.2.1, ht.2.2.2.2.2.2.2.2.2.2, hv, h2, nI_1]
    exact hS _ hn
end RTX
