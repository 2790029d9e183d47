/-! THE READER AT WORK: rd_st: the Reader stands at p with the scope sc, and owns the rows l and the loose steps ls, none of which was there at G0. rd_cx: besides, what is left to read is R, and there is room for it. -/
def rb {α : Type} (p : Nat) : ps_Q α → Nat
  | .inl q => 20 * (q - p) + 40
  | .inr x => 20 * (x.1 - p)
def rd_bg {α : Type} (t : Int) (p : Nat) (R : ps_Q α) (k n : Nat) : Prop := (rb p R : Int) + t ≤ (k : Int) ∧ 6 * ((rb p R : Int) + t) ≤ (n : Int)
def rd_as (l : List (Nat × List rw_I)) (ls : List rw_I) : List Nat := l.flatMap (fun x => x.1 :: rw_ad x.2) ++ rw_ad ls
def rd_own (G0 G : cj_G) (l : List (Nat × List rw_I)) (ls : List rw_I) : Prop := (∀ x ∈ l, rw_at G x.1 x.2) ∧ (∀ x ∈ ls, G x.1 = some (rw_c x none)) ∧ (rd_as l ls).Nodup ∧ ∀ a ∈ rd_as l ls, G0 a = none
def rd_st (rd rt nb L : Nat) (tx : Nat → Nat) (ill : Int32) (G0 : cj_G) (sc : List Nat) (p : Nat) (l : List (Nat × List rw_I)) (ls : List rw_I) (G : cj_G) : Prop := L ≤ 90 ∧ (∀ j, tx j < 65536) ∧ rd_in G rd rt nb L tx ill sc p ∧ cj_fr [rd, nb] G0 G ∧ rd_own G0 G l ls
def rd_cx (rd rt nb L : Nat) (tx : Nat → Nat) (ill : Int32) (G0 : cj_G) (Qx : String → cj_G → Prop) {β : Type} (R0 R : ps_Q β) (sc : List Nat) (p : Nat) (t : Int) (l : List (Nat × List rw_I)) (ls : List rw_I) (G : cj_G) (k n : Nat) : Prop := R0 = R ∧ (∀ (q : Nat) (E : String) (G' : cj_G), R0 = .inl q → rd_il G0 rd rt nb L q E G' → Qx E G') ∧ rd_bg t p R k n ∧ rd_st rd rt nb L tx ill G0 sc p l ls G
def rd_fin (rd rt nb L : Nat) (tx : Nat → Nat) (ill : Int32) (G0 : cj_G) (sc : List Nat) (R : ps_Q fr_F) (l : List (Nat × List rw_I)) (ls : List rw_I) : Option Value → cj_G → Prop := fun v G' => ∃ (p' : Nat) (F : fr_F) (r : Nat) (W : List rw_I), R = .inr (p', F) ∧ v = some (.ref r) ∧ fr_is W F ∧ rd_st rd rt nb L tx ill G0 sc p' ((r, W) :: l) ls G'
def rd_bad (rd rt nb L : Nat) (G0 : cj_G) {β : Type} (R : ps_Q β) : String → cj_G → Prop := fun E9 G' => ∃ q : Nat, R = .inl q ∧ rd_il G0 rd rt nb L q E9 G'
/-- a method of the Reader with a row for an answer reads R here; s: the room that it can do without -/
def rd_C1 (rd rt nb L : Nat) (tx : Nat → Nat) (ill : Int32) (M : cj_M) (R : ps_Q fr_F) (sc : List Nat) (p : Nat) (tl : List Value) (d : Nat) (s : Int) : Prop := ∀ (G0 : cj_G) (l : List (Nat × List rw_I)) (ls : List rw_I) (G : cj_G) (k n : Nat), rd_st rd rt nb L tx ill G0 sc p l ls G → rd_bg (-s) p R k n → cj_T M d k n (.ref rd :: tl) G (rd_fin rd rt nb L tx ill G0 sc R l ls) (rd_bad rd rt nb L G0 R)
def rd_CM (rd rt nb L : Nat) (tx : Nat → Nat) (ill : Int32) (M : cj_M) (E : List Nat → Nat → ps_Q fr_F) (tl : List Value) (d : Nat) (s : Int) : Prop := ∀ (sc : List Nat) (p : Nat), p ≤ L → rd_C1 rd rt nb L tx ill M (E sc p) sc p tl d s
theorem rb_step {α : Type} {L p p1 : Nat} {R : ps_Q α} (h : ps_ae L p1 R) (hp : p ≤ p1) : rb p R = 20 * (p1 - p) + rb p1 R := by
  cases R with
  | inl q => have := h.1; show 20 * (q - p) + 40 = 20 * (p1 - p) + (20 * (q - p1) + 40); omega
  | inr x => have := h.1; show 20 * (x.1 - p) = 20 * (p1 - p) + 20 * (x.1 - p1); omega
section OWN
variable {G0 G G' : cj_G} {l : List (Nat × List rw_I)} {ls : List rw_I} {S : List Nat}
theorem rd_as_c {r : Nat} {A : List rw_I} : rd_as ((r, A) :: l) ls = r :: (rw_ad A ++ rd_as l ls) := by
  simp [rd_as, List.flatMap_cons, List.append_assoc]
theorem own_some (h : rd_own G0 G l ls) {a : Nat} (ha : a ∈ rd_as l ls) : ∃ (ci : Nat) (fs : List Value), G a = some (.inr (ci, fs)) ∧ ci ≠ 3 := by
  rcases List.mem_append.mp ha with h1 | h1
  · obtain ⟨x, hx, h2⟩ := List.mem_flatMap.mp h1
    exact rw_at.own (h.1 x hx) a h2
  · obtain ⟨x, hx, rfl⟩ := List.mem_map.mp h1
    exact ⟨5, _, h.2.1 x hx, by decide⟩
theorem own_new (h : rd_own G0 G l ls) {a : Nat} (ha : G a = none) : a ∉ rd_as l ls := by
  intro h9
  obtain ⟨ci, fs, h1, _⟩ := own_some h h9
  rw [ha] at h1; cases h1
theorem own_tail {x : Nat × List rw_I} (h : rd_own G0 G (x :: l) ls) : rd_own G0 G l ls := by
  obtain ⟨r, A⟩ := x
  obtain ⟨h1, h2, h3, h4⟩ := h
  rw [rd_as_c] at h3 h4
  refine ⟨fun y hy => h1 y (List.mem_cons_of_mem _ hy), h2, ?_, fun a ha => h4 a (List.mem_cons_of_mem _ (List.mem_append_right _ ha))⟩
  exact (List.nodup_append.mp (List.nodup_cons.mp h3).2).2.1
theorem own_fact {r : Nat} {A : List rw_I} (h : rd_own G0 G ((r, A) :: l) ls) : rw_at G r A ∧ (∀ a ∈ r :: rw_ad A, G0 a = none) ∧ ∀ a ∈ r :: rw_ad A, a ∉ rd_as l ls := by
  obtain ⟨h1, h2, h3, h4⟩ := h
  rw [rd_as_c] at h3 h4
  refine ⟨h1 _ List.mem_cons_self, fun a ha => h4 a ?_, fun a ha h9 => ?_⟩
  · rcases List.mem_cons.mp ha with rfl | ha
    · exact List.mem_cons_self
    · exact List.mem_cons_of_mem _ (List.mem_append_left _ ha)
  · obtain ⟨h5, h6⟩ := List.nodup_cons.mp h3
    rcases List.mem_cons.mp ha with rfl | ha
    · exact h5 (List.mem_append_right _ h9)
    · exact (List.nodup_append.mp h6).2.2 a ha a h9 rfl
theorem own_keep (h : rd_own G0 G l ls) (hf : cj_fr S G G') (hS : ∀ a ∈ rd_as l ls, a ∉ S) : rd_own G0 G' l ls := by
  refine ⟨fun x hx => ?_, fun x hx => ?_, h.2.2⟩
  · have h1 : ∀ a ∈ x.1 :: rw_ad x.2, a ∉ S := fun a ha => hS a (List.mem_append_left _ (List.mem_flatMap.mpr ⟨x, hx, ha⟩))
    exact (h.1 x hx).fr hf (h1 _ List.mem_cons_self) (fun y hy => h1 y (List.mem_cons_of_mem _ hy))
  · exact hf _ _ (hS _ (List.mem_append_right _ (List.mem_map.mpr ⟨x, hx, rfl⟩))) (h.2.1 x hx)
theorem rw_at.ndr {r : Nat} {A : List rw_I} (h : rw_at G r A) : r ∉ rw_ad A := by
  intro h9
  obtain ⟨fs, h1⟩ := rw_sg_mem h.2.1 r h9
  rw [h.1] at h1; cases h1
theorem own_head {r : Nat} {A : List rw_I} (h : rd_own G0 G l ls) (hf : cj_fr S G G') (hS : ∀ a ∈ rd_as l ls, a ∉ S) (hr : rw_at G' r A) (h0 : ∀ a ∈ r :: rw_ad A, G0 a = none) (hd : ∀ a ∈ r :: rw_ad A, a ∉ rd_as l ls) : rd_own G0 G' ((r, A) :: l) ls := by
  have hk := own_keep h hf hS
  refine ⟨fun x hx => ?_, hk.2.1, ?_, fun a ha => ?_⟩
  · rcases List.mem_cons.mp hx with rfl | hx
    · exact hr
    · exact hk.1 x hx
  · rw [rd_as_c]
    refine List.nodup_cons.mpr ⟨fun h9 => ?_, List.nodup_append.mpr ⟨hr.2.2, hk.2.2.1, fun a ha b hb e => ?_⟩⟩
    · rcases List.mem_append.mp h9 with h9 | h9
      · exact hr.ndr h9
      · exact hd r List.mem_cons_self h9
    · subst e; exact hd a (List.mem_cons_of_mem _ ha) hb
  · rw [rd_as_c] at ha
    rcases List.mem_cons.mp ha with rfl | ha
    · exact h0 _ List.mem_cons_self
    · rcases List.mem_append.mp ha with ha | ha
      · exact h0 _ (List.mem_cons_of_mem _ ha)
      · exact hk.2.2.2 a ha
theorem rd_as_l {x : rw_I} : (rd_as l (x :: ls)).Perm (x.1 :: rd_as l ls) := by
  show (l.flatMap (fun x => x.1 :: rw_ad x.2) ++ (x.1 :: rw_ad ls)).Perm _
  exact List.perm_middle
theorem own_loose {x : rw_I} : rd_own G0 G l (x :: ls) ↔ rd_own G0 G l ls ∧ G x.1 = some (rw_c x none) ∧ G0 x.1 = none ∧ x.1 ∉ rd_as l ls := by
  constructor
  · rintro ⟨h1, h2, h3, h4⟩
    have h5 := List.nodup_cons.mp (rd_as_l.nodup_iff.mp h3)
    exact ⟨⟨h1, fun y hy => h2 y (List.mem_cons_of_mem _ hy), h5.2, fun a ha => h4 a (rd_as_l.mem_iff.mpr (List.mem_cons_of_mem _ ha))⟩, h2 x List.mem_cons_self, h4 _ (rd_as_l.mem_iff.mpr List.mem_cons_self), h5.1⟩
  · rintro ⟨⟨h1, h2, h3, h4⟩, h5, h6, h7⟩
    refine ⟨h1, fun y hy => ?_, rd_as_l.nodup_iff.mpr (List.nodup_cons.mpr ⟨h7, h3⟩), fun a ha => ?_⟩
    · rcases List.mem_cons.mp hy with rfl | hy
      · exact h5
      · exact h2 y hy
    · rcases List.mem_cons.mp (rd_as_l.mem_iff.mp ha) with rfl | ha
      · exact h6
      · exact h4 a ha
theorem own_perm {l2 : List (Nat × List rw_I)} (hp : l.Perm l2) (h : rd_own G0 G l ls) : rd_own G0 G l2 ls := by
  have hq : (rd_as l ls).Perm (rd_as l2 ls) := List.Perm.append_right _ (hp.flatMap_right _)
  exact ⟨fun x hx => h.1 x (hp.mem_iff.mpr hx), h.2.1, hq.nodup_iff.mp h.2.2.1, fun a ha => h.2.2.2 a (hq.mem_iff.mpr ha)⟩
theorem own_perm2 {ls2 : List rw_I} (hp : ls.Perm ls2) (h : rd_own G0 G l ls) : rd_own G0 G l ls2 := by
  have hq : (rd_as l ls).Perm (rd_as l ls2) := List.Perm.append_left _ (hp.map _)
  exact ⟨h.1, fun x hx => h.2.1 x (hp.mem_iff.mpr hx), hq.nodup_iff.mp h.2.2.1, fun a ha => h.2.2.2 a (hq.mem_iff.mpr ha)⟩
end OWN
section CX
variable {rd rt nb L : Nat} {tx : Nat → Nat} {ill : Int32} {G0 G G' : cj_G} {Qx : String → cj_G → Prop} {β : Type} {R0 R : ps_Q β} {sc : List Nat} {p : Nat} {t : Int} {l l2 : List (Nat × List rw_I)} {ls ls2 : List rw_I} {k n d : Nat} {S : List Nat}
theorem st_op (h : rd_st rd rt nb L tx ill G0 sc p l ls G) (hf : cj_fr S G G') (hS : ∀ a ∈ S, a ∈ rd_as l ls) (ho : rd_own G0 G' l2 ls2) : rd_st rd rt nb L tx ill G0 sc p l2 ls2 G' := by
  obtain ⟨h1, h2, h3, h4, h5⟩ := h
  exact ⟨h1, h2, h3.keep hf (fun a ha => own_some h5 (hS a ha)), h4.cut hf (fun a ha => Or.inr (h5.2.2.2 a (hS a ha))), ho⟩
theorem cx_st (h : rd_cx rd rt nb L tx ill G0 Qx R0 R sc p t l ls G k n) (h2 : rd_st rd rt nb L tx ill G0 sc p l2 ls2 G') {k' n' : Nat} {t' : Int} (hk : (k : Int) - t ≤ k' - t') (hn : (n : Int) - 6 * t ≤ n' - 6 * t') : rd_cx rd rt nb L tx ill G0 Qx R0 R sc p t' l2 ls2 G' k' n' := by
  obtain ⟨h3, h4, ⟨h5, h6⟩, _⟩ := h
  exact ⟨h3, h4, ⟨by omega, by omega⟩, h2⟩
theorem cx_room (h : rd_cx rd rt nb L tx ill G0 Qx R0 R sc p t l ls G k n) : t ≤ (k : Int) ∧ 6 * t ≤ (n : Int) := by
  obtain ⟨_, _, ⟨h5, h6⟩, _⟩ := h
  exact ⟨by omega, by omega⟩
theorem cx_perm (h : rd_cx rd rt nb L tx ill G0 Qx R0 R sc p t l ls G k n) (hp : l.Perm l2) : rd_cx rd rt nb L tx ill G0 Qx R0 R sc p t l2 ls G k n := ⟨h.1, h.2.1, h.2.2.1, h.2.2.2.1, h.2.2.2.2.1, h.2.2.2.2.2.1, h.2.2.2.2.2.2.1, own_perm hp h.2.2.2.2.2.2.2⟩
theorem cx_perm2 (h : rd_cx rd rt nb L tx ill G0 Qx R0 R sc p t l ls G k n) (hp : ls.Perm ls2) : rd_cx rd rt nb L tx ill G0 Qx R0 R sc p t l ls2 G k n := ⟨h.1, h.2.1, h.2.2.1, h.2.2.2.1, h.2.2.2.2.1, h.2.2.2.2.2.1, h.2.2.2.2.2.2.1, own_perm2 hp h.2.2.2.2.2.2.2⟩
theorem cx_R {R' : ps_Q β} (h : rd_cx rd rt nb L tx ill G0 Qx R0 R sc p t l ls G k n) (e : R = R') : rd_cx rd rt nb L tx ill G0 Qx R0 R' sc p t l ls G k n := e ▸ h
theorem cx_i (h : rd_cx rd rt nb L tx ill G0 Qx R0 R sc p t l ls G k n) : rd_in G rd rt nb L tx ill sc p := h.2.2.2.2.2.1
theorem cx_o (h : rd_cx rd rt nb L tx ill G0 Qx R0 R sc p t l ls G k n) : rd_own G0 G l ls := h.2.2.2.2.2.2.2
theorem cx_L (h : rd_cx rd rt nb L tx ill G0 Qx R0 R sc p t l ls G k n) : L ≤ 90 := h.2.2.2.1
theorem cx_x (h : rd_cx rd rt nb L tx ill G0 Qx R0 R sc p t l ls G k n) : ∀ j, tx j < 65536 := h.2.2.2.2.1
theorem cx_f (h : rd_cx rd rt nb L tx ill G0 Qx R0 R sc p t l ls G k n) : cj_fr [rd, nb] G0 G := h.2.2.2.2.2.2.1
theorem cx_p (h : rd_cx rd rt nb L tx ill G0 Qx R0 R sc p t l ls G k n) : sc.length ≤ p ∧ p ≤ L := ⟨(cx_i h).2.2.2.1, (cx_i h).2.2.2.2.1⟩
theorem cx_il (h : rd_cx rd rt nb L tx ill G0 Qx R0 R sc p t l ls G k n) {q : Nat} (e : R = .inl q) {E : String} (hi : rd_il G rd rt nb L q E G') : Qx E G' := h.2.1 q E G' (h.1.trans e) (rd_il.back (cx_f h) hi)
theorem cx_append {r q : Nat} {A B : List rw_I} (hc : rd_cx rd rt nb L tx ill G0 Qx R0 R sc p t ((r, A) :: (q, B) :: l) ls G k n) (hd : 9 ≤ d) {K : cj_G → Nat → Nat → Prop} (h : ∀ G' : cj_G, rd_cx rd rt nb L tx ill G0 Qx R0 R sc p t ((r, A ++ B) :: l) ls G' k n → K G' k n) : sk_V G r 4 ∧ sk_c_v mX4_append d k n [.ref r, .ref q] G Qx K := by
  obtain ⟨a1, a2, a3⟩ := own_fact (cx_o hc)
  obtain ⟨b1, b2, b3⟩ := own_fact (own_tail (cx_o hc))
  rw [rd_as_c] at a3
  refine rk_append hd a1 b1 (fun e => a3 r List.mem_cons_self (by rw [e]; exact List.mem_cons_self)) (fun x hx hy => a3 x (List.mem_cons_of_mem _ hx) (List.mem_cons_of_mem _ (List.mem_append_left _ hy))) (fun G' w1 w2 => h G' (cx_st hc (st_op hc.2.2.2 w2 (fun a ha => ?_) (own_head (own_tail (own_tail (cx_o hc))) w2 (fun a ha h9 => a3 a h9 (List.mem_cons_of_mem _ (List.mem_append_right _ ha))) w1 (fun a ha => ?_) (fun a ha => ?_))) (by omega) (by omega)))
  · rw [rd_as_c]
    rcases List.mem_cons.mp ha with rfl | ha
    · exact List.mem_cons_self
    · exact List.mem_cons_of_mem _ (List.mem_append_left _ ha)
  · rw [rw_ad_app] at ha
    rcases List.mem_cons.mp ha with rfl | ha
    · exact a2 _ List.mem_cons_self
    · rcases List.mem_append.mp ha with ha | ha
      · exact a2 _ (List.mem_cons_of_mem _ ha)
      · exact b2 _ (List.mem_cons_of_mem _ ha)
  · rw [rw_ad_app] at ha
    rcases List.mem_cons.mp ha with rfl | ha
    · exact fun h9 => a3 _ List.mem_cons_self (List.mem_cons_of_mem _ (List.mem_append_right _ h9))
    · rcases List.mem_append.mp ha with ha | ha
      · exact fun h9 => a3 _ (List.mem_cons_of_mem _ ha) (List.mem_cons_of_mem _ (List.mem_append_right _ h9))
      · exact b3 _ (List.mem_cons_of_mem _ ha)
theorem cx_add {r : Nat} {A : List rw_I} {x : rw_I} (hc : rd_cx rd rt nb L tx ill G0 Qx R0 R sc p t ((r, A) :: l) (x :: ls) G k n) (hd : 9 ≤ d) {K : cj_G → Nat → Nat → Prop} (h : ∀ G' : cj_G, rd_cx rd rt nb L tx ill G0 Qx R0 R sc p t ((r, A ++ [x]) :: l) ls G' k n → K G' k n) : sk_V G r 4 ∧ sk_c_v mX4_add d k n [.ref r, .ref x.1] G Qx K := by
  obtain ⟨o1, o2, o3, o4⟩ := own_loose.mp (cx_o hc)
  obtain ⟨a1, a2, a3⟩ := own_fact o1
  rw [rd_as_c] at o4
  have e : rd_as ((r, A) :: l) ls = r :: (rw_ad A ++ rd_as l ls) := rd_as_c
  refine rk_add hd a1 o2 (fun h9 => o4 (List.mem_cons_of_mem _ (List.mem_append_left _ h9))) (fun G' w1 w2 => h G' (cx_st hc (st_op hc.2.2.2 w2 (fun a ha => ?_) (own_head (own_tail o1) w2 (fun a ha h9 => a3 a h9 ha) w1 (fun a ha => ?_) (fun a ha => ?_))) (by omega) (by omega)))
  · refine rd_as_l.mem_iff.mpr (List.mem_cons_of_mem _ ?_)
    rw [rd_as_c]
    rcases List.mem_cons.mp ha with rfl | ha
    · exact List.mem_cons_self
    · exact List.mem_cons_of_mem _ (List.mem_append_left _ ha)
  · rw [rw_ad_app] at ha
    rcases List.mem_cons.mp ha with rfl | ha
    · exact a2 _ List.mem_cons_self
    · rcases List.mem_append.mp ha with ha | ha
      · exact a2 _ (List.mem_cons_of_mem _ ha)
      · rcases List.mem_cons.mp ha with rfl | ha
        · exact o3
        · exact absurd ha List.not_mem_nil
  · rw [rw_ad_app] at ha
    rcases List.mem_cons.mp ha with rfl | ha
    · exact a3 _ List.mem_cons_self
    · rcases List.mem_append.mp ha with ha | ha
      · exact a3 _ (List.mem_cons_of_mem _ ha)
      · rcases List.mem_cons.mp ha with rfl | ha
        · exact fun h9 => o4 (List.mem_cons_of_mem _ (List.mem_append_right _ h9))
        · exact absurd ha List.not_mem_nil
theorem cx_addFirst {r : Nat} {A : List rw_I} {x : rw_I} (hc : rd_cx rd rt nb L tx ill G0 Qx R0 R sc p t ((r, A) :: l) (x :: ls) G k n) (hd : 9 ≤ d) {K : cj_G → Nat → Nat → Prop} (h : ∀ G' : cj_G, rd_cx rd rt nb L tx ill G0 Qx R0 R sc p t ((r, x :: A) :: l) ls G' k n → K G' k n) : sk_V G r 4 ∧ sk_c_v mX4_addFirst d k n [.ref r, .ref x.1] G Qx K := by
  obtain ⟨o1, o2, o3, o4⟩ := own_loose.mp (cx_o hc)
  obtain ⟨a1, a2, a3⟩ := own_fact o1
  rw [rd_as_c] at o4
  refine rk_addFirst hd a1 o2 (fun h9 => o4 (List.mem_cons_of_mem _ (List.mem_append_left _ h9))) (fun G' w1 w2 => h G' (cx_st hc (st_op hc.2.2.2 w2 (fun a ha => ?_) (own_head (own_tail o1) w2 (fun a ha h9 => ?_) w1 (fun a ha => ?_) (fun a ha => ?_))) (by omega) (by omega)))
  · refine rd_as_l.mem_iff.mpr ?_
    rw [rd_as_c]
    rcases List.mem_cons.mp ha with rfl | ha
    · exact List.mem_cons_of_mem _ List.mem_cons_self
    · rcases List.mem_cons.mp ha with rfl | ha
      · exact List.mem_cons_self
      · exact absurd ha List.not_mem_nil
  · rcases List.mem_cons.mp h9 with rfl | h9
    · exact a3 _ List.mem_cons_self ha
    · rcases List.mem_cons.mp h9 with rfl | h9
      · exact o4 (List.mem_cons_of_mem _ (List.mem_append_right _ ha))
      · exact absurd h9 List.not_mem_nil
  · rcases List.mem_cons.mp ha with rfl | ha
    · exact a2 _ List.mem_cons_self
    · rcases List.mem_cons.mp ha with rfl | ha
      · exact o3
      · exact a2 _ (List.mem_cons_of_mem _ ha)
  · rcases List.mem_cons.mp ha with rfl | ha
    · exact a3 _ List.mem_cons_self
    · rcases List.mem_cons.mp ha with rfl | ha
      · exact fun h9 => o4 (List.mem_cons_of_mem _ (List.mem_append_right _ h9))
      · exact a3 _ (List.mem_cons_of_mem _ ha)
theorem cx_add2 {r : Nat} {A : List rw_I} {kd av : Int32} (hc : rd_cx rd rt nb L tx ill G0 Qx R0 R sc p t ((r, A) :: l) ls G k n) (hd : 9 ≤ d) (ht : 1 ≤ t) {K : cj_G → Nat → Nat → Prop} (h : ∀ (s : Nat) (G' : cj_G), rd_cx rd rt nb L tx ill G0 Qx R0 R sc p (t - 1) ((r, A ++ [(s, kd, av, none)]) :: l) ls G' (k - 1) (n - 5) → K G' (k - 1) (n - 5)) : sk_V G r 4 ∧ sk_c_v mX4_add_ d k n [.ref r, .int kd, .int av] G Qx K := by
  obtain ⟨r1, r2⟩ := cx_room hc
  obtain ⟨a1, a2, a3⟩ := own_fact (cx_o hc)
  refine rk_add2 hd (by omega) (by omega) a1 (fun s G' w0 w1 w2 => h s G' (cx_st hc (st_op hc.2.2.2 w2 (fun a ha => ?_) (own_head (own_tail (cx_o hc)) w2 (fun a ha h9 => a3 a h9 ha) w1 (fun a ha => ?_) (fun a ha => ?_))) (by omega) (by omega)))
  · rw [rd_as_c]
    rcases List.mem_cons.mp ha with rfl | ha
    · exact List.mem_cons_self
    · exact List.mem_cons_of_mem _ (List.mem_append_left _ ha)
  · rw [rw_ad_app] at ha
    rcases List.mem_cons.mp ha with rfl | ha
    · exact a2 _ List.mem_cons_self
    · rcases List.mem_append.mp ha with ha | ha
      · exact a2 _ (List.mem_cons_of_mem _ ha)
      · rcases List.mem_cons.mp ha with rfl | ha
        · exact (cx_i hc).old (cx_f hc) w0
        · exact absurd ha List.not_mem_nil
  · rw [rw_ad_app] at ha
    rcases List.mem_cons.mp ha with rfl | ha
    · exact a3 _ List.mem_cons_self
    · rcases List.mem_append.mp ha with ha | ha
      · exact a3 _ (List.mem_cons_of_mem _ ha)
      · rcases List.mem_cons.mp ha with rfl | ha
        · exact own_new (own_tail (cx_o hc)) w0
        · exact absurd ha List.not_mem_nil
theorem cx_operate {r q : Nat} {A B : List rw_I} {kd : Int32} (hc : rd_cx rd rt nb L tx ill G0 Qx R0 R sc p t ((r, A) :: (q, B) :: l) ls G k n) (hd : 9 ≤ d) (ht : 2 ≤ t) {K : cj_G → Nat → Nat → Prop} (h : ∀ (s1 s2 : Nat) (G' : cj_G), rd_cx rd rt nb L tx ill G0 Qx R0 R sc p (t - 2) ((r, A ++ [(s1, 3, 0, none)] ++ B ++ [(s2, kd, 0, none)]) :: l) ls G' (k - 2) (n - 10) → K G' (k - 2) (n - 10)) : sk_V G r 4 ∧ sk_c_v mX4_operate d k n [.ref r, .int kd, .ref q] G Qx K := by
  obtain ⟨r1, r2⟩ := cx_room hc
  obtain ⟨a1, a2, a3⟩ := own_fact (cx_o hc)
  obtain ⟨b1, b2, b3⟩ := own_fact (own_tail (cx_o hc))
  rw [rd_as_c] at a3
  refine rk_operate hd (by omega) (by omega) a1 b1 (fun e => a3 r List.mem_cons_self (by rw [e]; exact List.mem_cons_self)) (fun x hx hy => a3 x (List.mem_cons_of_mem _ hx) (List.mem_cons_of_mem _ (List.mem_append_left _ hy))) (fun s1 s2 G' w0 w9 w1 w2 => h s1 s2 G' (cx_st hc (st_op hc.2.2.2 w2 (fun a ha => ?_) (own_head (own_tail (own_tail (cx_o hc))) w2 (fun a ha h9 => ?_) w1 (fun a ha => ?_) (fun a ha => ?_))) (by omega) (by omega)))
  · rw [rd_as_c, rd_as_c]
    rcases List.mem_cons.mp ha with rfl | ha
    · exact List.mem_cons_self
    · rcases List.mem_append.mp ha with ha | ha
      · exact List.mem_cons_of_mem _ (List.mem_append_left _ ha)
      · exact List.mem_cons_of_mem _ (List.mem_append_right _ (List.mem_cons_of_mem _ (List.mem_append_left _ ha)))
  · rcases List.mem_cons.mp h9 with rfl | h9
    · exact a3 _ List.mem_cons_self (List.mem_cons_of_mem _ (List.mem_append_right _ ha))
    · rcases List.mem_append.mp h9 with h9 | h9
      · exact a3 _ (List.mem_cons_of_mem _ h9) (List.mem_cons_of_mem _ (List.mem_append_right _ ha))
      · exact b3 _ (List.mem_cons_of_mem _ h9) ha
  · rw [rw_ad_app, rw_ad_app, rw_ad_app] at ha
    rcases List.mem_cons.mp ha with rfl | ha
    · exact a2 _ List.mem_cons_self
    · rcases List.mem_append.mp ha with ha | ha
      · rcases List.mem_append.mp ha with ha | ha
        · rcases List.mem_append.mp ha with ha | ha
          · exact a2 _ (List.mem_cons_of_mem _ ha)
          · rcases List.mem_cons.mp ha with rfl | ha
            · exact (cx_i hc).old (cx_f hc) w0
            · exact absurd ha List.not_mem_nil
        · exact b2 _ (List.mem_cons_of_mem _ ha)
      · rcases List.mem_cons.mp ha with rfl | ha
        · exact (cx_i hc).old (cx_f hc) w9
        · exact absurd ha List.not_mem_nil
  · rw [rw_ad_app, rw_ad_app, rw_ad_app] at ha
    rcases List.mem_cons.mp ha with rfl | ha
    · exact fun h9 => a3 _ List.mem_cons_self (List.mem_cons_of_mem _ (List.mem_append_right _ h9))
    · rcases List.mem_append.mp ha with ha | ha
      · rcases List.mem_append.mp ha with ha | ha
        · rcases List.mem_append.mp ha with ha | ha
          · exact fun h9 => a3 _ (List.mem_cons_of_mem _ ha) (List.mem_cons_of_mem _ (List.mem_append_right _ h9))
          · rcases List.mem_cons.mp ha with rfl | ha
            · exact own_new (own_tail (own_tail (cx_o hc))) w0
            · exact absurd ha List.not_mem_nil
        · exact b3 _ (List.mem_cons_of_mem _ ha)
      · rcases List.mem_cons.mp ha with rfl | ha
        · exact own_new (own_tail (own_tail (cx_o hc))) w9
        · exact absurd ha List.not_mem_nil
theorem cx_newrow (hc : rd_cx rd rt nb L tx ill G0 Qx R0 R sc p t l ls G k n) (hd : 9 ≤ d) (ht : 1 ≤ t) {K : Nat → cj_G → Nat → Nat → Prop} (h : ∀ (q : Nat) (G' : cj_G), rd_cx rd rt nb L tx ill G0 Qx R0 R sc p (t - 1) ((q, []) :: l) ls G' (k - 1) (n - 2) → K q G' (k - 1) (n - 2)) : sk_new G k n 4 2 [.null, .null] (fun q G1 k1 n1 => sk_n_v mX4_init d k1 n1 [.ref q] G1 (K q)) := by
  obtain ⟨r1, r2⟩ := cx_room hc
  refine ⟨by omega, by omega, fun q hq => rk_row hd hq (fun G' w1 w2 => h q G' (cx_st hc (st_op hc.2.2.2 w2 (fun a ha => absurd ha List.not_mem_nil) (own_head (cx_o hc) w2 (fun a _ => List.not_mem_nil) w1 (fun a ha => ?_) (fun a ha => ?_))) (by omega) (by omega)))⟩
  · rcases List.mem_cons.mp ha with rfl | ha
    · exact (cx_i hc).old (cx_f hc) hq
    · exact absurd ha List.not_mem_nil
  · rcases List.mem_cons.mp ha with rfl | ha
    · exact own_new (cx_o hc) hq
    · exact absurd ha List.not_mem_nil
theorem own_ll {x : rw_I} (h : rd_own G0 G l ls) (hf : cj_fr [] G G') (hx : G' x.1 = some (rw_c x none)) (h0 : G0 x.1 = none) (hn : G x.1 = none) : rd_own G0 G' l (x :: ls) := own_loose.mpr ⟨own_keep h hf (fun _ _ => List.not_mem_nil), hx, h0, own_new h hn⟩
theorem cx_step {kd av : Int32} {tg : Nat} (hc : rd_cx rd rt nb L tx ill G0 Qx R0 R sc p t l ls G k n) (hd : 9 ≤ d) (ht : 1 ≤ t) {K : Nat → cj_G → Nat → Nat → Prop} (h : ∀ (q : Nat) (G' : cj_G), q ∉ rd_as l ls → rd_cx rd rt nb L tx ill G0 Qx R0 R sc p (t - 1) l ((q, kd, av, some tg) :: ls) G' (k - 1) (n - 5) → K q G' (k - 1) (n - 5)) : sk_new G k n 5 5 [.int 0, .int 0, .null, .int 0, .null] (fun q G1 k1 n1 => sk_n_v mX5_init d k1 n1 [.ref q, .int kd, .int av, .ref tg] G1 (K q)) := by
  obtain ⟨r1, r2⟩ := cx_room hc
  exact ⟨by omega, by omega, fun q hq => rk_step hd hq (fun G' w1 w2 => h q G' (own_new (cx_o hc) hq) (cx_st hc (st_op hc.2.2.2 w2 (fun a ha => absurd ha List.not_mem_nil) (own_ll (x := (q, kd, av, some tg)) (cx_o hc) w2 w1 ((cx_i hc).old (cx_f hc) hq) hq)) (by omega) (by omega)))⟩
theorem cx_stepN {kd av : Int32} (hc : rd_cx rd rt nb L tx ill G0 Qx R0 R sc p t l ls G k n) (hd : 9 ≤ d) (ht : 1 ≤ t) {K : Nat → cj_G → Nat → Nat → Prop} (h : ∀ (q : Nat) (G' : cj_G), rd_cx rd rt nb L tx ill G0 Qx R0 R sc p (t - 1) l ((q, kd, av, none) :: ls) G' (k - 1) (n - 5) → K q G' (k - 1) (n - 5)) : sk_new G k n 5 5 [.int 0, .int 0, .null, .int 0, .null] (fun q G1 k1 n1 => sk_n_v mX5_init d k1 n1 [.ref q, .int kd, .int av, .null] G1 (K q)) := by
  obtain ⟨r1, r2⟩ := cx_room hc
  exact ⟨by omega, by omega, fun q hq => rk_stepN hd hq (fun G' w1 w2 => h q G' (cx_st hc (st_op hc.2.2.2 w2 (fun a ha => absurd ha List.not_mem_nil) (own_ll (x := (q, kd, av, none)) (cx_o hc) w2 w1 ((cx_i hc).old (cx_f hc) hq) hq)) (by omega) (by omega)))⟩
theorem cx_label (hc : rd_cx rd rt nb L tx ill G0 Qx R0 R sc p t l ls G k n) (hd : 9 ≤ d) (ht : 1 ≤ t) {K : Nat → cj_G → Nat → Nat → Prop} (h : ∀ (q : Nat) (G' : cj_G), rd_cx rd rt nb L tx ill G0 Qx R0 R sc p (t - 1) l ((q, 21, 0, none) :: ls) G' (k - 1) (n - 5) → K q G' (k - 1) (n - 5)) : sk_c_r mX3_label d k n [] G Qx K := by
  obtain ⟨r1, r2⟩ := cx_room hc
  exact rk_label hd (by omega) (by omega) (fun q G' hq w1 w2 => h q G' (cx_st hc (st_op hc.2.2.2 w2 (fun a ha => absurd ha List.not_mem_nil) (own_ll (x := (q, 21, 0, none)) (cx_o hc) w2 w1 ((cx_i hc).old (cx_f hc) hq) hq)) (by omega) (by omega)))
theorem cx_rowOf {kd av : Int32} (hc : rd_cx rd rt nb L tx ill G0 Qx R0 R sc p t l ls G k n) (hd : 9 ≤ d) (ht : 2 ≤ t) {K : Nat → cj_G → Nat → Nat → Prop} (h : ∀ (r s : Nat) (G' : cj_G), rd_cx rd rt nb L tx ill G0 Qx R0 R sc p (t - 2) ((r, [(s, kd, av, none)]) :: l) ls G' (k - 2) (n - 7) → K r G' (k - 2) (n - 7)) : sk_c_r mX3_rowOf d k n [.int kd, .int av] G Qx K := by
  obtain ⟨r1, r2⟩ := cx_room hc
  refine rk_rowOf hd (by omega) (by omega) (fun r s G' hr hs w1 w2 => h r s G' (cx_st hc (st_op hc.2.2.2 w2 (fun a ha => absurd ha List.not_mem_nil) (own_head (cx_o hc) w2 (fun a _ => List.not_mem_nil) w1 (fun a ha => ?_) (fun a ha => ?_))) (by omega) (by omega)))
  · rcases List.mem_cons.mp ha with rfl | ha
    · exact (cx_i hc).old (cx_f hc) hr
    · rcases List.mem_cons.mp ha with rfl | ha
      · exact (cx_i hc).old (cx_f hc) hs
      · exact absurd ha List.not_mem_nil
  · rcases List.mem_cons.mp ha with rfl | ha
    · exact own_new (cx_o hc) hr
    · rcases List.mem_cons.mp ha with rfl | ha
      · exact own_new (cx_o hc) hs
      · exact absurd ha List.not_mem_nil
theorem cx_peek (hc : rd_cx rd rt nb L tx ill G0 Qx R0 R sc p t l ls G k n) (hd : 9 ≤ d) {K : Int32 → cj_G → Nat → Nat → Prop} (h : K (nI (rd_ch tx L p)) G k n) : sk_V G rd 3 ∧ sk_c_i mX3_peek d k n [.ref rd] G Qx K := rk_peek (cx_L hc) (cx_x hc) (cx_i hc) hd h
theorem cx_ch (hc : rd_cx rd rt nb L tx ill G0 Qx R0 R sc p t l ls G k n) (q : Nat) : rd_ch tx L q < 65536 := by
  have := cx_x hc q
  unfold rd_ch; split <;> omega
theorem cx_fur (hc : rd_cx rd rt nb L tx ill G0 Qx R0 R sc p t l ls G k n) (hd : 9 ≤ d) (c : Nat) (hcc : c < 65536) {K : Int32 → cj_G → Nat → Nat → Prop} (h : K (rd_foI (ps_fo sc c)) G k n) : sk_V G rd 3 ∧ sk_c_i mX3_furtherOn d k n [.ref rd, .int (nI c)] G Qx K := rk_fur (cx_i hc) (cx_L hc) hd c hcc h
theorem sk_pure {M : cj_M} {d0 : Nat} {As : List Value} {x : Int32} (hT : cj_T M d0 0 0 As G (cj_rd G x) cj_no) (hd : d0 + 1 ≤ d) {K : Int32 → cj_G → Nat → Nat → Prop} (h : K x G k n) : sk_c_i M d k n As G Qx K := by
  refine ⟨d0, 0, 0, _, _, hd, Nat.zero_le _, Nat.zero_le _, hT, fun _ _ h => absurd h id, fun v G' q => ⟨_, q.1, ?_⟩⟩
  rw [q.2]; exact h
theorem sk_pureN {M : cj_M} {d0 : Nat} {As : List Value} {x : Int32} (hT : cj_T M d0 0 0 As G (cj_rd G x) cj_no) (hd : d0 + 1 ≤ d) {K : Int32 → cj_G → Nat → Nat → Prop} (h : K x G k n) : sk_n_i M d k n As G K := by
  refine ⟨d0, 0, 0, _, hd, Nat.zero_le _, Nat.zero_le _, hT, fun v G' q => ⟨_, q.1, ?_⟩⟩
  rw [q.2]; exact h
theorem cx_mv {G1 : cj_G} {sc1 : List Nat} {p1 : Nat} {R1 : ps_Q β} {t1 : Int} {k1 n1 : Nat} (hc : rd_cx rd rt nb L tx ill G0 Qx R0 R sc p t l ls G k n) (hi : rd_in G1 rd rt nb L tx ill sc1 p1) (hf : cj_fr [rd, nb] G G1) (hR : R = R1) (hb : rd_bg t1 p1 R1 k1 n1) : rd_cx rd rt nb L tx ill G0 Qx R0 R1 sc1 p1 t1 l ls G1 k1 n1 := by
  refine ⟨hc.1.trans hR, hc.2.1, hb, hc.2.2.2.1, hc.2.2.2.2.1, hi, (cx_f hc).trans hf, own_keep (cx_o hc) hf (fun a ha => ?_)⟩
  obtain ⟨ci, fs, h1, h2⟩ := own_some (cx_o hc) ha
  exact (cx_i hc).ne h1 h2
theorem cx_bg (hc : rd_cx rd rt nb L tx ill G0 Qx R0 R sc p t l ls G k n) : rd_bg t p R k n := hc.2.2.1
theorem bg_adv {p1 : Nat} (hb : rd_bg t p R k n) (h : ps_ae L p1 R) (hp : p ≤ p1) {t' : Int} (ht : t' ≤ t + 20 * ((p1 : Int) - p)) : rd_bg t' p1 R k n := by
  have e := rb_step h hp
  obtain ⟨h1, h2⟩ := hb
  have e2 : (rb p R : Int) = 20 * ((p1 : Int) - p) + rb p1 R := by omega
  exact ⟨by omega, by omega⟩
theorem cx_inc (hc : rd_cx rd rt nb L tx ill G0 Qx R0 R sc p t l ls G k n) (hp : p < L) (ha : ps_ae L (p + 1) R) {K : cj_G → Prop} (h : ∀ G' : cj_G, rd_cx rd rt nb L tx ill G0 Qx R0 R sc (p + 1) (t + 20) l ls G' k n → K G') : sk_gi G rd 3 2 (fun x => sk_pt G rd 3 2 (.int (x + 1)) K) :=
  rk_inc (cx_i hc) hp (fun G' w1 w2 => h G' (cx_mv hc w1 w2 rfl (bg_adv (cx_bg hc) ha (by omega) (by omega))))
theorem cx_expect (c : Nat) {KK : Nat → ps_Q β} (hc : rd_cx rd rt nb L tx ill G0 Qx R0 (ps_xp tx L c p KK) sc p t l ls G k n) (hd : 9 ≤ d) (hcc : c < 65536) (hc0 : ¬ c = 0) (ht : -34 ≤ t) (ha : p + 1 ≤ L → ps_ae L (p + 1) (KK (p + 1))) {K : cj_G → Nat → Nat → Prop} (h : ∀ G' : cj_G, rd_ch tx L p = c → p < L → rd_cx rd rt nb L tx ill G0 Qx R0 (KK (p + 1)) sc (p + 1) (t + 20) l ls G' k n → K G' k n) : sk_V G rd 3 ∧ sk_c_v mX3_expect d k n [.ref rd, .int (nI c)] G Qx K := by
  refine rk_expect (cx_L hc) (cx_x hc) (cx_i hc) hd c hcc hc0 (fun e G' w1 w2 => ?_) (fun e => ?_)
  · have hp : p < L := rd_ch_in (tx := tx) (by rw [e]; exact hc0)
    have hR : ps_xp tx L c p KK = KK (p + 1) := by unfold ps_xp; rw [if_pos e]
    have hb := cx_bg hc
    rw [hR] at hb
    exact h G' e hp (cx_mv hc w1 w2 hR (bg_adv hb (ha hp) (by omega) (by omega)))
  · have hR : ps_xp tx L c p KK = .inl p := by unfold ps_xp; rw [if_neg e]
    have hb := cx_bg hc
    rw [hR] at hb
    obtain ⟨b1, b2⟩ := hb
    have e9 : (rb p (.inl p : ps_Q β) : Int) = 40 := by show ((20 * (p - p) + 40 : Nat) : Int) = 40; omega
    exact ⟨by omega, by omega, fun E G' w => cx_il hc hR w⟩
theorem cx_refuse (hc : rd_cx rd rt nb L tx ill G0 Qx R0 (.inl p) sc p t l ls G k n) (hd : 9 ≤ d) (ht : -34 ≤ t) {K : cj_G → Nat → Nat → Prop} : sk_V G rd 3 ∧ sk_c_v mX3_refuse d k n [.ref rd] G Qx K := by
  obtain ⟨b1, b2⟩ := cx_bg hc
  have e9 : (rb p (.inl p : ps_Q β) : Int) = 40 := by show ((20 * (p - p) + 40 : Nat) : Int) = 40; omega
  exact rk_refuse (cx_i hc) hd (by omega) (by omega) (fun E G' w => cx_il hc rfl w)
theorem cx_name {R1 : ps_Q β} (hc : rd_cx rd rt nb L tx ill G0 Qx R0 (if 97 ≤ rd_ch tx L p ∧ rd_ch tx L p ≤ 122 then R1 else .inl p) sc p t l ls G k n) (hd : 9 ≤ d) (ht : -34 ≤ t) (ha : p + 1 ≤ L → ps_ae L (p + 1) R1) {K : Int32 → cj_G → Nat → Nat → Prop} (h : ∀ G' : cj_G, 97 ≤ rd_ch tx L p ∧ rd_ch tx L p ≤ 122 → p < L → rd_cx rd rt nb L tx ill G0 Qx R0 R1 sc (p + 1) (t + 20) l ls G' k n → K (nI (rd_ch tx L p)) G' k n) : sk_V G rd 3 ∧ sk_c_i mX3_takeName d k n [.ref rd] G Qx K := by
  refine rk_name (cx_L hc) (cx_x hc) (cx_i hc) hd (fun e G' w1 w2 => ?_) (fun e => ?_)
  · have hp : p < L := rd_ch_in (tx := tx) (by omega)
    have hR : (if 97 ≤ rd_ch tx L p ∧ rd_ch tx L p ≤ 122 then R1 else .inl p) = R1 := if_pos e
    have hb := cx_bg hc
    rw [hR] at hb
    exact h G' e hp (cx_mv hc w1 w2 hR (bg_adv hb (ha hp) (by omega) (by omega)))
  · have hR : (if 97 ≤ rd_ch tx L p ∧ rd_ch tx L p ≤ 122 then R1 else .inl p) = .inl p := if_neg e
    have hb := cx_bg hc
    rw [hR] at hb
    obtain ⟨b1, b2⟩ := hb
    have e9 : (rb p (.inl p : ps_Q β) : Int) = 40 := by show ((20 * (p - p) + 40 : Nat) : Int) = 40; omega
    exact ⟨by omega, by omega, fun E G' w => cx_il hc hR w⟩
theorem cx_tag {R1 : ps_Q β} (seen : Nat) (hs : seen < 256) (hc : rd_cx rd rt nb L tx ill G0 Qx R0 (if (65 ≤ rd_ch tx L p ∧ rd_ch tx L p ≤ 72) ∧ ¬ seen.testBit (rd_ch tx L p - 65) = true then R1 else .inl p) sc p t l ls G k n) (hd : 9 ≤ d) (ht : -34 ≤ t) (ha : p + 1 ≤ L → ps_ae L (p + 1) R1) {K : Int32 → cj_G → Nat → Nat → Prop} (h : ∀ G' : cj_G, (65 ≤ rd_ch tx L p ∧ rd_ch tx L p ≤ 72) ∧ ¬ seen.testBit (rd_ch tx L p - 65) = true → p < L → rd_cx rd rt nb L tx ill G0 Qx R0 R1 sc (p + 1) (t + 20) l ls G' k n → K (nI (rd_ch tx L p - 65)) G' k n) : sk_V G rd 3 ∧ sk_c_i mX3_takeTagNotIn d k n [.ref rd, .int (nI seen)] G Qx K := by
  refine rk_tag (cx_L hc) (cx_x hc) (cx_i hc) hd seen hs (fun e G' w1 w2 => ?_) (fun e => ?_)
  · have hp : p < L := rd_ch_in (tx := tx) (by omega)
    have hR : (if (65 ≤ rd_ch tx L p ∧ rd_ch tx L p ≤ 72) ∧ ¬ seen.testBit (rd_ch tx L p - 65) = true then R1 else .inl p) = R1 := if_pos e
    have hb := cx_bg hc
    rw [hR] at hb
    exact h G' e hp (cx_mv hc w1 w2 hR (bg_adv hb (ha hp) (by omega) (by omega)))
  · have hR : (if (65 ≤ rd_ch tx L p ∧ rd_ch tx L p ≤ 72) ∧ ¬ seen.testBit (rd_ch tx L p - 65) = true then R1 else .inl p) = .inl p := if_neg e
    have hb := cx_bg hc
    rw [hR] at hb
    obtain ⟨b1, b2⟩ := hb
    have e9 : (rb p (.inl p : ps_Q β) : Int) = 40 := by show ((20 * (p - p) + 40 : Nat) : Int) = 40; omega
    exact ⟨by omega, by omega, fun E G' w => cx_il hc hR w⟩
theorem cx_bind (c : Nat) (hc : rd_cx rd rt nb L tx ill G0 Qx R0 R sc p t l ls G k n) (hd : 9 ≤ d) (hcc : c < 65536) (hs : sc.length < p) {K : cj_G → Nat → Nat → Prop} (h : ∀ G' : cj_G, rd_cx rd rt nb L tx ill G0 Qx R0 R (sc ++ [c]) p t l ls G' k n → K G' k n) : sk_V G rd 3 ∧ sk_c_v mX3_bind d k n [.ref rd, .int (nI c)] G Qx K :=
  rk_bind (cx_L hc) (cx_i hc) hd c hcc hs (fun G' w1 w2 => h G' (cx_mv hc w1 w2 rfl (cx_bg hc)))
theorem cx_g1 (hc : rd_cx rd rt nb L tx ill G0 Qx R0 R sc p t l ls G k n) {K : Int32 → Prop} (h : K (nI L)) : sk_gi G rd 3 1 K := ⟨_, _, (cx_i hc).1, rfl, h⟩
theorem cx_g2 (hc : rd_cx rd rt nb L tx ill G0 Qx R0 R sc p t l ls G k n) {K : Int32 → Prop} (h : K (nI p)) : sk_gi G rd 3 2 K := ⟨_, _, (cx_i hc).1, rfl, h⟩
theorem cx_g4 (hc : rd_cx rd rt nb L tx ill G0 Qx R0 R sc p t l ls G k n) {K : Int32 → Prop} (h : K (nI sc.length)) : sk_gi G rd 3 4 K := ⟨_, _, (cx_i hc).1, rfl, h⟩
theorem cx_p4 (m : Nat) (hc : rd_cx rd rt nb L tx ill G0 Qx R0 R sc p t l ls G k n) (hm : m ≤ sc.length) {K : cj_G → Prop} (h : ∀ G' : cj_G, rd_cx rd rt nb L tx ill G0 Qx R0 R (sc.take m) p t l ls G' k n → K G') : sk_pt G rd 3 4 (.int (nI m)) K := by
  obtain ⟨h1, h2, ⟨nf, h3, h4, h5⟩, h6, h7, h8⟩ := cx_i hc
  refine ⟨_, h1, Nat.le_of_ble_eq_true rfl, h _ ?_⟩
  have hf : cj_fr [rd] G (cj_up G rd (.inr (3, [.ref rt, .int (nI L), .int (nI p), .ref nb, .int (nI m), .int ill]))) := cj_fr.up cj_fr.rf (by simp)
  have hl : (sc.take m).length = m := by rw [List.length_take]; omega
  refine cx_mv hc ⟨?_, hf _ _ (cj_ni1 (Ne.symm (cj_noa h1 h2))) h2, ⟨nf, hf _ _ (cj_ni1 (Ne.symm (cj_noa h1 h3))) h3, h4, fun j hj => ?_⟩, by omega, h7, h8⟩ hf.one rfl (cx_bg hc)
  · rw [hl]; exact cj_up_s
  · rw [hl] at hj
    rw [h5 j (by omega)]
    simp only [List.getD_eq_getElem?_getD]
    rw [List.getElem?_take, if_pos hj]
/-- a call of a method of the Reader that answers a row -/
theorem cx_go {M : cj_M} {R1 : ps_Q fr_F} {tl : List Value} {d0 : Nat} {s : Int} (hC : rd_C1 rd rt nb L tx ill M R1 sc p tl d0 s) {KK : Nat → fr_F → ps_Q β} (hc : rd_cx rd rt nb L tx ill G0 Qx R0 (ps_bd R1 KK) sc p t l ls G k n) (hd : d0 + 1 ≤ d) (hs : -s ≤ t) (hs2 : s ≤ 20) (hE : ps_ad L p R1) (hK : ∀ (p1 : Nat) (F : fr_F), p1 ≤ L → ps_ae L p1 (KK p1 F)) {K : Nat → cj_G → Nat → Nat → Prop} (h : ∀ (p1 : Nat) (F : fr_F) (r : Nat) (W : List rw_I) (G' : cj_G) (k' n' : Nat), R1 = .inr (p1, F) → p < p1 → p1 ≤ L → fr_is W F → rd_cx rd rt nb L tx ill G0 Qx R0 (KK p1 F) sc p1 (t + s) ((r, W) :: l) ls G' k' n' → K r G' k' n') : sk_V G rd 3 ∧ sk_c_r M d k n (.ref rd :: tl) G Qx K := by
  obtain ⟨h1, h2, ⟨b1, b2⟩, h3⟩ := hc
  refine ⟨⟨_, h3.2.2.1.1⟩, d0, ((rb p R1 : Int) - s).toNat, (6 * ((rb p R1 : Int) - s)).toNat, _, _, hd, ?_, ?_, hC G0 l ls G _ _ h3 ⟨by omega, by omega⟩, fun E9 G' q => ?_, fun v G' q => ?_⟩
  · cases R1 with
    | inl q => rw [ps_bd_l] at b1; show (((20 * (q - p) + 40 : Nat) : Int) - s).toNat ≤ k; have b3 : ((20 * (q - p) + 40 : Nat) : Int) + t ≤ k := b1; omega
    | inr x =>
      obtain ⟨p1, F⟩ := x
      have hK1 := hK p1 F hE.2
      have hE1 : p < p1 := hE.1
      rw [ps_bd_r, rb_step hK1 (Nat.le_of_lt hE.1)] at b1
      show (((20 * (p1 - p) : Nat) : Int) - s).toNat ≤ k
      omega
  · cases R1 with
    | inl q => rw [ps_bd_l] at b2; show (6 * (((20 * (q - p) + 40 : Nat) : Int) - s)).toNat ≤ n; have b3 : 6 * (((20 * (q - p) + 40 : Nat) : Int) + t) ≤ n := b2; omega
    | inr x =>
      obtain ⟨p1, F⟩ := x
      have hK1 := hK p1 F hE.2
      have hE1 : p < p1 := hE.1
      rw [ps_bd_r, rb_step hK1 (Nat.le_of_lt hE.1)] at b2
      show (6 * (((20 * (p1 - p) : Nat) : Int) - s)).toNat ≤ n
      omega
  · obtain ⟨q1, e, q2⟩ := q
    exact h2 q1 E9 G' (by rw [h1, e]; rfl) q2
  · obtain ⟨p1, F, r, W, e, q2, q3, q4⟩ := q
    subst e
    have hK1 := hK p1 F hE.2
    have hE1 : p < p1 := hE.1
    rw [ps_bd_r] at h1
    rw [ps_bd_r, rb_step hK1 (Nat.le_of_lt hE.1)] at b1 b2
    refine ⟨r, q2, h p1 F r W G' _ _ rfl hE.1 hE.2 q3 ⟨h1, h2, ⟨?_, ?_⟩, q4⟩⟩
    · show ((rb p1 (KK p1 F) : Nat) : Int) + (t + s) ≤ ((k - (((20 * (p1 - p) : Nat) : Int) - s).toNat : Nat) : Int)
      omega
    · show 6 * (((rb p1 (KK p1 F) : Nat) : Int) + (t + s)) ≤ ((n - (6 * (((20 * (p1 - p) : Nat) : Int) - s)).toNat : Nat) : Int)
      omega
/-- a call of a method of the Reader that answers nothing -/
theorem cx_call {γ : Type} {M : cj_M} {As : List Value} {R1 : ps_Q γ} {Z : Nat → γ → cj_G → Prop} {d0 : Nat} {s : Int} (hC : ∀ k n : Nat, rd_bg (-s) p R1 k n → cj_T M d0 k n As G (fun v G' => v = none ∧ ∃ (p1 : Nat) (x : γ), R1 = .inr (p1, x) ∧ Z p1 x G') (rd_bad rd rt nb L G0 R1)) {KK : Nat → γ → ps_Q β} (hc : rd_cx rd rt nb L tx ill G0 Qx R0 (ps_bd R1 KK) sc p t l ls G k n) (hd : d0 + 1 ≤ d) (hs : -s ≤ t) (hs2 : s ≤ 20) (hE : ps_ad L p R1) (hK : ∀ (p1 : Nat) (x : γ), p1 ≤ L → ps_ae L p1 (KK p1 x)) {K : cj_G → Nat → Nat → Prop} (h : ∀ (p1 : Nat) (x : γ) (G' : cj_G) (k' n' : Nat), R1 = .inr (p1, x) → p < p1 → p1 ≤ L → Z p1 x G' → (∀ (sc' : List Nat) (l' : List (Nat × List rw_I)) (ls' : List rw_I), rd_st rd rt nb L tx ill G0 sc' p1 l' ls' G' → rd_cx rd rt nb L tx ill G0 Qx R0 (KK p1 x) sc' p1 (t + s) l' ls' G' k' n') → K G' k' n') : sk_c_v M d k n As G Qx K := by
  obtain ⟨h1, h2, ⟨b1, b2⟩, h3⟩ := hc
  refine ⟨d0, ((rb p R1 : Int) - s).toNat, (6 * ((rb p R1 : Int) - s)).toNat, _, _, hd, ?_, ?_, hC _ _ ⟨by omega, by omega⟩, fun E9 G' q => ?_, fun v G' q => ?_⟩
  · cases R1 with
    | inl q => rw [ps_bd_l] at b1; show (((20 * (q - p) + 40 : Nat) : Int) - s).toNat ≤ k; have b3 : ((20 * (q - p) + 40 : Nat) : Int) + t ≤ k := b1; omega
    | inr x =>
      obtain ⟨p1, F⟩ := x
      have hK1 := hK p1 F hE.2
      have hE1 : p < p1 := hE.1
      rw [ps_bd_r, rb_step hK1 (Nat.le_of_lt hE.1)] at b1
      show (((20 * (p1 - p) : Nat) : Int) - s).toNat ≤ k
      omega
  · cases R1 with
    | inl q => rw [ps_bd_l] at b2; show (6 * (((20 * (q - p) + 40 : Nat) : Int) - s)).toNat ≤ n; have b3 : 6 * (((20 * (q - p) + 40 : Nat) : Int) + t) ≤ n := b2; omega
    | inr x =>
      obtain ⟨p1, F⟩ := x
      have hK1 := hK p1 F hE.2
      have hE1 : p < p1 := hE.1
      rw [ps_bd_r, rb_step hK1 (Nat.le_of_lt hE.1)] at b2
      show (6 * (((20 * (p1 - p) : Nat) : Int) - s)).toNat ≤ n
      omega
  · obtain ⟨q1, e, q2⟩ := q
    exact h2 q1 E9 G' (by rw [h1, e]; rfl) q2
  · obtain ⟨q0, p1, x, e, q2⟩ := q
    subst e
    have hK1 := hK p1 x hE.2
    have hE1 : p < p1 := hE.1
    rw [ps_bd_r] at h1
    rw [ps_bd_r, rb_step hK1 (Nat.le_of_lt hE.1)] at b1 b2
    refine ⟨q0, h p1 x G' _ _ rfl hE.1 hE.2 q2 (fun sc' l' ls' q4 => ⟨h1, h2, ⟨?_, ?_⟩, q4⟩)⟩
    · show ((rb p1 (KK p1 x) : Nat) : Int) + (t + s) ≤ ((k - (((20 * (p1 - p) : Nat) : Int) - s).toNat : Nat) : Int)
      omega
    · show 6 * (((rb p1 (KK p1 x) : Nat) : Int) + (t + s)) ≤ ((n - (6 * (((20 * (p1 - p) : Nat) : Int) - s)).toNat : Nat) : Int)
      omega
/-- the beginning and the end of such a method -/
theorem cx_begin {s : Int} (hst : rd_st rd rt nb L tx ill G0 sc p l ls G) (hb : rd_bg (-s) p R k n) : rd_cx rd rt nb L tx ill G0 (rd_bad rd rt nb L G0 R) R R sc p (-s) l ls G k n := ⟨rfl, fun q E G' h1 h2 => ⟨q, h1, h2⟩, hb, hst⟩
end CX
section CY
variable {rd rt nb L : Nat} {tx : Nat → Nat} {ill : Int32} {G0 G G' : cj_G} {Qx : String → cj_G → Prop} {R0 R : ps_Q fr_F} {sc : List Nat} {p : Nat} {t : Int} {l l2 : List (Nat × List rw_I)} {ls ls2 : List rw_I} {k n d : Nat} {S : List Nat}
theorem cx_fin {F : fr_F} {r : Nat} {W : List rw_I} (hc : rd_cx rd rt nb L tx ill G0 Qx R0 (.inr (p, F)) sc p t ((r, W) :: l) ls G k n) (hw : fr_is W F) : rd_fin rd rt nb L tx ill G0 sc R0 l ls (some (.ref r)) G := ⟨p, F, r, W, hc.1, rfl, hw, hc.2.2.2⟩
theorem cx_tail {M : cj_M} {tl : List Value} {d0 : Nat} {s : Int} (hC : rd_C1 rd rt nb L tx ill M R sc p tl d0 s) (hc : rd_cx rd rt nb L tx ill G0 Qx R0 R sc p t l ls G k n) (hd : d0 + 1 ≤ d) (hs : -s ≤ t) (hs2 : s ≤ 20) (hE : ps_ad L p R) : sk_V G rd 3 ∧ sk_c_r M d k n (.ref rd :: tl) G Qx (fun x G' _ _ => rd_fin rd rt nb L tx ill G0 sc R0 l ls (some (.ref x)) G') :=
  cx_go hC (KK := fun p1 F => .inr (p1, F)) (cx_R hc (by cases R <;> rfl)) hd hs hs2 hE (fun p1 F h1 => ⟨Nat.le_refl _, h1⟩) (fun p1 F r W G' k' n' e h1 h2 hw hc1 => cx_fin hc1 hw)
end CY
theorem ps_bd_a {α β γ : Type} {r : ps_Q α} {f : Nat → α → ps_Q β} {g : Nat → β → ps_Q γ} : ps_bd (ps_bd r f) g = ps_bd r (fun p x => ps_bd (f p x) g) := by cases r <;> rfl
