/-! STEPS ON BOTH SIDES, with what holds of every unit; by wip/whole/gen56.py -/
def z_R (x b k c t B : Nat) (M m : ux_M) : Prop := z_W k c t B M m ∧ z_I x b c t m
def z_cr : List Nat := [0, 10, 11, 12, 16, 19, 28, 31, 34, 35, 36, 37, 42]
section ZO
variable {k c t B u v a b s x : Nat} {M m M' m' : ux_M}
theorem z_crn : a ∈ z_cr → ¬ a = 29 ∧ ¬ a = 30 ∧ ¬ a = 41 ∧ ¬ a = 32 ∧ ¬ a = 33 ∧ ¬ a = 38 ∧ ¬ a = 39 ∧ ¬ a = 40 ∧ ¬ a = 43 ∧ ¬ a = 44 ∧ ¬ a = 45 ∧ a < 45 := by
  have q : ∀ a ∈ z_cr, ¬ a = 29 ∧ ¬ a = 30 ∧ ¬ a = 41 ∧ ¬ a = 32 ∧ ¬ a = 33 ∧ ¬ a = 38 ∧ ¬ a = 39 ∧ ¬ a = 40 ∧ ¬ a = 43 ∧ ¬ a = 44 ∧ ¬ a = 45 ∧ a < 45 := by decide +kernel
  exact q a
theorem z_Bk {f g : Nat → Int32} (h : z_Bu t g) (e : ∀ a, a ∈ z_cr → f a = g a) (hj : f 29 = 0 ∨ f 29 = 1 ∨ f 29 = 2 ∨ f 29 = 3) (hn : f 30 = 0 ∨ f 30 = 1) (hr : f 30 = 1 → ¬ f 29 = 0) : z_Bu t f := by
  obtain ⟨h1, h2, h3, h4, h5, h6, h7, h8⟩ := h
  unfold z_Bu
  rw [e 28 (by decide), e 31 (by decide), e 0 (by decide), e 42 (by decide), e 34 (by decide), e 37 (by decide)]
  exact ⟨h1, hj, hn, hr, h5, h6, h7, h8⟩
theorem z_Dk {f g : Nat → Int32} (h : z_Du b t u g) (e : ∀ a, a ∈ z_cr → f a = g a) : z_Du b t u f := by
  unfold z_Du at h ⊢
  rw [e 28 (by decide), e 0 (by decide), e 34 (by decide), e 37 (by decide), e 35 (by decide), e 36 (by decide), e 10 (by decide), e 11 (by decide), e 12 (by decide), e 16 (by decide), e 19 (by decide)]
  exact h
theorem z_I.keep (h : z_I x b c t m) (f : Nat → Int32) (hA : ∀ w, z_A m' w = if w = u then f else z_A m w) (e : ∀ a, a ∈ z_cr → f a = z_A m u a) (hj : f 29 = 0 ∨ f 29 = 1 ∨ f 29 = 2 ∨ f 29 = 3) (hn : f 30 = 0 ∨ f 30 = 1) (hr : f 30 = 1 → ¬ f 29 = 0) : z_I x b c t m' :=
  h.one f hA x (Or.inr (Or.inl rfl)) (fun hu => z_Bk (h u hu).1 e hj hn hr) (fun hu q => z_Dk ((h u hu).2 q) e)
theorem z_A2 (m : ux_M) (a b u w : Nat) (p q : Int32) (ha : a < 56) (hb : b < 56) : z_A (z_P (z_P m a u p) b u q) w = if w = u then z_up (z_up (z_A m u) a p) b q else z_A m w := by
  rw [z_AP _ _ _ _ _ hb, z_AP _ _ _ _ _ ha, z_AP _ _ _ _ _ ha, if_pos rfl]
  by_cases z : w = u <;> simp [z]
theorem z_A3 (m : ux_M) (a b d u w : Nat) (p q r : Int32) (ha : a < 56) (hb : b < 56) (hd : d < 56) : z_A (z_P (z_P (z_P m a u p) b u q) d u r) w = if w = u then z_up (z_up (z_up (z_A m u) a p) b q) d r else z_A m w := by
  rw [z_AP _ _ _ _ _ hd, z_A2 _ _ _ _ _ _ _ ha hb, z_A2 _ _ _ _ _ _ _ ha hb, if_pos rfl]
  by_cases z : w = u <;> simp [z]
/-- a property of a service -/
theorem z_W.q0 (h : z_W k c t B M m) (hu : u < c) : p_55 k (nI u) 0 M ∧ r_55 k (nI u) 0 M = if z_Y m 0 u = 0 then z_Y m 10 u else 0 := by
  have h16 := h.u16 hu
  unfold p_55 r_55; rw [z_cl h16, h.kd hu, pr0 h16, h.p0 hu]
  exact ⟨⟨z_i16 h16, fun _ => trivial, fun _ => pv0 h16⟩, rfl⟩
theorem z_W.q1 (h : z_W k c t B M m) (hu : u < c) : p_55 k (nI u) 1 M ∧ r_55 k (nI u) 1 M = if z_Y m 0 u = 0 then z_Y m 11 u else 0 := by
  have h16 := h.u16 hu
  unfold p_55 r_55; rw [z_cl h16, h.kd hu, pr1 h16, h.p1 hu]
  exact ⟨⟨z_i16 h16, fun _ => trivial, fun _ => pv1 h16⟩, rfl⟩
theorem z_W.q2 (h : z_W k c t B M m) (hu : u < c) : p_55 k (nI u) 2 M ∧ r_55 k (nI u) 2 M = if z_Y m 0 u = 0 then z_Y m 12 u else 0 := by
  have h16 := h.u16 hu
  unfold p_55 r_55; rw [z_cl h16, h.kd hu, pr2 h16, h.p2 hu]
  exact ⟨⟨z_i16 h16, fun _ => trivial, fun _ => pv2 h16⟩, rfl⟩
theorem z_W.q3 (h : z_W k c t B M m) (hu : u < c) : p_55 k (nI u) 3 M ∧ r_55 k (nI u) 3 M = if z_Y m 0 u = 0 then z_Y m 13 u else 0 := by
  have h16 := h.u16 hu
  unfold p_55 r_55; rw [z_cl h16, h.kd hu, pr3 h16, h.p3 hu]
  exact ⟨⟨z_i16 h16, fun _ => trivial, fun _ => pv3 h16⟩, rfl⟩
theorem z_W.q4 (h : z_W k c t B M m) (hu : u < c) : p_55 k (nI u) 4 M ∧ r_55 k (nI u) 4 M = if z_Y m 0 u = 0 then z_Y m 14 u else 0 := by
  have h16 := h.u16 hu
  unfold p_55 r_55; rw [z_cl h16, h.kd hu, pr4 h16, h.p4 hu]
  exact ⟨⟨z_i16 h16, fun _ => trivial, fun _ => pv4 h16⟩, rfl⟩
theorem z_W.q5 (h : z_W k c t B M m) (hu : u < c) : p_55 k (nI u) 5 M ∧ r_55 k (nI u) 5 M = if z_Y m 0 u = 0 then z_Y m 15 u else 0 := by
  have h16 := h.u16 hu
  unfold p_55 r_55; rw [z_cl h16, h.kd hu, pr5 h16, h.p5 hu]
  exact ⟨⟨z_i16 h16, fun _ => trivial, fun _ => pv5 h16⟩, rfl⟩
theorem z_W.q6 (h : z_W k c t B M m) (hu : u < c) : p_55 k (nI u) 6 M ∧ r_55 k (nI u) 6 M = if z_Y m 0 u = 0 then z_Y m 16 u else 0 := by
  have h16 := h.u16 hu
  unfold p_55 r_55; rw [z_cl h16, h.kd hu, pr6 h16, h.p6 hu]
  exact ⟨⟨z_i16 h16, fun _ => trivial, fun _ => pv6 h16⟩, rfl⟩
theorem z_W.q7 (h : z_W k c t B M m) (hu : u < c) : p_55 k (nI u) 7 M ∧ r_55 k (nI u) 7 M = if z_Y m 0 u = 0 then z_Y m 17 u else 0 := by
  have h16 := h.u16 hu
  unfold p_55 r_55; rw [z_cl h16, h.kd hu, pr7 h16, h.p7 hu]
  exact ⟨⟨z_i16 h16, fun _ => trivial, fun _ => pv7 h16⟩, rfl⟩
theorem z_W.q8 (h : z_W k c t B M m) (hu : u < c) : p_55 k (nI u) 8 M ∧ r_55 k (nI u) 8 M = if z_Y m 0 u = 0 then z_Y m 18 u else 0 := by
  have h16 := h.u16 hu
  unfold p_55 r_55; rw [z_cl h16, h.kd hu, pr8 h16, h.p8 hu]
  exact ⟨⟨z_i16 h16, fun _ => trivial, fun _ => pv8 h16⟩, rfl⟩
theorem z_W.q9 (h : z_W k c t B M m) (hu : u < c) : p_55 k (nI u) 9 M ∧ r_55 k (nI u) 9 M = if z_Y m 0 u = 0 then z_Y m 19 u else 0 := by
  have h16 := h.u16 hu
  unfold p_55 r_55; rw [z_cl h16, h.kd hu, pr9 h16, h.p9 hu]
  exact ⟨⟨z_i16 h16, fun _ => trivial, fun _ => pv9 h16⟩, rfl⟩
/-- the type of a unit's job -/
theorem z_W.ty (h : z_W k c t B M m) (hI : z_I x b c t m) (hu : u < c) : r_53 k (nI u) M = z_Y m 29 u := by
  have h32 : u < 32 := by have := h.u16 hu; omega
  unfold r_53 r_54
  simp only [z_shr _ h32, h.js h32, h.jr h32, h.jt h32, hu, decide_true, Bool.true_and]
  rcases hI.jb hu with q | q | q | q <;> simp [q]
theorem z_W.pty (M : ux_M) (k : Nat) (u : Int32) : p_53 k u M := by unfold p_53 p_54; trivial
theorem z_bfl (f : Nat → Int32) (t : Nat) (s : Int32) : z_bf f t s 28 = s := by unfold z_bf; by_cases q : f 28 = s <;> simp [q]
theorem z_bfo (f : Nat → Int32) (t : Nat) (s : Int32) {a : Nat} (h1 : ¬ a = 28) (h2 : ¬ a = 34) (h3 : ¬ a = 35) (h4 : ¬ a = 42) (h5 : ¬ a = 44) : z_bf f t s a = f a := by unfold z_bf; simp [h1, h2, h3, h4, h5]
theorem z_Bbf {f : Nat → Int32} (h : z_Bu t f) {s : Int32} (hs : s = 0 ∨ s = 1 ∨ s = 2 ∨ s = 3 ∨ s = 4 ∨ s = 5) : z_Bu t (z_bf f t s) := by
  obtain ⟨h1, h2, h3, h4, h5, h6, h7, h8⟩ := h
  unfold z_Bu
  rw [z_bfl, z_bfo _ _ _ (a := 29) (by decide) (by decide) (by decide) (by decide) (by decide), z_bfo _ _ _ (a := 30) (by decide) (by decide) (by decide) (by decide) (by decide), z_bfo _ _ _ (a := 31) (by decide) (by decide) (by decide) (by decide) (by decide), z_bfo _ _ _ (a := 0) (by decide) (by decide) (by decide) (by decide) (by decide), z_bfo _ _ _ (a := 37) (by decide) (by decide) (by decide) (by decide) (by decide)]
  refine ⟨hs, h2, h3, h4, h5, ?_, ?_, h8⟩
  · rcases h6 with q | q
    · exact Or.inl q
    · refine Or.inr ?_
      unfold z_bf; simp only [q, if_true, ite_self, show ¬ (42 : Nat) = 28 by decide, show ¬ (42 : Nat) = 34 by decide, show ¬ (42 : Nat) = 35 by decide, if_false]
  · unfold z_bf
    by_cases q : f 28 = s
    · simp only [q, if_true]; exact h7
    · simp only [q, if_false, show ¬ (34 : Nat) = 28 by decide, if_true]; exact ⟨t, Nat.le_refl _, rfl⟩
/-- ENTER / BECOMES -/
theorem z_R.ent (h : z_R x b k c t B M m) (hx : x = u ∨ c ≤ x) (hu : u < c) (s : Int32) (hs : s = 0 ∨ s = 1 ∨ s = 2 ∨ s = 3 ∨ s = 4 ∨ s = 5) :
    p_58 k (nI u) s M ∧ p_190 (nI u) s m ∧ z_R u b k c t B (m_58 k (nI u) s M) (m_190 (nI u) s m) ∧ ∀ w, z_A (m_190 (nI u) s m) w = if w = u then z_bf (z_A m u) t s else z_A m w := by
  obtain ⟨h1, h2, h3, h4⟩ := h.1.et hu s (h.2.qd hu)
  have hA := z_Abe h4
  refine ⟨h1, h2, ⟨h3, h.2.one _ hA u (by omega) (fun hu => z_Bbf (h.2 u hu).1 hs) (fun _ q => absurd rfl q)⟩, hA⟩
theorem z_R.e0 (h : z_R x b k c t B M m) (hx : x = u ∨ c ≤ x) (hu : u < c) (s : Int32) (hs : s = 0 ∨ s = 4) (hd : c ≤ x ∨ ¬ z_Y m 28 u = s) (y : Nat) :
    p_58 k (nI u) s M ∧ p_190 (nI u) s m ∧ z_R y b k c t B (m_58 k (nI u) s M) (m_190 (nI u) s m) ∧ ∀ w, z_A (m_190 (nI u) s m) w = if w = u then z_bf (z_A m u) t s else z_A m w := by
  obtain ⟨h1, h2, h3, h4⟩ := h.ent hx hu s (by rcases hs with q | q <;> simp [q])
  refine ⟨h1, h2, ⟨h3.1, ?_⟩, h4⟩
  intro w hw
  refine ⟨(h3.2 w hw).1, fun _ => ?_⟩
  by_cases q : w = u
  · subst q
    rw [h4, if_pos rfl]
    by_cases e : z_Y m 28 w = s
    · have e2 : z_bf (z_A m w) t s = z_A m w := by funext a; unfold z_bf; rw [z_AY _ _ (show 28 < 56 by omega), if_pos e]
      rw [e2]
      exact (h.2 w hw).2 (by rcases hd with z | z; omega; exact absurd e z)
    · have n : ¬ z_A m w 28 = s := by rw [z_AY _ _ (show 28 < 56 by omega)]; exact e
      unfold z_Du
      rw [z_bfl]
      have e35 : z_bf (z_A m w) t s 35 = -1 := by unfold z_bf; rw [if_neg n]; rfl
      rw [e35]
      refine ⟨fun _ => rfl, fun z => ?_, fun z => ?_, fun z => ?_, fun z => ?_⟩
      all_goals rcases hs with q | q <;> rw [q] at z <;> exact absurd z (by decide)
  · exact (h3.2 w hw).2 q
/-- a job ends (reference: written out) -/
theorem z_R.end (h : z_R x b k c t B M m) (hu : u < c) (how : Int32) : z_R x b k c t B (m_57 k (nI u) how M) (z_P (z_P (z_P m 29 u 0) 30 u 0) 41 u how) := by
  refine ⟨h.1.en hu how, h.2.keep _ (fun w => z_A3 m 29 30 41 u w 0 0 how (by omega) (by omega) (by omega)) (fun a ha => ?_) (Or.inl ?_) (Or.inl ?_) (fun z => ?_)⟩
  · obtain ⟨n1, n2, n3, _⟩ := z_crn ha
    rw [z_upn n3, z_upn n2, z_upn n1]
  · rw [z_upn (by decide), z_upn (by decide), z_upe]
  · rw [z_upn (by decide), z_upe]
  · rw [z_upn (by decide), z_upe] at z; exact absurd z (by decide)
theorem z_R.put (h : z_R x b k c t B M m) (hu : u < c) (j : Int32) (hj : j = 1 ∨ j = 2 ∨ j = 3) : z_R x b k c t B (m_76 k (nI u) j M) (z_P (z_P m 29 u j) 30 u 0) := by
  refine ⟨h.1.pt hu j hj, h.2.keep _ (fun w => z_A2 m 29 30 u w j 0 (by omega) (by omega)) (fun a ha => ?_) (Or.inr ?_) (Or.inl ?_) (fun z => ?_)⟩
  · obtain ⟨n1, n2, _⟩ := z_crn ha
    rw [z_upn n2, z_upn n1]
  · rw [z_upn (by decide), z_upe]; exact hj
  · rw [z_upe]
  · rw [z_upe] at z; exact absurd z (by decide)
theorem z_R.run (h : z_R x b k c t B M m) (hu : u < c) (hj : ¬ z_Y m 29 u = 0) : z_R x b k c t B (ux_set M k 49197 0 3 ((M k 49197 0 3) ||| ((1 : Int32) <<< (nI u &&& 31)))) (z_P m 30 u 1) := by
  refine ⟨h.1.rn hu, h.2.keep _ (fun w => z_AP m 30 u w 1 (by omega)) (fun a ha => ?_) ?_ (Or.inr ?_) (fun _ => ?_)⟩
  · obtain ⟨n1, n2, _⟩ := z_crn ha
    rw [z_upn n2]
  · rw [z_upn (by decide), z_AY _ _ (by omega)]; exact h.2.jb hu
  · rw [z_upe]
  · rw [z_upn (by decide), z_AY _ _ (by omega)]; exact hj
/-- a write of an attribute of which nothing is asked -/
theorem z_R.wr (h : z_R x b k c t B M m) (hq : (a, s) ∈ z_tab) (ha : a = 32 ∨ a = 33 ∨ a = 39 ∨ a = 40 ∨ a = 43 ∨ a = 44) (hu : u < c) (v : Int32) : z_R x b k c t B (ux_set M k s 0 u v) (z_P m a u v) := by
  have h56 : a < 56 := by omega
  refine ⟨h.1.wr hq (by omega) hu v, h.2.keep _ (fun w => z_AP m a u w v h56) (fun a' ha' => ?_) ?_ ?_ ?_⟩
  · obtain ⟨n1, n2, n3, n4, n5, n6, n7, n8, n9, n10, _⟩ := z_crn ha'
    rw [z_upn (by omega)]
  · rw [z_upn (by omega), z_AY _ _ (by omega)]; exact h.2.jb hu
  · rw [z_upn (by omega), z_AY _ _ (by omega)]; exact h.2.rn hu
  · rw [z_upn (by omega), z_upn (by omega), z_AY _ _ (by omega), z_AY _ _ (by omega)]; exact h.2.rj hu
theorem z_R.w32 (h : z_R x b k c t B M m) (hu : u < c) (v : Int32) : z_R x b k c t B (ux_set M k 98433 0 u v) (z_P m 32 u v) := h.wr (List.mem_of_getElem? (i := 1) rfl) (by omega) hu v
theorem z_R.w33 (h : z_R x b k c t B M m) (hu : u < c) (v : Int32) : z_R x b k c t B (ux_set M k 114817 0 u v) (z_P m 33 u v) := h.wr (List.mem_of_getElem? (i := 2) rfl) (by omega) hu v
/-- settle -/
theorem z_Ast (m : ux_M) (u w : Nat) : z_A (z_st m u) w = if w = u then (if z_Y m 29 u = 2 then z_up (z_up (z_up (z_A m u) 29 0) 30 0) 41 0 else if z_Y m 29 u = 3 then z_up (z_up (z_A m u) 29 1) 30 0 else z_A m u) else z_A m w := by
  unfold z_st
  by_cases q : z_Y m 29 u = 2
  · rw [if_pos q, if_pos q]; exact z_A3 m 29 30 41 u w 0 0 0 (by omega) (by omega) (by omega)
  · rw [if_neg q, if_neg q]
    by_cases q3 : z_Y m 29 u = 3
    · rw [if_pos q3, if_pos q3]; exact z_A2 m 29 30 u w 1 0 (by omega) (by omega)
    · rw [if_neg q3, if_neg q3]; by_cases z : w = u <;> simp [z]
theorem z_R.set (h : z_R x b k c t B M m) (hu : u < c) : z_R x b k c t B (m_60 k (nI u) M) (z_st m u) := by
  refine ⟨h.1.ms hu, ?_⟩
  unfold z_st
  by_cases q : z_Y m 29 u = 2
  · rw [if_pos q]; exact (h.end hu 0).2
  · rw [if_neg q]
    by_cases q3 : z_Y m 29 u = 3
    · rw [if_pos q3]; exact (h.put hu 1 (by simp)).2
    · rw [if_neg q3]; exact h.2
theorem z_stY (m : ux_M) (u : Nat) {a : Nat} (ha : a < 56) (h1 : ¬ a = 29) (h2 : ¬ a = 30) (h3 : ¬ a = 41) (w : Nat) : z_Y (z_st m u) a w = z_Y m a w := by
  unfold z_st
  split
  · rw [z_YP _ _ _ _ (by omega) ha, z_YP _ _ _ _ (by omega) ha, z_YP _ _ _ _ (by omega) ha, if_neg (fun z => h3 z.1), if_neg (fun z => h2 z.1), if_neg (fun z => h1 z.1)]
  · split
    · rw [z_YP _ _ _ _ (by omega) ha, z_YP _ _ _ _ (by omega) ha, if_neg (fun z => h2 z.1), if_neg (fun z => h1 z.1)]
    · rfl
theorem z_up1 (m : ux_M) (a u : Nat) (v : Int32) {b' w : Nat} (ha : a < 56) (hb : b' < 56) (h : ¬ b' = a) : z_Y (z_P m a u v) b' w = z_Y m b' w := by rw [z_YP _ _ _ _ ha hb, if_neg (fun z => h z.1)]
theorem z_up2 (m : ux_M) (a u : Nat) (v : Int32) (ha : a < 56) : z_Y (z_P m a u v) a u = v := by rw [z_YP _ _ _ _ ha ha, if_pos ⟨rfl, rfl⟩]
theorem z_entY {s : Int32} (hA : ∀ w, z_A m' w = if w = u then z_bf (z_A m u) t s else z_A m w) {a : Nat} (ha : a < 56) (h1 : ¬ a = 28) (h2 : ¬ a = 34) (h3 : ¬ a = 35) (h4 : ¬ a = 42) (h5 : ¬ a = 44) (w : Nat) : z_Y m' a w = z_Y m a w := by
  rw [← z_AY m' w ha, hA, ← z_AY m w ha]
  by_cases q : w = u
  · subst q; rw [if_pos rfl, z_bfo _ _ _ h1 h2 h3 h4 h5]
  · rw [if_neg q]
theorem z_entS {s : Int32} (hA : ∀ w, z_A m' w = if w = u then z_bf (z_A m u) t s else z_A m w) : z_Y m' 28 u = s := by
  rw [← z_AY m' u (show 28 < 56 by omega), hA, if_pos rfl, z_bfl]
/-- END OF STOPPING -/
theorem z_R.es (h : z_R x b k c t B M m) (hx : x = u ∨ c ≤ x) (hu : u < c) (hd : ¬ z_Y m 28 u = 0) (y : Nat) : p_61 k (nI u) M ∧ p_215 (nI u) m ∧ z_R y b k c t B (m_61 k (nI u) M) (m_215 (nI u) m) := by
  have h16 := h.1.u16 hu
  obtain ⟨h1, h2, h3, hA⟩ := h.e0 hx hu 0 (Or.inl rfl) (Or.inr hd) y
  have h4 := h3.w32 hu 0
  have h5 := h4.set hu
  have e : m_215 (nI u) m = z_st (z_P (m_190 (nI u) 0 m) 32 u 0) u := by
    unfold m_215 z_st; simp only [pu32 _ _ h16, of29 _ h16, pu29 _ _ h16, pu30 _ _ h16, pu41 _ _ h16]
  refine ⟨?_, ?_, ?_⟩
  · unfold p_61; rw [z_cl h16]; exact ⟨h1, z_i16 h16, fun _ e => by subst e; exact h4.1.ps hu⟩
  · unfold p_215; simp only [pu32 _ _ h16, of29 _ h16, pu29 _ _ h16, pu30 _ _ h16, forall_eq]
    exact ⟨h2, uu32 h16, uu29 h16, fun _ => ⟨uu29 h16, fun _ => trivial, fun _ => ⟨uu29 h16, uu30 h16⟩⟩, fun _ => ⟨uu29 h16, uu30 h16, uu41 h16⟩⟩
  · rw [e]; unfold m_61; rw [z_cl h16]; exact h5
/-- a unit whose state is 3 and its due -/
theorem z_lit (n : Nat) : nI n = (OfNat.ofNat n : Int32) := rfl
theorem z_R.du (h : z_R u b k c t B M m) (hu : u < c) (m' : ux_M) (y : Nat) (d : Int32) (hm : m' = z_P m 35 u d) (hD : z_Du b t u (z_up (z_A m u) 35 d)) : z_R y b k c t B M m' := by
  subst hm
  refine ⟨h.1.wd (Or.inl rfl) u d, h.2.one _ (fun w => z_AP m 35 u w d (by omega)) y (Or.inl rfl) (fun _ => ?_) (fun _ _ => hD)⟩
  obtain ⟨h1, h2, h3, h4, h5, h6, h7, h8⟩ := (h.2 u hu).1
  unfold z_Bu
  simp only [z_upn (show ¬ 28 = 35 by decide), z_upn (show ¬ 29 = 35 by decide), z_upn (show ¬ 30 = 35 by decide), z_upn (show ¬ 31 = 35 by decide), z_upn (show ¬ 0 = 35 by decide), z_upn (show ¬ 42 = 35 by decide), z_upn (show ¬ 34 = 35 by decide), z_upn (show ¬ 37 = 35 by decide)]
  exact ⟨h1, h2, h3, h4, h5, h6, h7, h8⟩
/-- nothing but the due of u is amiss, and that is right -/
theorem z_R.fix (h : z_R u b k c t B M m) (hD : u < c → z_Du b t u (z_A m u)) (y : Nat) : z_R y b k c t B M m := by
  refine ⟨h.1, fun w hw => ⟨(h.2 w hw).1, fun _ => ?_⟩⟩
  by_cases q : w = u
  · subst q; exact hD hw
  · exact (h.2 w hw).2 q
theorem z_pos {n : Nat} (hn : n < 2000000000) : nI n ≤ 0 ↔ n = 0 := by
  rw [show (0 : Int32) = nI 0 from rfl, z_le hn (by omega)]; omega
theorem z_e0 {n : Nat} (hn : n < 2000000000) : nI n = 0 ↔ n = 0 := by
  rw [show (0 : Int32) = nI 0 from rfl, z_eq hn (by omega)]
/-- GOING DOWN (the unit active or activating, or deactivating already) -/
theorem z_R.gd (h : z_R 99 b k c t B M m) (hu : u < c) (hj : ¬ z_Y m 29 u = 0) (hs : z_Y m 28 u = 1 ∨ z_Y m 28 u = 2 ∨ z_Y m 28 u = 3) :
    p_87 k (nI u) M ∧ (¬ z_Y m 28 u = 3 → p_222 (nI u) (z_P m 30 u 1)) ∧ z_R 99 b k c t B (m_87 k (nI u) M) (if z_Y m 28 u = 3 then z_P m 30 u 1 else m_222 (nI u) (z_P m 30 u 1)) := by
  have h16 := h.1.u16 hu
  have hc := h.1.le
  have h1 := h.run hu hj
  have e28 : ux_set M k 49197 0 3 ((M k 49197 0 3) ||| ((1 : Int32) <<< (nI u &&& 31))) k 65665 0 u = z_Y m 28 u := by rw [z_so (by omega)]; exact h.1.d28 hu
  have y28 : z_Y (z_P m 30 u 1) 28 u = z_Y m 28 u := z_up1 _ _ _ _ (by omega) (by omega) (by omega)
  unfold p_87 m_87
  simp only [forall_eq, z_cl h16, e28]
  by_cases q : z_Y m 28 u = 3
  · rw [if_pos q, if_pos q]
    exact ⟨⟨z_i16 h16, fun z => absurd q z, fun _ => trivial⟩, fun z => absurd q z, h1⟩
  · rw [if_neg q, if_neg q]
    obtain ⟨a1, a2, a3, hA⟩ := h1.ent (Or.inr (by omega)) hu 3 (by simp)
    obtain ⟨b1, b2⟩ := a3.1.q1 hu
    have y0 : z_Y (m_190 (nI u) 3 (z_P m 30 u 1)) 0 u = z_Y m 0 u := by rw [z_entY hA (by omega) (by omega) (by omega) (by omega) (by omega) (by omega)]; exact z_up1 _ _ _ _ (by omega) (by omega) (by omega)
    have y11 : z_Y (m_190 (nI u) 3 (z_P m 30 u 1)) 11 u = z_Y m 11 u := by rw [z_entY hA (by omega) (by omega) (by omega) (by omega) (by omega) (by omega)]; exact z_up1 _ _ _ _ (by omega) (by omega) (by omega)
    have n3 : ¬ z_Y (m_190 (nI u) 3 (z_P m 30 u 1)) 28 u = 0 := by rw [z_entS hA]; decide
    obtain ⟨d1, d2, d3⟩ := a3.es (Or.inl rfl) hu n3 99
    have now' : m_190 (nI u) 3 (z_P m 30 u 1) 5 844257 0 0 = nI t := a3.1.now
    rw [y0, y11] at b2
    obtain ⟨_, ⟨n, hn, en⟩, _⟩ := h.1.rng hu
    unfold p_222 m_222 p_222_26 m_222_26
    simp only [of0 _ h16, of11 _ h16, y0, y11, b2, z_c0, now', pu35 _ _ h16]
    by_cases hk : z_Y m 0 u = 0
    · simp only [hk, if_true, en, z_pos (show n < 2000000000 by omega), z_e0 (show n < 2000000000 by omega), not_true_eq_false, false_implies, true_implies, true_and, q, not_false_eq_true]
      by_cases hz : n = 0
      · simp only [hz, if_true, not_true_eq_false, false_implies, true_implies, and_true]
        exact ⟨⟨z_i16 h16, ⟨a1, b1, trivial, d1⟩⟩, ⟨a2, uu0 h16, uu11 h16, d2⟩, d3⟩
      · simp only [hz, if_false, not_false_eq_true, true_implies, false_implies, true_and, and_true]
        refine ⟨⟨z_i16 h16, ⟨a1, b1⟩⟩, ⟨a2, uu0 h16, uu11 h16, z_v0, uu35 h16⟩, ?_⟩
        refine a3.du hu _ 99 (nI t + nI n) rfl ?_
        have e34 : z_A (m_190 (nI u) 3 (z_P m 30 u 1)) u 34 = nI t := by
          rw [hA, if_pos rfl]; unfold z_bf
          rw [if_neg (by rw [z_AY _ _ (by omega), y28]; exact q), if_neg (by omega), if_pos rfl]
        have e11 : z_A (m_190 (nI u) 3 (z_P m 30 u 1)) u 11 = nI n := by rw [z_AY _ _ (by omega), y11, en]
        have e0 : z_A (m_190 (nI u) 3 (z_P m 30 u 1)) u 0 = 0 := by rw [z_AY _ _ (by omega), y0, hk]
        have e2 : z_A (m_190 (nI u) 3 (z_P m 30 u 1)) u 28 = 3 := by rw [z_AY _ _ (by omega)]; exact z_entS hA
        have tl := h.1.tl
        unfold z_Du
        rw [z_upn (show ¬ 28 = 35 by decide), z_upn (show ¬ 34 = 35 by decide), z_upn (show ¬ 11 = 35 by decide), z_upn (show ¬ 0 = 35 by decide), z_upe, e34, e11, e0, e2]
        refine ⟨fun z => absurd z (by decide), fun z => absurd z (by decide), fun _ => ⟨rfl, rfl, t + n, z_add t n, Or.inl (by omega), by omega⟩, fun z => absurd z (by decide), fun z => absurd z (by decide)⟩
    · simp only [hk, if_false, Int32.le_refl, if_true, not_true_eq_false, false_implies, true_implies, true_and, and_true, q, not_false_eq_true]
      exact ⟨⟨z_i16 h16, ⟨a1, b1, d1⟩⟩, ⟨a2, uu0 h16, d2⟩, d3⟩
/-- RUNNING A JOB TO STOP -/
theorem z_R.rst (h : z_R 99 b k c t B M m) (hu : u < c) (hj : ¬ z_Y m 29 u = 0) : p_86 k (nI u) M ∧ p_221 (nI u) (z_Y m 28 u) m ∧ z_R 99 b k c t B (m_86 k (nI u) M) (m_221 (nI u) (z_Y m 28 u) m) := by
  have h16 := h.1.u16 hu
  have hc := h.1.le
  have hE := h.end hu 0
  unfold p_86 m_86 p_221 m_221
  simp only [z_cl h16, h.1.d28 hu, forall_eq, pu29 _ _ h16, pu30 _ _ h16, pu41 _ _ h16]
  have hm57 := hE
  unfold m_57 at hm57
  simp only [z_cl h16] at hm57
  rcases h.2.st hu with q | q | q | q | q | q
  · simp only [q, if_true, not_true_eq_false, false_implies, true_implies, and_true]
    exact ⟨⟨z_i16 h16, z_i16 h16⟩, ⟨uu29 h16, uu30 h16, uu41 h16⟩, hm57⟩
  · obtain ⟨g1, g2, g3⟩ := h.gd hu hj (by simp [q])
    simp only [q, zn_13, if_false, not_false_eq_true, true_implies] at g2 g3
    simp only [q, zn_10, zn_14, zn_15, zn_13, if_false, false_implies, true_and, not_false_eq_true, true_implies, and_true]
    exact ⟨⟨z_i16 h16, g1⟩, ⟨uu30 h16, g2⟩, g3⟩
  · obtain ⟨g1, g2, g3⟩ := h.gd hu hj (by simp [q])
    simp only [q, zn_23, if_false, not_false_eq_true, true_implies] at g2 g3
    simp only [q, zn_20, zn_24, zn_25, zn_23, if_false, false_implies, true_and, not_false_eq_true, true_implies, and_true]
    exact ⟨⟨z_i16 h16, g1⟩, ⟨uu30 h16, g2⟩, g3⟩
  · obtain ⟨g1, g2, g3⟩ := h.gd hu hj (by simp [q])
    simp only [q, if_true] at g3
    simp only [q, zn_30, zn_34, zn_35, if_false, if_true, false_implies, true_and, not_false_eq_true, not_true_eq_false, true_implies, and_true]
    exact ⟨⟨z_i16 h16, g1⟩, uu30 h16, g3⟩
  · simp only [q, zn_40, zn_45, if_false, if_true, false_implies, true_and, not_false_eq_true, not_true_eq_false, true_implies, and_true]
    exact ⟨⟨z_i16 h16, z_i16 h16⟩, ⟨uu29 h16, uu30 h16, uu41 h16⟩, hm57⟩
  · obtain ⟨a1, a2, a3, hA⟩ := h.e0 (Or.inr (by omega)) hu 0 (Or.inl rfl) (Or.inl (by omega)) 99
    have hE2 := a3.end hu 0
    unfold m_57 at hE2
    simp only [z_cl h16] at hE2
    simp only [q, zn_50, zn_54, if_false, if_true, false_implies, true_and, not_false_eq_true, not_true_eq_false, true_implies, and_true]
    exact ⟨⟨z_i16 h16, a1, z_i16 h16⟩, ⟨a2, uu29 h16, uu30 h16, uu41 h16⟩, hE2⟩
/-- RUNNING A JOB TO RESTART -/
theorem z_R.rre (h : z_R 99 b k c t B M m) (hu : u < c) (hj : ¬ z_Y m 29 u = 0) : p_88 k (nI u) M ∧ p_223 (nI u) (z_Y m 28 u) m ∧ z_R 99 b k c t B (m_88 k (nI u) M) (m_223 (nI u) (z_Y m 28 u) m) := by
  have h16 := h.1.u16 hu
  have hc := h.1.le
  have hE := h.put hu 1 (by simp)
  have hp := z_pput M k (nI u) 1
  unfold p_88 m_88 p_223 m_223
  simp only [z_cl h16, h.1.d28 hu, forall_eq, pu29 _ _ h16, pu30 _ _ h16]
  rcases h.2.st hu with q | q | q | q | q | q
  · simp only [q, if_true, not_true_eq_false, false_implies, true_implies, and_true]
    exact ⟨⟨z_i16 h16, hp⟩, ⟨uu29 h16, uu30 h16⟩, hE⟩
  · obtain ⟨g1, g2, g3⟩ := h.gd hu hj (by simp [q])
    simp only [q, zn_13, if_false, not_false_eq_true, true_implies] at g2 g3
    simp only [q, zn_10, zn_14, zn_15, zn_13, if_false, false_implies, true_and, not_false_eq_true, true_implies, and_true]
    exact ⟨⟨z_i16 h16, g1⟩, ⟨uu30 h16, g2⟩, g3⟩
  · obtain ⟨g1, g2, g3⟩ := h.gd hu hj (by simp [q])
    simp only [q, zn_23, if_false, not_false_eq_true, true_implies] at g2 g3
    simp only [q, zn_20, zn_24, zn_25, zn_23, if_false, false_implies, true_and, not_false_eq_true, true_implies, and_true]
    exact ⟨⟨z_i16 h16, g1⟩, ⟨uu30 h16, g2⟩, g3⟩
  · obtain ⟨g1, g2, g3⟩ := h.gd hu hj (by simp [q])
    simp only [q, if_true] at g3
    simp only [q, zn_30, zn_34, zn_35, if_false, if_true, false_implies, true_and, not_false_eq_true, not_true_eq_false, true_implies, and_true]
    exact ⟨⟨z_i16 h16, g1⟩, uu30 h16, g3⟩
  · simp only [q, zn_40, zn_45, if_false, if_true, false_implies, true_and, not_false_eq_true, not_true_eq_false, true_implies, and_true]
    exact ⟨⟨z_i16 h16, hp⟩, ⟨uu29 h16, uu30 h16⟩, hE⟩
  · simp only [q, zn_50, zn_54, if_false, if_true, false_implies, true_and, not_false_eq_true, not_true_eq_false, true_implies, and_true]
    exact ⟨⟨z_i16 h16, hp⟩, ⟨uu29 h16, uu30 h16⟩, hE⟩
end ZO
