/-! the end of an activation, the limit, running a job to start -/
section ZS
variable {k c t B B' u v a b s x n : Nat} {M m M' m' m'' : ux_M}
/-- the end of a job, cell by cell -/
theorem z_57e (M : ux_M) (k y : Nat) (hy : y < 16) (how : Int32) (a b' c' d : Nat) : m_57 k (nI y) how M a b' c' d = if a = k ∧ b' = 327809 ∧ c' = 0 ∧ d = y then how
    else if a = k ∧ b' = 49197 ∧ c' = 0 ∧ d < 4 then (M k 49197 0 d) &&& (((1 : Int32) <<< (nI y &&& 31)) ^^^ ((-1) : Int32)) else M a b' c' d := by
  unfold m_57
  simp only [z_cl hy, z_set, true_and, and_true, and_self, Nat.reduceEqDiff, and_false, if_false, Nat.zero_ne_one, Nat.one_ne_zero]
  by_cases q : a = k ∧ b' = 327809 ∧ c' = 0 ∧ d = y
  · rw [if_pos q, if_pos q]
  · rw [if_neg q, if_neg q]
    by_cases q2 : a = k ∧ b' = 49197 ∧ c' = 0 ∧ d < 4
    · obtain ⟨rfl, rfl, rfl, hd⟩ := q2
      have h4 : d = 0 ∨ d = 1 ∨ d = 2 ∨ d = 3 := by omega
      rcases h4 with rfl | rfl | rfl | rfl <;> simp
    · rw [if_neg q2, if_neg (fun z => q2 ⟨z.1, z.2.1, z.2.2.1, by omega⟩), if_neg (fun z => q2 ⟨z.1, z.2.1, z.2.2.1, by omega⟩), if_neg (fun z => q2 ⟨z.1, z.2.1, z.2.2.1, by omega⟩), if_neg (fun z => q2 ⟨z.1, z.2.1, z.2.2.1, by omega⟩)]
theorem z_57c (M : ux_M) (k y : Nat) (hy : y < 16) (how : Int32) (s i : Nat) (v : Int32) (h1 : ¬ s = 49197) (h2 : ¬ s = 327809) : m_57 k (nI y) how (ux_set M k s 0 i v) = ux_set (m_57 k (nI y) how M) k s 0 i v := by
  funext a b' c' d
  rw [z_57e _ _ _ hy, z_so (fun z => h1 z.symm), z_set, z_set, z_57e _ _ _ hy]
  by_cases q : a = k ∧ b' = s ∧ c' = 0 ∧ d = i
  · rw [if_pos q, if_pos q, if_neg (fun z => h2 (q.2.1.symm.trans z.2.1)), if_neg (fun z => h1 (q.2.1.symm.trans z.2.1))]
  · rw [if_neg q, if_neg q]
theorem z_D42 {f : Nat → Int32} {v : Int32} {a : Nat} (ha : a = 42) (h : z_Du b t u f) : z_Du b t u (z_up f a v) := by
  subst ha
  unfold z_Du at h ⊢
  simp only [z_upn (show ¬ 28 = 42 by decide), z_upn (show ¬ 35 = 42 by decide), z_upn (show ¬ 0 = 42 by decide), z_upn (show ¬ 34 = 42 by decide), z_upn (show ¬ 10 = 42 by decide), z_upn (show ¬ 11 = 42 by decide), z_upn (show ¬ 12 = 42 by decide), z_upn (show ¬ 16 = 42 by decide), z_upn (show ¬ 19 = 42 by decide), z_upn (show ¬ 36 = 42 by decide), z_upn (show ¬ 37 = 42 by decide)]
  exact h
/-- the queued connections of a socket -/
theorem z_R.w42 (h : z_R x b k c t B M m) (hu : u < c) (v : Int32) (hv : v = 0 ∨ z_Y m 0 u = 1) : z_R x b k c t B (ux_set M k 213121 0 u v) (z_P m 42 u v) := by
  refine ⟨h.1.wr (List.mem_of_getElem? (i := 9) rfl) (by omega) hu v, h.2.one _ (fun w => z_AP m 42 u w v (by omega)) x (Or.inr (Or.inl rfl)) (fun hu => ?_) (fun hu q => z_D42 rfl ((h.2 u hu).2 q))⟩
  obtain ⟨h1, h2, h3, h4, h5, h6, h7, h8⟩ := (h.2 u hu).1
  unfold z_Bu
  simp only [z_upn (show ¬ 28 = 42 by decide), z_upn (show ¬ 29 = 42 by decide), z_upn (show ¬ 30 = 42 by decide), z_upn (show ¬ 31 = 42 by decide), z_upn (show ¬ 0 = 42 by decide), z_upn (show ¬ 34 = 42 by decide), z_upn (show ¬ 37 = 42 by decide), z_upe]
  exact ⟨h1, h2, h3, h4, h5, by rcases hv with q | q; exact Or.inr q; exact Or.inl (by rw [z_AY _ _ (by omega)]; exact q), h7, h8⟩
/-- the connections that wait at a service's sockets are taken; the class ends the job behind that -/
theorem z_skl (hu : u < c) (E : ux_M → ux_M) (z0 : Int32) (hE : ∀ M, E M = if z0 = 0 then M else m_57 k (nI u) 0 M) : ∀ (n f f' i : Nat) (M m : ux_M), i + n = c → n < f → n < f' → z_R x b k c t B (E M) m →
    p_52_69 f k (nI u) z0 (nI i) M ∧ p_181_101 f' (nI u) (nI i) m ∧ z_R x b k c t B (m_52_69 f k (nI u) z0 (nI i) M) (m_181_101 f' (nI u) (nI i) m) ∧ ∀ w, z_jr (m_181_101 f' (nI u) (nI i) m) w = z_jr m w := by
  intro n
  have rd : ∀ (M : ux_M) (s i : Nat), u < 16 → ¬ s = 49197 → ¬ s = 327809 → E M k s 0 i = M k s 0 i := fun M s i hu n1 n2 => by
    rw [hE]; split
    · rfl
    · rw [z_57e _ _ _ hu, if_neg (fun z => n2 z.2.1), if_neg (fun z => n1 z.2.1)]
  induction n with
  | zero =>
    intro f f' i M m hi hf hf' h
    obtain ⟨f, rfl⟩ : ∃ g, f = g + 1 := ⟨f - 1, by omega⟩
    obtain ⟨f', rfl⟩ : ∃ g, f' = g + 1 := ⟨f' - 1, by omega⟩
    have hu16 := h.1.u16 hu
    have hle := z_yle (show c ≤ i by omega) (by have := h.1.le; omega)
    have hc : M k 344085 0 0 = nI c := (rd M 344085 0 hu16 (by omega) (by omega)).symm.trans h.1.cnt
    rw [p_52_69, p_181_101, m_52_69, m_181_101, hc, z_c1, h.1.cn, if_pos hle, if_pos hle]
    refine ⟨⟨fun _ => ⟨fun _ => trivial, fun _ _ _ _ _ _ _ _ _ => z_i16 hu16⟩, fun z => absurd hle z⟩, ⟨z_v1, fun _ => trivial, fun z => absurd hle z⟩, ?_, fun _ => rfl⟩
    rw [hE] at h
    exact h
  | succ n ih =>
    intro f f' i M m hi hf hf' h
    obtain ⟨f, rfl⟩ : ∃ g, f = g + 1 := ⟨f - 1, by omega⟩
    obtain ⟨f', rfl⟩ : ∃ g, f' = g + 1 := ⟨f' - 1, by omega⟩
    have hu16 := h.1.u16 hu
    have hic : i < c := by omega
    have hi16 := h.1.u16 hic
    have hle := z_nle hic h.1.le
    have hc : M k 344085 0 0 = nI c := (rd M 344085 0 hu16 (by omega) (by omega)).symm.trans h.1.cnt
    have hs : M k 426113 0 i = z_Y m 20 i := (rd M 426113 i hu16 (by omega) (by omega)).symm.trans (h.1.sv hic)
    have h43 : M k 229505 0 i = z_Y m 43 i := (rd M 229505 i hu16 (by omega) (by omega)).symm.trans (h.1.d43 hic)
    have h42 : M k 213121 0 i = z_Y m 42 i := (rd M 213121 i hu16 (by omega) (by omega)).symm.trans (h.1.d42 hic)
    rw [p_52_69, p_181_101, m_52_69, m_181_101]
    simp only [hc, h.1.cn, z_c1, hle, if_false, not_false_eq_true, true_implies, false_implies, true_and, z_cl hi16, hs, h43, h42, of0 _ hi16, of20 _ hi16, of42 _ hi16, of43 _ hi16, pu43 _ _ hi16, pu42 _ _ hi16, z_nx, forall_eq]
    have r := ih f f' (i + 1) M m (by omega) (by omega) (by omega) h
    by_cases q : z_Y m 20 i = nI u
    · have hk : z_Y m 0 i = 1 := Classical.byContradiction (fun z => by
        have := h.1.nk hic z
        rw [q] at this
        have e : (nI u : Int32) < 0 := by rw [this]; decide
        exact nI_pos (by omega) e)
      have y42 : z_Y (z_P m 43 i (z_Y m 43 i + z_Y m 42 i)) 42 i = z_Y m 42 i := z_up1 _ _ _ _ (by omega) (by omega) (by omega)
      have h2 := (h.wr (a := 43) (s := 229505) (List.mem_of_getElem? (i := 10) rfl) (by omega) hic (z_Y m 43 i + z_Y m 42 i)).w42 hic 0 (Or.inl rfl)
      have e : ∀ v w, E (ux_set (ux_set M k 229505 0 i v) k 213121 0 i w) = ux_set (ux_set (E M) k 229505 0 i v) k 213121 0 i w := fun v w => by
        rw [hE, hE]; split
        · rfl
        · rw [z_57c _ _ _ hu16 _ _ _ _ (by omega) (by omega), z_57c _ _ _ hu16 _ _ _ _ (by omega) (by omega)]
      rw [← e] at h2
      have r2 := ih f f' (i + 1) _ _ (by omega) (by omega) (by omega) h2
      simp only [q, hk, if_true, not_true_eq_false, false_implies, true_implies, true_and, and_true]
      refine ⟨⟨z_i16 hi16, z_i16 hi16, z_i16 hi16, z_i16 hi16, z_i16 hi16, r2.1⟩, ⟨z_v1, uu0 hi16, uu20 hi16, uu42 hi16, uu43 hi16, uu42 hi16, r2.2.1⟩, r2.2.2.1, fun w => ?_⟩
      rw [r2.2.2.2, z_jrP _ _ _ _ _ (by omega) (by omega) (by omega), z_jrP _ _ _ _ _ (by omega) (by omega) (by omega)]
    · simp only [q, if_false, not_false_eq_true, false_implies, true_implies, true_and, and_true]
      by_cases hk : z_Y m 0 i = 1
      · simp only [hk, if_true, not_true_eq_false, false_implies, true_implies, true_and]
        exact ⟨⟨z_i16 hi16, r.1⟩, ⟨z_v1, uu0 hi16, uu20 hi16, r.2.1⟩, r.2.2⟩
      · simp only [hk, if_false, not_false_eq_true, false_implies, true_implies, and_true]
        exact ⟨⟨z_i16 hi16, r.1⟩, ⟨z_v1, uu0 hi16, r.2.1⟩, r.2.2⟩
/-- THE END OF AN ACTIVATION -/
theorem z_R.ea (h : z_R x b k c t B M m) (hB : B < 2000000000) (hx : x = u ∨ c ≤ x) (hu : u < c) (hst : z_Y m 28 u = 1) (hk : z_Y m 0 u = 0 ∨ ∃ a, 1 ≤ a ∧ a ≤ B ∧ z_Y m 38 u = nI a) (hj : z_Y m 29 u = 1 → z_Y m 30 u = 1 ∨ True) :
    p_52 k (nI u) M ∧ p_181 (nI u) m ∧ z_R 99 b k c t B (m_52 k (nI u) M) (m_181 (nI u) m) ∧ (z_Y m 29 u = 1 → z_X m (m_181 (nI u) m) ∧ z_Y (m_181 (nI u) m) 29 u = 0) := by
  have h16 := h.1.u16 hu
  have hc := h.1.le
  have hfu : c < ux_fuel := by have := z_fuel; omega
  obtain ⟨q1, q2⟩ := h.1.q4 hu
  obtain ⟨a, haB, ea, _, _⟩ := h.1.2.2.2.2.2 u hu
  obtain ⟨_, _, _, _, ⟨f0, hf0, ef⟩, _⟩ := h.1.rng hu
  have e38 : M k 147585 0 u = nI a := (h.1.d38 hu).trans ea
  -- the success
  obtain ⟨s1, s2, s3, hA⟩ := h.ent hx hu 2 (by simp)
  have nw2 : m_190 (nI u) 2 m 5 844257 0 0 = nI t := s3.1.now
  have hW2 := (s3.1.wd (a := 36) (Or.inr rfl) u (nI t)).wr (a := 37) (s := 131201) (List.mem_of_getElem? (i := 4) rfl) (by omega) hu (nI t)
  have hn28 : ¬ z_A m u 28 = 2 := by rw [z_AY _ _ (by omega), hst]; decide
  have S : z_R 99 b k c t B (ux_set (m_58 k (nI u) 2 M) k 131201 0 u (nI t)) (z_P (z_P (m_190 (nI u) 2 m) 36 u (nI t)) 37 u (nI t)) := by
    refine ⟨hW2, s3.2.one _ (fun w => z_A2 _ 36 37 u w _ _ (by omega) (by omega)) 99 (Or.inl rfl) (fun hu => ?_) (fun hu _ => ?_)⟩
    · obtain ⟨b1, b2, b3, b4, b5, b6, b7, b8⟩ := (s3.2 u hu).1
      unfold z_Bu
      simp only [z_upn (show ¬ 28 = 37 by decide), z_upn (show ¬ 29 = 37 by decide), z_upn (show ¬ 30 = 37 by decide), z_upn (show ¬ 31 = 37 by decide), z_upn (show ¬ 0 = 37 by decide), z_upn (show ¬ 34 = 37 by decide), z_upn (show ¬ 42 = 37 by decide), z_upe, z_upn (show ¬ 28 = 36 by decide), z_upn (show ¬ 29 = 36 by decide), z_upn (show ¬ 30 = 36 by decide), z_upn (show ¬ 31 = 36 by decide), z_upn (show ¬ 0 = 36 by decide), z_upn (show ¬ 34 = 36 by decide), z_upn (show ¬ 42 = 36 by decide)]
      exact ⟨b1, b2, b3, b4, b5, b6, b7, t, Nat.le_refl _, rfl⟩
    · have e28 : z_A (m_190 (nI u) 2 m) u 28 = 2 := by rw [z_AY _ _ (by omega)]; exact z_entS hA
      have e35 : z_A (m_190 (nI u) 2 m) u 35 = -1 := by rw [hA, if_pos rfl]; unfold z_bf; rw [if_neg hn28, if_neg (by omega), if_neg (by omega), if_pos rfl]
      have e34 : z_A (m_190 (nI u) 2 m) u 34 = nI t := by rw [hA, if_pos rfl]; unfold z_bf; rw [if_neg hn28, if_neg (by omega), if_pos rfl]
      have e12 : z_A (m_190 (nI u) 2 m) u 12 = z_Y m 12 u := by rw [z_AY _ _ (by omega), z_entY hA (by omega) (by omega) (by omega) (by omega) (by omega) (by omega)]
      have e19 : z_A (m_190 (nI u) 2 m) u 19 = z_Y m 19 u := by rw [z_AY _ _ (by omega), z_entY hA (by omega) (by omega) (by omega) (by omega) (by omega) (by omega)]
      obtain ⟨_, _, ⟨r12, hr12, er12⟩, _, _, _, _, _, _, ⟨r19, hr19, er19⟩⟩ := h.1.rng hu
      have tl := h.1.tl
      unfold z_Du
      simp only [z_upn (show ¬ 28 = 37 by decide), z_upn (show ¬ 0 = 37 by decide), z_upn (show ¬ 34 = 37 by decide), z_upn (show ¬ 35 = 37 by decide), z_upn (show ¬ 36 = 37 by decide), z_upn (show ¬ 12 = 37 by decide), z_upn (show ¬ 19 = 37 by decide), z_upe, z_upn (show ¬ 28 = 36 by decide), z_upn (show ¬ 0 = 36 by decide), z_upn (show ¬ 34 = 36 by decide), z_upn (show ¬ 35 = 36 by decide), z_upn (show ¬ 12 = 36 by decide), z_upn (show ¬ 19 = 36 by decide)]
      rw [e28, e35, e34, e12, e19, er12, er19]
      refine ⟨fun z => absurd z (by decide), fun z => absurd z (by decide), fun z => absurd z (by decide), fun z => absurd z (by decide), fun _ => ⟨rfl, fun _ => ⟨rfl, fun z => ⟨t + r12, z_add t r12, Or.inl ?_, by omega⟩, fun z => ⟨t + r19, z_add t r19, Or.inl ?_, by omega⟩⟩⟩⟩
      · have : ¬ r12 = 0 := fun y => z ((z_e0 (by omega)).mpr y)
        omega
      · have : ¬ r19 = 0 := fun y => z ((z_e0 (by omega)).mpr y)
        omega
  have y29 : z_Y (z_P (z_P (m_190 (nI u) 2 m) 36 u (nI t)) 37 u (nI t)) 29 u = z_Y m 29 u := by
    rw [z_up1 _ _ _ _ (by omega) (by omega) (by omega), z_up1 _ _ _ _ (by omega) (by omega) (by omega), z_entY hA (by omega) (by omega) (by omega) (by omega) (by omega) (by omega)]
  have jr2 : ∀ w, z_jr (z_P (z_P (m_190 (nI u) 2 m) 36 u (nI t)) 37 u (nI t)) w = z_jr m w := fun w => by
    rw [z_jrP _ _ _ _ _ (by omega) (by omega) (by omega), z_jrP _ _ _ _ _ (by omega) (by omega) (by omega), z_jrA hA]
  have nwc : m_58 k (nI u) 2 M k 16413 0 3 = nI t := s3.1.nw
  have nw36 : z_P (m_190 (nI u) 2 m) 36 u (nI t) 5 844257 0 0 = nI t := by rw [z_Yc _ _ _ _ (by omega)]; exact nw2
  have P50 : p_181_50 (nI u) m ∧ (z_Y m 29 u = 1 → m_181_50 (nI u) m = m_181_101 ux_fuel (nI u) (nI 0) (z_en (z_P (z_P (m_190 (nI u) 2 m) 36 u (nI t)) 37 u (nI t)) u 0)) ∧ (¬ z_Y m 29 u = 1 → m_181_50 (nI u) m = m_181_101 ux_fuel (nI u) (nI 0) (z_P (z_P (m_190 (nI u) 2 m) 36 u (nI t)) 37 u (nI t)))
      ∧ p_52_69 ux_fuel k (nI u) (if z_Y m 29 u = 1 then 1 else 0) (nI 0) (ux_set (m_58 k (nI u) 2 M) k 131201 0 u (nI t))
      ∧ z_R 99 b k c t B (m_52_69 ux_fuel k (nI u) (if z_Y m 29 u = 1 then 1 else 0) (nI 0) (ux_set (m_58 k (nI u) 2 M) k 131201 0 u (nI t))) (m_181_50 (nI u) m) ∧ (z_Y m 29 u = 1 → z_X m (m_181_50 (nI u) m) ∧ z_Y (m_181_50 (nI u) m) 29 u = 0) := by
    unfold p_181_50 m_181_50
    simp only [z_c0, nw2, pu36 _ _ h16, nw36, pu37 _ _ h16, of29 _ h16, y29, pu29 _ _ h16, pu30 _ _ h16, pu41 _ _ h16, forall_eq]
    by_cases q : z_Y m 29 u = 1
    · have l := z_skl (x := 99) (b := b) (k := k) (t := t) (B := B) hu (fun M => m_57 k (nI u) 0 M) 1 (fun M => by rw [if_neg z_10]) c ux_fuel ux_fuel 0 _ _ (by omega) hfu hfu (S.end hu 0)
      have e29 : z_Y (m_181_101 ux_fuel (nI u) (nI 0) (z_en (z_P (z_P (m_190 (nI u) 2 m) 36 u (nI t)) 37 u (nI t)) u 0)) 29 u = 0 := (congrArg Prod.fst (l.2.2.2 u)).trans (z_enJ _ u 0)
      simp only [q, if_true, not_true_eq_false, false_implies, true_implies, true_and]
      refine ⟨⟨s2, z_v0, uu36 h16, z_v0, uu37 h16, uu29 h16, uu29 h16, uu30 h16, uu41 h16, l.2.1⟩, rfl, l.1, l.2.2.1, ?_, e29⟩
      intro w
      by_cases e : w = u
      · subst e; exact Or.inr e29
      · refine Or.inl ((l.2.2.2 w).trans ?_)
        rw [z_jrP _ _ _ _ _ (by omega) (by omega) (by omega), z_jr2, if_neg e, jr2]
    · have l := z_skl (x := 99) (b := b) (k := k) (t := t) (B := B) hu (fun M => M) 0 (fun M => by rw [if_pos rfl]) c ux_fuel ux_fuel 0 _ _ (by omega) hfu hfu S
      simp only [q, if_false, not_false_eq_true, false_implies, true_implies, true_and, and_true]
      exact ⟨⟨s2, z_v0, uu36 h16, z_v0, uu37 h16, uu29 h16, l.2.1⟩, rfl, l.1, l.2.2.1⟩
  obtain ⟨P1, _, _, P4, P5, P6⟩ := P50
  -- the failure
  have F : z_Y m 0 u = 0 → (z_Y m 29 u = 1 → p_56 k (nI u) 1 0 M ∧ p_182 (nI u) 1 m ∧ p_59 k (nI u) 1 (m_56 k (nI u) 1 0 M) ∧ p_193 (nI u) 1 (m_182 (nI u) 1 m) ∧ z_R 99 b k c t B (m_59 k (nI u) 1 (m_56 k (nI u) 1 0 M)) (m_193 (nI u) 1 (m_182 (nI u) 1 m)) ∧ z_X m (m_193 (nI u) 1 (m_182 (nI u) 1 m)) ∧ z_Y (m_193 (nI u) 1 (m_182 (nI u) 1 m)) 29 u = 0)
      ∧ (¬ z_Y m 29 u = 1 → p_59 k (nI u) 1 M ∧ p_193 (nI u) 1 m ∧ z_R 99 b k c t B (m_59 k (nI u) 1 M) (m_193 (nI u) 1 m)) := fun hk0 => by
    refine ⟨fun q => ?_, fun q => ?_⟩
    · obtain ⟨b1, b2, b3, b4⟩ := h.br hu (Or.inl q) 1 (by decide)
      have st1 : z_Y (m_182 (nI u) 1 m) 28 u = 1 := by
        have e0 : z_Y (z_en m u 1) 28 u = z_Y m 28 u := by unfold z_en; rw [z_up1 _ _ _ _ (by omega) (by omega) (by omega), z_up1 _ _ _ _ (by omega) (by omega) (by omega), z_up1 _ _ _ _ (by omega) (by omega) (by omega)]
        rcases (b4 u).2.1 with z | z
        · exact z.trans (e0.trans hst)
        · rw [e0, hst] at z; exact absurd z.1 (by decide)
      obtain ⟨g1, g2, g3, g4, _⟩ := b3.ext hx hu (Or.inl st1) 1
      obtain ⟨g5, g6⟩ := g4 (by rw [st1]; decide)
      have j0 : z_Y (m_182 (nI u) 1 m) 29 u = 0 := by
        rcases (b4 u).1 with z | z
        · exact z.1.trans (z_enJ m u 1)
        · exact z
      have jx : ∀ w, z_jr (m_193 (nI u) 1 (m_182 (nI u) 1 m)) w = z_jr (m_182 (nI u) 1 m) w := fun w => by
        rw [g6, g3, z_jrst, j0, if_neg zn_02, if_neg zn_03]; by_cases e : w = u <;> simp [e]
      refine ⟨b1, b2, g1, g5, by rw [g6]; exact g2, ?_, (congrArg Prod.fst (jx u)).trans j0⟩
      exact (((z_Z.en m u 1).tr b4).xx).tr (z_X.of jx)
    · obtain ⟨g1, g2, g3, g4, _⟩ := h.ext hx hu (Or.inl hst) 1
      obtain ⟨g5, g6⟩ := g4 (by rw [hst]; decide)
      exact ⟨g1, g5, by rw [g6]; exact g2⟩
  unfold p_52 m_52 p_52_17 m_52_17 p_181 m_181
  rw [h.1.ty h.2 hu]
  simp only [z_cl h16, e38, q2, of0 _ h16, of38 _ h16, of14 _ h16, of29 _ h16, ea, forall_eq, nwc]
  by_cases hk0 : z_Y m 0 u = 0
  · obtain ⟨F1, F2⟩ := F hk0
    simp only [hk0, ef, if_true, not_true_eq_false, false_implies, true_implies, true_and] at q1 ⊢
    by_cases hf : nI f0 < nI a
    · by_cases q : z_Y m 29 u = 1
      · simp only [q, if_true, not_true_eq_false, false_implies, true_implies, true_and] at P4 P5 P6
        simp only [hf, q, if_true, not_true_eq_false, false_implies, true_implies, true_and, and_true]
        exact ⟨⟨z_W.pty M k (nI u), z_i16 h16, q1, s1, z_i16 h16, P4⟩, ⟨uu0 h16, uu38 h16, uu14 h16, P1⟩, P5, P6⟩
      · simp only [q, if_false, not_false_eq_true, false_implies, true_implies, true_and] at P4 P5 P6
        simp only [hf, q, if_true, if_false, not_true_eq_false, not_false_eq_true, false_implies, true_implies, true_and, and_true]
        exact ⟨⟨z_W.pty M k (nI u), z_i16 h16, q1, s1, z_i16 h16, P4⟩, ⟨uu0 h16, uu38 h16, uu14 h16, P1⟩, P5⟩
    · by_cases q : z_Y m 29 u = 1
      · obtain ⟨G1, G2, G3, G4, G5, G6⟩ := F1 q
        simp only [hf, q, z_10, if_true, if_false, not_true_eq_false, not_false_eq_true, false_implies, true_implies, true_and, and_true]
        exact ⟨⟨z_W.pty M k (nI u), z_i16 h16, q1, G1, G3⟩, ⟨uu0 h16, uu38 h16, uu14 h16, uu29 h16, G2, G4⟩, G5, G6⟩
      · obtain ⟨G1, G2, G3⟩ := F2 q
        simp only [hf, q, if_true, if_false, not_true_eq_false, not_false_eq_true, false_implies, true_implies, true_and, and_true]
        exact ⟨⟨z_W.pty M k (nI u), z_i16 h16, q1, G1⟩, ⟨uu0 h16, uu38 h16, uu14 h16, uu29 h16, G2⟩, G3⟩
  · have hf : (0 : Int32) < nI a := by
      obtain ⟨a', h1, h2, e⟩ := hk.resolve_left hk0
      have : a' = a := (z_eq (by omega) (by omega)).mp (e.symm.trans ea)
      subst this
      exact (z_lt (a := 0) (by omega) (by omega)).mpr (by omega)
    simp only [hk0, hf, if_true, if_false, not_true_eq_false, not_false_eq_true, false_implies, true_implies, true_and, and_true] at q1 ⊢
    by_cases q : z_Y m 29 u = 1
    · simp only [q, if_true, not_true_eq_false, false_implies, true_implies, true_and] at P4 P5 P6
      simp only [q, if_true, not_true_eq_false, false_implies, true_implies, true_and, and_true]
      exact ⟨⟨z_W.pty M k (nI u), z_i16 h16, q1, s1, z_i16 h16, P4⟩, ⟨uu0 h16, P1⟩, P5, P6⟩
    · simp only [q, if_false, not_false_eq_true, false_implies, true_implies, true_and] at P4 P5 P6
      simp only [q, if_false, not_false_eq_true, false_implies, true_implies, true_and, and_true]
      exact ⟨⟨z_W.pty M k (nI u), z_i16 h16, q1, s1, z_i16 h16, P4⟩, ⟨uu0 h16, P1⟩, P5⟩
end ZS
