/-! THE CALLS THAT ACT: connect -/
section ZX6
variable {k c t B B' b u n s x : Nat} {M M' M1 M2 C m m' : ux_M} {y z v w j : Int32} {f : Nat → Int32}
theorem z_R.w37 (h : z_R 99 16 k c t B M m) (hu : u < c) (hst : z_Y m 28 u = 2) : z_R 99 16 k c t B (ux_set M k 131201 0 u (nI t)) (z_P m 37 u (nI t)) := by
  have tl := h.1.tl
  refine ⟨h.1.wr (a := 37) (s := 131201) (List.mem_of_getElem? (i := 4) rfl) (by omega) hu (nI t), h.2.one _ (fun w => z_AP m 37 u w _ (by omega)) 99 (.inr (.inl rfl)) (fun hu => ?_) (fun hu q => ?_)⟩
  · obtain ⟨b1, b2, b3, b4, b5, b6, b7, b8⟩ := (h.2 u hu).1
    unfold z_Bu
    simp only [z_upn (show ¬ 28 = 37 by decide), z_upn (show ¬ 29 = 37 by decide), z_upn (show ¬ 30 = 37 by decide), z_upn (show ¬ 31 = 37 by decide), z_upe, z_upn (show ¬ 0 = 37 by decide), z_upn (show ¬ 34 = 37 by decide), z_upn (show ¬ 42 = 37 by decide)]
    exact ⟨b1, b2, b3, b4, b5, b6, b7, t, Nat.le_refl _, rfl⟩
  · have d := (h.2 u hu).2 q
    unfold z_Du at d ⊢
    simp only [z_upn (show ¬ 28 = 37 by decide), z_upn (show ¬ 35 = 37 by decide), z_upn (show ¬ 0 = 37 by decide), z_upn (show ¬ 34 = 37 by decide), z_upn (show ¬ 10 = 37 by decide), z_upn (show ¬ 11 = 37 by decide), z_upn (show ¬ 16 = 37 by decide), z_upn (show ¬ 36 = 37 by decide), z_upn (show ¬ 12 = 37 by decide), z_upe, z_upn (show ¬ 19 = 37 by decide)]
    obtain ⟨d1, d2, d3, d4, d5⟩ := d
    refine ⟨d1, d2, d3, d4, fun e => ⟨(d5 e).1, fun e0 => ?_⟩⟩
    obtain ⟨f1, f2, f3⟩ := (d5 e).2 e0
    refine ⟨f1, f2, fun e19 => ?_⟩
    obtain ⟨_, _, _, _, _, _, _, _, _, n19, l19, en⟩ := h.1.rng hu
    rw [z_AY _ _ (by omega), en] at e19 ⊢
    refine ⟨t + n19, z_add _ _, .inl ?_, by omega⟩
    have : ¬ n19 = 0 := fun z => e19 (by rw [z]; rfl)
    omega
theorem z_R.w43 (h : z_R x b k c t B M m) (hu : u < c) (v : Int32) : z_R x b k c t B (ux_set M k 229505 0 u v) (z_P m 43 u v) := h.wr (List.mem_of_getElem? (i := 10) rfl) (by omega) hu v
theorem z_R.w44 (h : z_R x b k c t B M m) (hu : u < c) (v : Int32) : z_R x b k c t B (ux_set M k 245889 0 u v) (z_P m 44 u v) := h.wr (List.mem_of_getElem? (i := 11) rfl) (by omega) hu v
/-- a start for a connection -/
theorem z_R.sfc (h : z_R 99 16 k c t B M m) (hs : s < c) : p_117 k (nI s) M ∧ (z_Y m 28 s = 0 → p_268_98 (nI s) m) ∧ (¬ z_Y m 28 s = 0 → (¬ z_Y m 28 s = 4 → p_268_103 (nI s) 0 m) ∧ (z_Y m 28 s = 4 → p_268_98 (nI s) m))
    ∧ r_268_98 (nI s) m = 1 ∧ r_268_103 (nI s) 0 m = 1 ∧ z_R 99 16 k c t B (m_117 k (nI s) M) (if z_Y m 28 s = 0 then m_268_98 (nI s) m else if z_Y m 28 s = 4 then m_268_98 (nI s) m else m_268_103 (nI s) 0 m) := by
  have s16 := h.1.u16 hs
  have s32 : s < 32 := by omega
  have d28 := h.1.d28 hs
  have ty := h.1.ty h.2 hs
  obtain ⟨o1, o2, o3, o4, o5, o6⟩ := z_order h hs 1 (.inl rfl) 0
  have n10 : ¬ (1 : Int32) = 0 := by decide
  have jk := h.1.jk s32
  have mk : (bt (M k 16413 0 4) s = false) ↔ z_Y m 31 s = 0 := by
    rw [jk]
    rcases h.2.mk hs with q | q <;> rw [q] <;> simp [hs]
  have r103 : ∀ z0, r_268_103 (nI s) z0 m = 1 := fun z0 => by unfold r_268_103; simp only [ite_self]
  have e103 : m_268_103 (nI s) 0 m = m := by unfold m_268_103; simp only [if_true, ite_self]
  have p103 : p_268_103 (nI s) 0 m := by
    unfold p_268_103; exact ⟨uu29 s16, fun _ => trivial, fun _ => ⟨uu31 s16, fun _ => trivial, fun _ => ⟨fun _ => trivial, fun z => absurd rfl z⟩⟩⟩
  have p98 : p_268_98 (nI s) m := by
    unfold p_268_98 p_268_103; exact ⟨uu29 s16, fun _ => trivial, fun _ => ⟨uu31 s16, fun _ => trivial, fun _ => ⟨fun _ => trivial, fun _ => ⟨o2, fun _ => trivial, o3⟩⟩⟩⟩
  have p24 : ∀ z0, p_117_24 k (nI s) z0 M := fun z0 => by
    unfold p_117_24 p_53 p_54; exact ⟨fun _ => trivial, fun _ => ⟨trivial, fun _ => trivial, fun _ => ⟨fun _ => trivial, fun _ => o1⟩⟩⟩
  have up : z_R 99 16 k c t B (m_117_19 k (nI s) M) (m_268_98 (nI s) m) := by
    unfold m_117_19 m_117_24 m_268_98 m_268_103
    rw [ty, of29 _ s16, of31 _ s16, if_neg n10, if_neg n10]
    simp only [z_shr _ s32, mk]
    by_cases q : z_Y m 29 s = 0
    · rw [if_pos q, if_pos q]
      by_cases q2 : z_Y m 31 s = 0
      · rw [if_pos q2, if_pos q2]; exact o5
      · rw [if_neg q2, if_neg q2]; exact h
    · rw [if_neg q, if_neg q]; exact h
  have dn : m_117_24 k (nI s) 0 M = M := by unfold m_117_24; rw [if_pos rfl]
  refine ⟨?_, fun _ => p98, fun _ => ⟨fun _ => p103, fun _ => p98⟩, r103 1, r103 0, ?_⟩
  · unfold p_117 p_117_19; exact ⟨z_i16 s16, fun _ => p24 1, fun _ => ⟨z_i16 s16, fun _ => p24 0, fun _ => p24 1⟩⟩
  · unfold m_117; rw [z_cl s16, d28]
    by_cases q : z_Y m 28 s = 0
    · rw [if_pos q, if_pos q]; exact up
    · rw [if_neg q, if_neg q]
      by_cases q4 : z_Y m 28 s = 4
      · rw [if_pos q4, if_pos q4]; exact up
      · rw [if_neg q4, if_neg q4, dn, e103]; exact h
/-- one connection -/
theorem z_R.con (h : z_R 99 16 k c t B M m) (hu : u < c) (hk : M k 360577 0 u = 1) (hs : s < c) (hsv : M k 426113 0 u = nI s) :
    ∃ (X : ux_M) (a : Nat), (a = 0 ∨ a = 1) ∧ z_R 99 16 k c t B X (m_268 (nI u) m) ∧ p_268 (nI u) m ∧ r_268 (nI u) m = nI a ∧ z_fA k M X
      ∧ ∀ (f N i acc : Nat), i < N → N < 1000 → (p_116_33 f k (nI u) (nI N) (nI s) (nI (acc + a)) (nI (i + 1)) X → p_116_33 (f + 1) k (nI u) (nI N) (nI s) (nI acc) (nI i) M)
        ∧ r_116_33 (f + 1) k (nI u) (nI N) (nI s) (nI acc) (nI i) M = r_116_33 f k (nI u) (nI N) (nI s) (nI (acc + a)) (nI (i + 1)) X
        ∧ m_116_33 (f + 1) k (nI u) (nI N) (nI s) (nI acc) (nI i) M = m_116_33 f k (nI u) (nI N) (nI s) (nI (acc + a)) (nI (i + 1)) X := by
  have u16 := h.1.u16 hu
  have s16 := h.1.u16 hs
  have e0 : z_Y m 0 u = 1 := (h.1.kd hu).symm.trans hk
  have e20 : z_Y m 20 u = nI s := (h.1.sv hu).symm.trans hsv
  have d28 := h.1.d28 hs
  have d42 := h.1.d42 hu
  have d43 := h.1.d43 hu
  have d44 := h.1.d44 hu
  have bl := h.1.bl hu
  have nw := h.1.nw
  have nle : ∀ N i : Nat, i < N → N < 1000 → ¬ nI N ≤ nI i := fun N i h1 h2 z => by have := (z_le (by omega) (by omega)).mp z; omega
  by_cases q : z_Y m 28 s = 2
  · -- it is accepted
    have hX := (h.w43 hu (z_Y m 43 u + 1)).w37 hs (by rw [z_YP _ _ _ _ (by omega) (by omega), if_neg (by omega)]; exact q)
    have now : z_P m 43 u (z_Y m 43 u + 1) 5 844257 0 0 = nI t := (z_Yc m 43 u _ (.inr (.inr (by omega)))).trans h.1.now
    have nwX : (ux_set M k 229505 0 u (z_Y m 43 u + 1)) k 16413 0 3 = nI t := (z_so (by decide)).trans nw
    have mr : m_268 (nI u) m = z_P (z_P m 43 u (z_Y m 43 u + 1)) 37 s (nI t) := by
      unfold m_268; rw [of20 _ u16, e20, of28 _ s16, if_pos q]
      simp only [of43 _ u16, pu43 _ _ u16, pu37 _ _ s16, z_c0, now]
    refine ⟨_, 1, .inr rfl, by rw [mr]; exact hX, ?_, ?_, z_fA.st (by decide) (z_fA.st (by decide) z_fA.rf), fun f N i acc h1 h2 => ?_⟩
    · unfold p_268; rw [of20 _ u16, e20, of28 _ s16]
      exact ⟨uu20 u16, uu28 s16, fun z => absurd q z, fun _ => ⟨uu43 u16, fun _ _ => ⟨z_v0, uu37 s16⟩⟩⟩
    · unfold r_268; rw [of20 _ u16, e20, of28 _ s16, if_pos q]; rfl
    · rw [p_116_33, r_116_33, m_116_33, if_neg (nle N i h1 h2), if_neg (nle N i h1 h2)]
      simp only [z_cl s16, z_cl u16, d28, d43, nwX, z_nx, forall_eq]
      rw [if_pos q, if_pos q]
      exact ⟨fun z => ⟨fun y => absurd y (nle N i h1 h2), fun _ => ⟨z_i16 s16, fun y => absurd q y, fun _ => ⟨z_i16 u16, z_i16 u16, z_i16 s16, z⟩⟩⟩, rfl, rfl⟩
  · by_cases q2 : z_Y m 42 u < z_Y m 21 u
    · -- it is queued
      have h3 := h.w42 hu (z_Y m 42 u + 1) (.inr e0)
      obtain ⟨f1, f2, f3, f4, f5, f6⟩ := h3.sfc hs
      have mr : m_268 (nI u) m = if z_Y (z_P m 42 u (z_Y m 42 u + 1)) 28 s = 0 then m_268_98 (nI s) (z_P m 42 u (z_Y m 42 u + 1)) else if z_Y (z_P m 42 u (z_Y m 42 u + 1)) 28 s = 4 then m_268_98 (nI s) (z_P m 42 u (z_Y m 42 u + 1)) else m_268_103 (nI s) 0 (z_P m 42 u (z_Y m 42 u + 1)) := by
        unfold m_268; rw [of20 _ u16, e20, of28 _ s16, if_neg q, of42 _ u16, of21 _ u16, if_pos q2]
        simp only [pu42 _ _ u16, of28 _ s16]
      refine ⟨_, 1, .inr rfl, by rw [mr]; exact f6, ?_, ?_, (z_fA.st (by decide) z_fA.rf).tr (fa_117 _ _ _), fun f N i acc h1 h2 => ?_⟩
      · unfold p_268; rw [of20 _ u16, e20, of28 _ s16, of42 _ u16, of21 _ u16]
        simp only [pu42 _ _ u16, of28 _ s16, forall_eq]
        exact ⟨uu20 u16, uu28 s16, fun _ => ⟨uu42 u16, uu21 u16, fun _ => ⟨uu42 u16, uu28 s16, f2, fun z => ⟨uu28 s16, (f3 z).1, (f3 z).2⟩⟩, fun z => absurd q2 z⟩, fun z => absurd z q⟩
      · unfold r_268; rw [of20 _ u16, e20, of28 _ s16, if_neg q, of42 _ u16, of21 _ u16, if_pos q2]
        simp only [pu42 _ _ u16, of28 _ s16, f4, f5, ite_self]; rfl
      · rw [p_116_33, r_116_33, m_116_33, if_neg (nle N i h1 h2), if_neg (nle N i h1 h2)]
        simp only [z_cl s16, z_cl u16, d28, d42, bl, z_nx, forall_eq]
        rw [if_neg q, if_neg q, if_pos q2, if_pos q2]
        exact ⟨fun z => ⟨fun y => absurd y (nle N i h1 h2), fun _ => ⟨z_i16 s16, fun _ => ⟨z_i16 u16, z_i16 u16, fun _ => ⟨z_i16 u16, z_i16 u16, f1, z⟩, fun y => absurd q2 y⟩, fun y => absurd y q⟩⟩, rfl, rfl⟩
    · -- it is lost
      have hX := h.w44 hu (z_Y m 44 u + 1)
      have mr : m_268 (nI u) m = z_P m 44 u (z_Y m 44 u + 1) := by
        unfold m_268; rw [of20 _ u16, e20, of28 _ s16, if_neg q, of42 _ u16, of21 _ u16, if_neg q2]
        simp only [of44 _ u16, pu44 _ _ u16]
      refine ⟨_, 0, .inl rfl, by rw [mr]; exact hX, ?_, ?_, z_fA.st (by decide) z_fA.rf, fun f N i acc h1 h2 => ?_⟩
      · unfold p_268; rw [of20 _ u16, e20, of28 _ s16, of42 _ u16, of21 _ u16]
        exact ⟨uu20 u16, uu28 s16, fun _ => ⟨uu42 u16, uu21 u16, fun z => absurd z q2, fun _ => uu44 u16⟩, fun z => absurd z q⟩
      · unfold r_268; rw [of20 _ u16, e20, of28 _ s16, if_neg q, of42 _ u16, of21 _ u16, if_neg q2]; rfl
      · rw [p_116_33, r_116_33, m_116_33, if_neg (nle N i h1 h2), if_neg (nle N i h1 h2)]
        simp only [z_cl s16, z_cl u16, d28, d42, d44, bl, z_nx, forall_eq]
        rw [if_neg q, if_neg q, if_neg q2, if_neg q2]
        exact ⟨fun z => ⟨fun y => absurd y (nle N i h1 h2), fun _ => ⟨z_i16 s16, fun _ => ⟨z_i16 u16, z_i16 u16, fun y => absurd y q2, fun _ => ⟨z_i16 u16, z_i16 u16, z⟩⟩, fun y => absurd y q⟩⟩, rfl, rfl⟩
theorem z_conl (hu : u < c) (hs : s < c) {N : Nat} (hN : N < 1000) : ∀ (n f f' i acc : Nat) (M m : ux_M), i + n = N → n < f → n < f' → z_R 99 16 k c t B M m → M k 360577 0 u = 1 → M k 426113 0 u = nI s →
    p_116_33 f k (nI u) (nI N) (nI s) (nI acc) (nI i) M ∧ ∃ M' m' : ux_M, (p_218 m' → p_267_64 f' (nI u) (nI N) (nI acc) (nI i) m) ∧ r_116_33 f k (nI u) (nI N) (nI s) (nI acc) (nI i) M = r_267_64 f' (nI u) (nI N) (nI acc) (nI i) m
      ∧ m_116_33 f k (nI u) (nI N) (nI s) (nI acc) (nI i) M = M' ∧ m_267_64 f' (nI u) (nI N) (nI acc) (nI i) m = m_218 m' ∧ z_R 99 16 k c t B M' m' ∧ z_fA k M M' := by
  intro n
  induction n with
  | zero =>
    intro f f' i acc M m hi hf hf' h hk hsv
    obtain ⟨f, rfl⟩ : ∃ g, f = g + 1 := ⟨f - 1, by omega⟩
    obtain ⟨f', rfl⟩ : ∃ g, f' = g + 1 := ⟨f' - 1, by omega⟩
    have hle : nI N ≤ nI i := (z_le (by omega) (by omega)).mpr (by omega)
    rw [p_116_33, r_116_33, m_116_33, p_267_64, r_267_64, m_267_64, if_pos hle, if_pos hle, if_pos hle, if_pos hle]
    exact ⟨⟨fun _ => trivial, fun z => absurd hle z⟩, M, m, fun z => ⟨fun _ => z, fun y => absurd hle y⟩, rfl, rfl, rfl, h, z_fA.rf⟩
  | succ n ih =>
    intro f f' i acc M m hi hf hf' h hk hsv
    obtain ⟨f, rfl⟩ : ∃ g, f = g + 1 := ⟨f - 1, by omega⟩
    obtain ⟨f', rfl⟩ : ∃ g, f' = g + 1 := ⟨f' - 1, by omega⟩
    have hle : ¬ nI N ≤ nI i := fun z => by have := (z_le (by omega) (by omega)).mp z; omega
    obtain ⟨X, a, ha, g1, g2, g3, g4, g5⟩ := h.con hu hk hs hsv
    obtain ⟨c1, c2, c3⟩ := g5 f N i acc (by omega) hN
    obtain ⟨i1, M', m', i2, i3, i4, i5, i6, i7⟩ := ih f f' (i + 1) (acc + a) X (m_268 (nI u) m) (by omega) (by omega) (by omega) g1 ((g4 _ _ _ _ (by omega)).trans hk) ((g4 _ _ _ _ (by omega)).trans hsv)
    rw [p_267_64, r_267_64, m_267_64, if_neg hle, if_neg hle, g3, z_nx, c2, c3]
    have ea0 : nI acc + (0 : Int32) = nI (acc + 0) := z_add acc 0
    have ea1 : nI acc + (1 : Int32) = nI (acc + 1) := z_add acc 1
    rcases ha with rfl | rfl
    · rw [if_pos (show nI 0 = 0 from rfl), if_pos (show nI 0 = 0 from rfl), ea0]
      exact ⟨c1 i1, M', m', fun z => ⟨fun y => absurd y hle, fun _ => ⟨g2, fun _ => i2 z, fun y => absurd rfl y⟩⟩, i3, i4, i5, i6, g4.tr i7⟩
    · rw [if_neg (show ¬ nI 1 = 0 by decide), if_neg (show ¬ nI 1 = 0 by decide), ea1]
      exact ⟨c1 i1, M', m', fun z => ⟨fun y => absurd y hle, fun _ => ⟨g2, fun y => absurd y (by decide), fun _ => i2 z⟩⟩, i3, i4, i5, i6, g4.tr i7⟩
theorem fb_267l : ∀ (f : Nat) (x1 x2 x3 x4 : Int32) (m : ux_M), z_fB m (m_267_64 f x1 x2 x3 x4 m) := by
  intro f
  induction f with
  | zero => intro _ _ _ _ _; exact z_fB.rf
  | succ f ih =>
    intro x1 x2 x3 x4 m
    rw [m_267_64]
    exact z_fB.ite (fb_218 _) (z_fB.ite ((fb_268 _ _).tr (ih _ _ _ _ _)) ((fb_268 _ _).tr (ih _ _ _ _ _)))
/-- connect -/
theorem z_f_115 (h : z_Q n M) (hn : n ≤ 600) (hx : z_iu M y) (hz : z_rg z 1 100) : z_op n M (p_115 y z) (r_115 y z) (m_115 y z) (p_267 y z) (r_267 y z) (m_267 y z) := by
  obtain ⟨c, t, B, u, ht, hB, hR, hs, hc, hu, h16, rfl⟩ := h.un hx
  have n0 : ¬ z < 0 := fun q => hz.1 (by
    rw [Int32.lt_iff_toInt_lt] at q ⊢
    have e0 : (0 : Int32).toInt = 0 := by decide
    have e1 : (1 : Int32).toInt = 1 := by decide
    omega)
  obtain ⟨N, hN, rfl⟩ := nI_of2 (n := 100) (M := 100) (x := z) (by decide) n0 hz.2
  have g := (z_i64g (nI N) 1 100 (L := Int64.ofNat 100) (by decide)).mpr hz
  have fa : z_fA 0 M (m_115 (nI u) (nI N) M) := by
    unfold m_115; exact z_fA.ite (z_fA.ite ((fa_116 _ _ _ _).tr (fa_78 _ _)) z_fA.rf) z_fA.rf
  have row : ∀ i, z_th (m_115 (nI u) (nI N) M) 0 5 844257 0 i = M 5 844257 0 i := fun i => (z_thI i).trans (fa 5 844257 0 i (by omega))
  obtain ⟨e1, e2, e3⟩ := z_235i hc ((fa 5 844257 0 1 (by omega)).trans hR.1.cn) hu
  have hR0 : z_R 99 16 0 c t B M (z_th (m_115 (nI u) (nI N) M) 0) := hR.cg (fun _ _ _ _ => rfl) row
  have hs0 := z_219c hR.1 hR0.1 row hs
  obtain ⟨a1, a2, a3⟩ := z_176a (M := z_th (m_115 (nI u) (nI N) M) 0) z_th6 2
  have kd := hR0.1.kd hu
  have d28 := hR0.1.d28 hu
  have mr : m_267 (nI u) (nI N) (m_115 (nI u) (nI N) M) = if M 0 360577 0 u = 1 then (if M 0 65665 0 u = 2 then m_267_64 ux_fuel (nI u) (nI N) 0 0 (z_th (m_115 (nI u) (nI N) M) 0) else z_th (m_115 (nI u) (nI N) M) 0) else z_th (m_115 (nI u) (nI N) M) 0 := by
    unfold m_267 m_267_26; rw [if_pos e2, if_pos g, e3, if_pos a2, a3, of0 _ h16, of28 _ h16, kd, d28]
  have rr : r_267 (nI u) (nI N) (m_115 (nI u) (nI N) M) = if M 0 360577 0 u = 1 then (if M 0 65665 0 u = 2 then r_267_64 ux_fuel (nI u) (nI N) 0 0 (z_th (m_115 (nI u) (nI N) M) 0) else -7) else -7 := by
    unfold r_267 r_267_26; rw [if_pos e2, if_pos g, e3, if_pos a2, a3, of0 _ h16, of28 _ h16, kd, d28]
  have pp : (M 0 360577 0 u = 1 → M 0 65665 0 u = 2 → p_267_64 ux_fuel (nI u) (nI N) 0 0 (z_th (m_115 (nI u) (nI N) M) 0)) → p_267 (nI u) (nI N) (m_115 (nI u) (nI N) M) := fun q => by
    unfold p_267 p_267_26; rw [e3, a2, a3, of0 _ h16, of28 _ h16, ← kd, ← d28]
    exact ⟨e1, fun z => absurd e2 z, fun _ => ⟨fun _ => ⟨a1, fun _ => ⟨uu0 h16, fun _ => trivial, fun q1 => ⟨uu28 h16, fun q2 => q q1 q2, fun _ => trivial⟩⟩, fun z => absurd rfl z⟩, fun z => absurd g z⟩⟩
  have fb : z_fB (z_th (m_115 (nI u) (nI N) M) 0) (m_267 (nI u) (nI N) (m_115 (nI u) (nI N) M)) := by
    rw [mr]; exact z_fB.ite (z_fB.ite (fb_267l _ _ _ _ _ _) z_fB.rf) z_fB.rf
  by_cases q : M 0 360577 0 u = 1 ∧ M 0 65665 0 u = 2
  · obtain ⟨q1, q2⟩ := q
    obtain ⟨s, hsc, e20, _⟩ := hR0.1.sk hu (kd.symm.trans q1)
    have hsv : M 0 426113 0 u = nI s := (hR0.1.sv hu).trans e20
    obtain ⟨l1, M', m', l2, l3, l4, l5, l6, l7⟩ := z_conl hu hsc (show N < 1000 by omega) N ux_fuel ux_fuel 0 0 M (z_th (m_115 (nI u) (nI N) M) 0) (by omega) (by have := z_fuel; omega) (by have := z_fuel; omega) hR0 q1 hsv
    obtain ⟨j1, j2, j3, j4⟩ := z_R.jobs l6 (by omega)
    have ns : ¬ nI s < 0 := nI_pos (by omega)
    have nc : nI s < nI c := (z_lt (by omega) (by omega)).mpr hsc
    have m116 : m_116 0 (nI u) (nI N) M = M' := by unfold m_116; rw [z_cl h16, hsv, if_neg ns, hR.1.cnt, if_pos nc]; exact l4
    have mc : m_115 (nI u) (nI N) M = m_78 0 M' := by unfold m_115; rw [z_cl h16, if_pos q1, if_pos q2, m116]
    have mr' : m_267 (nI u) (nI N) (m_115 (nI u) (nI N) M) = m_218 m' := by rw [mr, if_pos q1, if_pos q2]; exact l5
    have k4 : z_R 99 16 0 c t (B + 800) (m_115 (nI u) (nI N) M) (m_267 (nI u) (nI N) (m_115 (nI u) (nI N) M)) := by rw [mr', mc]; exact j3
    obtain ⟨d1, d2⟩ := h.act fa fb ⟨c, t, B + 800, ht, by omega, k4, by rw [mr']; exact j4⟩
    refine ⟨?_, pp (fun _ _ => l2 j2), ?_, d1, d2⟩
    · unfold p_115; rw [z_cl h16, m116]
      refine ⟨z_p93 hx, z_p96 hz, z_i16 h16, fun _ => trivial, fun _ => ⟨z_i16 h16, fun _ => ⟨?_, j1⟩, fun _ => trivial⟩⟩
      unfold p_116; rw [z_cl h16, hsv, hR.1.cnt]
      exact ⟨z_i16 h16, fun z => absurd z ns, fun _ => ⟨fun _ => l1, fun z => absurd nc z⟩⟩
    · rw [rr, if_pos q1, if_pos q2]
      have r116 : r_116 0 (nI u) (nI N) M = r_116_33 ux_fuel 0 (nI u) (nI N) (nI s) 0 0 M := by unfold r_116; rw [z_cl h16, hsv, if_neg ns, hR.1.cnt, if_pos nc]
      unfold r_115; rw [z_cl h16, if_pos q1, if_pos q2, r116]; exact l3
  · have mc : m_115 (nI u) (nI N) M = M := by
      unfold m_115; rw [z_cl h16]
      by_cases q1 : M 0 360577 0 u = 1
      · rw [if_pos q1, if_neg (fun z => q ⟨q1, z⟩)]
      · rw [if_neg q1]
    have mr' : m_267 (nI u) (nI N) (m_115 (nI u) (nI N) M) = z_th (m_115 (nI u) (nI N) M) 0 := by
      rw [mr]
      by_cases q1 : M 0 360577 0 u = 1
      · rw [if_pos q1, if_neg (fun z => q ⟨q1, z⟩)]
      · rw [if_neg q1]
    have k4 : z_R 99 16 0 c t B (m_115 (nI u) (nI N) M) (m_267 (nI u) (nI N) (m_115 (nI u) (nI N) M)) := by rw [mr']; exact mc.symm ▸ hR0
    obtain ⟨d1, d2⟩ := h.act fa fb ⟨c, t, B, ht, by omega, k4, by rw [mr']; exact hs0⟩
    refine ⟨?_, pp (fun z1 z2 => absurd ⟨z1, z2⟩ q), ?_, d1, d2⟩
    · unfold p_115; rw [z_cl h16]
      exact ⟨z_p93 hx, z_p96 hz, z_i16 h16, fun _ => trivial, fun z1 => ⟨z_i16 h16, fun z2 => absurd ⟨z1, z2⟩ q, fun _ => trivial⟩⟩
    · rw [rr]; unfold r_115; rw [z_cl h16]
      by_cases q1 : M 0 360577 0 u = 1
      · rw [if_pos q1, if_pos q1, if_neg (fun z => q ⟨q1, z⟩), if_neg (fun z => q ⟨q1, z⟩)]
      · rw [if_neg q1, if_neg q1]
theorem z_g_267 (h : z_Q n M) (hx : ¬ z_iu M y) : z_thr n M (p_267 y z) (m_267 y z) 1 := by
  obtain ⟨e1, e2, e3⟩ := h.o hx
  have e0 : ¬ r_235 y M = 0 := by rw [e2]; decide
  refine .th h ?_ ?_
  · unfold p_267; exact ⟨e1, fun _ => trivial, fun q => absurd q e0⟩
  · unfold m_267; rw [if_neg e0, e3]
theorem z_g_267b (h : z_Q n M) (hx : z_iu M y) (hz : ¬ z_rg z 1 100) : z_thr n M (p_267 y z) (m_267 y z) 2 := by
  obtain ⟨c, t, B, u, ht, hB, hR, hs, hc, hu, h16, rfl⟩ := h.un hx
  obtain ⟨e1, e2, e3⟩ := z_235i hc hR.1.cn hu
  have g := fun q => hz ((z_i64g z 1 100 (L := Int64.ofNat 100) (by decide)).mp q)
  obtain ⟨a1, a2, a3⟩ := z_176b (M := z_th M 0) z_th6 (b := 2) (by decide)
  rw [z_thth] at a3
  have a0 : ¬ r_176 1 2 (z_th M 0) = 0 := by rw [a2]; decide
  refine .th h ?_ ?_
  · unfold p_267 p_267_26; rw [e3]; exact ⟨e1, fun q => absurd e2 q, fun _ => ⟨fun q => absurd q g, fun _ => ⟨a1, fun q => absurd q a0, fun _ => trivial⟩⟩⟩
  · unfold m_267 m_267_26; rw [if_pos e2, if_neg g, e3, if_neg a0, a3]
end ZX6
