/-! the limit; running a job to start; RUNNING JOBS -/
section ZU
variable {k c t B B' u v a b s x n : Nat} {M m M' m' m'' : ux_M}
theorem z_lml (hu16 : u < 16) : ∀ (n f f' i : Nat) (M m : ux_M), i + n = c → n < f → n < f' → z_R 99 b k c t B M m →
    p_83_22 f k (nI u) (nI i) M ∧ p_227_22 f' (nI u) (nI i) m ∧ z_R 99 b k c t B (m_83_22 f k (nI u) (nI i) M) (m_227_22 f' (nI u) (nI i) m) ∧ z_X m (m_227_22 f' (nI u) (nI i) m) := by
  intro n
  induction n with
  | zero =>
    intro f f' i M m hi hf hf' h
    obtain ⟨f, rfl⟩ : ∃ g, f = g + 1 := ⟨f - 1, by omega⟩
    obtain ⟨f', rfl⟩ : ∃ g, f' = g + 1 := ⟨f' - 1, by omega⟩
    have hle := z_yle (show c ≤ i by omega) (by have := h.1.le; omega)
    rw [p_83_22, p_227_22, m_83_22, m_227_22, h.1.cnt, z_c1, h.1.cn, if_pos hle, if_pos hle]
    exact ⟨⟨fun _ => trivial, fun z => absurd hle z⟩, ⟨z_v1, fun _ => trivial, fun z => absurd hle z⟩, h, z_X.rf⟩
  | succ n ih =>
    intro f f' i M m hi hf hf' h
    obtain ⟨f, rfl⟩ : ∃ g, f = g + 1 := ⟨f - 1, by omega⟩
    obtain ⟨f', rfl⟩ : ∃ g, f' = g + 1 := ⟨f' - 1, by omega⟩
    have hic : i < c := by omega
    have hi16 := h.1.u16 hic
    have hc := h.1.le
    have hle := z_nle hic h.1.le
    have r := ih f f' (i + 1) M m (by omega) (by omega) (by omega) h
    rw [p_83_22, p_227_22, m_83_22, m_227_22]
    simp only [h.1.cnt, h.1.cn, z_c1, hle, if_false, not_false_eq_true, true_implies, false_implies, true_and, z_cl hi16, h.1.sv hic, h.1.d28 hic, of0 _ hi16, of20 _ hi16, of28 _ hi16, of29 _ hi16, pu32 _ _ hi16, z_nx, forall_eq]
    by_cases q : z_Y m 20 i = nI u
    · have hk : z_Y m 0 i = 1 := Classical.byContradiction (fun z => by
        have := h.1.nk hic z
        rw [q] at this
        have e : (nI u : Int32) < 0 := by rw [this]; decide
        exact nI_pos (by omega) e)
      by_cases q2 : z_Y m 28 i = 2
      · obtain ⟨a1, a2, a3, hA⟩ := h.e1 hic 4 (Or.inr rfl) (Or.inl (by omega))
        have h3 := a3.w32 hic 3
        obtain ⟨c1, c2, c3, c4⟩ := h3.cj hic
        have r2 := ih f f' (i + 1) _ _ (by omega) (by omega) (by omega) c3
        have X1 : z_X m (if z_Y (z_P (m_190 (nI i) 4 m) 32 i 3) 29 i = 0 then z_P (m_190 (nI i) 4 m) 32 i 3 else m_214 (nI i) (z_P (m_190 (nI i) 4 m) 32 i 3)) :=
          (z_X.of (fun w => by rw [z_jrP _ _ _ _ _ (by omega) (by omega) (by omega), z_jrA hA])).tr c4.xx
        simp only [q, q2, hk, if_true, not_true_eq_false, false_implies, true_implies, true_and, and_true]
        by_cases j0 : z_Y (z_P (m_190 (nI i) 4 m) 32 i 3) 29 i = 0
        · simp only [j0, if_true, not_true_eq_false, false_implies, true_implies, and_true] at r2 X1 ⊢
          exact ⟨⟨z_i16 hi16, z_i16 hi16, a1, z_i16 hi16, c1, r2.1⟩, ⟨z_v1, uu0 hi16, uu20 hi16, uu28 hi16, a2, uu32 hi16, uu29 hi16, r2.2.1⟩, r2.2.2.1, X1.tr r2.2.2.2⟩
        · simp only [j0, if_false, not_false_eq_true, false_implies, true_implies, true_and] at r2 X1 c2 ⊢
          exact ⟨⟨z_i16 hi16, z_i16 hi16, a1, z_i16 hi16, c1, r2.1⟩, ⟨z_v1, uu0 hi16, uu20 hi16, uu28 hi16, a2, uu32 hi16, uu29 hi16, c2, r2.2.1⟩, r2.2.2.1, X1.tr r2.2.2.2⟩
      · simp only [q, q2, hk, if_true, if_false, not_true_eq_false, not_false_eq_true, false_implies, true_implies, true_and, and_true]
        exact ⟨⟨z_i16 hi16, z_i16 hi16, r.1⟩, ⟨z_v1, uu0 hi16, uu20 hi16, uu28 hi16, r.2.1⟩, r.2.2⟩
    · simp only [q, if_false, not_false_eq_true, false_implies, true_implies, true_and, and_true]
      by_cases hk : z_Y m 0 i = 1
      · simp only [hk, if_true, not_true_eq_false, false_implies, true_implies, true_and]
        exact ⟨⟨z_i16 hi16, r.1⟩, ⟨z_v1, uu0 hi16, uu20 hi16, r.2.1⟩, r.2.2⟩
      · simp only [hk, if_false, not_false_eq_true, false_implies, true_implies, and_true]
        exact ⟨⟨z_i16 hi16, r.1⟩, ⟨z_v1, uu0 hi16, r.2.1⟩, r.2.2⟩
/-- failByLimit, hitsLimit -/
theorem z_R.lim (h : z_R 99 b k c t B M m) (hu : u < c) (hj : z_Y m 29 u = 1 ∨ z_Y m 29 u = 3) : p_83 k (nI u) M ∧ p_227 (nI u) m ∧ z_R 99 b k c t B (m_83 k (nI u) M) (m_227 (nI u) m) ∧ z_X m (m_227 (nI u) m) ∧ z_Y (m_227 (nI u) m) 29 u = 0 := by
  have h16 := h.1.u16 hu
  have hc := h.1.le
  have hfu : c < ux_fuel := by have := z_fuel; omega
  obtain ⟨b1, b2, b3, b4⟩ := h.br hu hj 3 (by decide)
  obtain ⟨a1, a2, a3, hA⟩ := b3.e1 hu 4 (Or.inr rfl) (Or.inl (by omega))
  have h3 := a3.w32 hu 3
  have l := z_lml (b := b) (k := k) (t := t) (B := B) h16 c ux_fuel ux_fuel 0 _ _ (by omega) hfu hfu h3
  have X0 : z_X m (z_P (m_190 (nI u) 4 (m_182 (nI u) 3 m)) 32 u 3) := ((z_Z.en m u 3).tr b4).xx.tr (z_X.of (fun w => by rw [z_jrP _ _ _ _ _ (by omega) (by omega) (by omega), z_jrA hA]))
  have j0 : z_Y (m_182 (nI u) 3 m) 29 u = 0 := by
    rcases (b4 u).1 with z | z
    · exact z.1.trans (z_enJ m u 3)
    · exact z
  unfold p_83 m_83 p_227 m_227
  simp only [z_cl h16, forall_eq, pu32 _ _ h16]
  refine ⟨⟨b1, a1, z_i16 h16, l.1⟩, ⟨b2, a2, uu32 h16, l.2.1⟩, l.2.2.1, X0.tr l.2.2.2, ?_⟩
  rcases l.2.2.2 u with z | z
  · refine (congrArg Prod.fst z).trans ?_
    show z_Y (z_P (m_190 (nI u) 4 (m_182 (nI u) 3 m)) 32 u 3) 29 u = 0
    rw [z_up1 _ _ _ _ (by omega) (by omega) (by omega), z_entY hA (by omega) (by omega) (by omega) (by omega) (by omega) (by omega)]; exact j0
  · exact z
/-- A UNIT BEGINS TO START (its job runs) -/
theorem z_R.bs (h : z_R 99 b k c t B M m) (hB : B < 1999999999) (hu : u < c) (hj : z_Y m 29 u = 1) (hst : ¬ z_Y m 28 u = 1) :
    p_85 k (nI u) M ∧ p_228 (nI u) m ∧ z_R 99 b k c t (B + 1) (m_85 k (nI u) M) (m_228 (nI u) m) ∧ z_X m (m_228 (nI u) m) ∧ (z_jr (m_228 (nI u) m) u = z_jr m u ∨ z_Y (m_228 (nI u) m) 29 u = 0) := by
  have h16 := h.1.u16 hu
  have hc := h.1.le
  obtain ⟨a1, a2, a3, hA⟩ := h.ent (Or.inr (by omega)) hu 1 (by simp)
  obtain ⟨a, ha, ea, n1, n2, n3, n4⟩ := a3.1.nb hB hu
  have e38 : m_58 k (nI u) 1 M k 147585 0 u = nI a := (a3.1.d38 hu).trans ea
  have e39 : m_58 k (nI u) 1 M k 180353 0 u = z_Y (m_190 (nI u) 1 m) 39 u := a3.1.d39 hu
  have enw : m_58 k (nI u) 1 M k 16413 0 3 = nI t := a3.1.nw
  have hl9 : a % 9 < 9 := Nat.mod_lt _ (by omega)
  have ix : (nI u * (9 : Int32)) + nI (a % 9) = nI (u * 9 + a % 9) := by
    show Int32.ofNat u * Int32.ofNat 9 + Int32.ofNat (a % 9) = Int32.ofNat _
    rw [← Int32.ofNat_mul, ← Int32.ofNat_add]
  have ixc : (nI (u * 9 + a % 9)).toNatClampNeg = u * 9 + a % 9 := z_cls (by omega)
  have i3 : z_I u b c t (m_229 (nI u) (m_190 (nI u) 1 m)) := by
    intro w hw
    have hAw : ∀ a', a' ∈ z_cr ∨ a' = 29 ∨ a' = 30 → z_A (m_229 (nI u) (m_190 (nI u) 1 m)) w a' = z_A (m_190 (nI u) 1 m) w a' := fun a' ha' => by
      have q : a' < 45 ∧ ¬ a' = 38 ∧ ¬ a' = 39 := by
        rcases ha' with z | z
        · obtain ⟨_, _, _, _, _, z1, z2, _, _, _, _, z3⟩ := z_crn z; exact ⟨z3, z1, z2⟩
        · omega
      rw [z_AY _ _ (by omega), z_AY _ _ (by omega)]; exact n3 a' w q.1 q.2.1 q.2.2
    refine ⟨z_Bk (a3.2 w hw).1 (fun a' z => hAw a' (Or.inl z)) ?_ ?_ ?_, fun q => z_Dk ((a3.2 w hw).2 q) (fun a' z => hAw a' (Or.inl z))⟩
    · rw [hAw 29 (by omega)]; exact (a3.2 w hw).1.2.1
    · rw [hAw 30 (by omega)]; exact (a3.2 w hw).1.2.2.1
    · rw [hAw 29 (by omega), hAw 30 (by omega)]; exact (a3.2 w hw).1.2.2.2.1
  have R3 : z_R u b k c t (B + 1) (ux_set (ux_set (ux_set (m_58 k (nI u) 1 M) k 164993 0 (u * 9 + a % 9) (nI t)) k 147585 0 u (nI (a + 1))) k 180353 0 u (z_Y (m_190 (nI u) 1 m) 39 u + 1)) (m_229 (nI u) (m_190 (nI u) 1 m)) := ⟨n2, i3⟩
  have y28 : z_Y (m_229 (nI u) (m_190 (nI u) 1 m)) 28 u = 1 := (n3 28 u (by omega) (by omega) (by omega)).trans (z_entS hA)
  have y29 : z_Y (m_229 (nI u) (m_190 (nI u) 1 m)) 29 u = 1 := (n3 29 u (by omega) (by omega) (by omega)).trans ((z_entY hA (by omega) (by omega) (by omega) (by omega) (by omega) (by omega) u).trans hj)
  have y0 : z_Y (m_229 (nI u) (m_190 (nI u) 1 m)) 0 u = z_Y m 0 u := (n3 0 u (by omega) (by omega) (by omega)).trans (z_entY hA (by omega) (by omega) (by omega) (by omega) (by omega) (by omega) u)
  have y10 : z_Y (m_229 (nI u) (m_190 (nI u) 1 m)) 10 u = z_Y m 10 u := (n3 10 u (by omega) (by omega) (by omega)).trans (z_entY hA (by omega) (by omega) (by omega) (by omega) (by omega) (by omega) u)
  have jr0 : ∀ w, z_jr (m_229 (nI u) (m_190 (nI u) 1 m)) w = z_jr m w := fun w => by
    refine Eq.trans ?_ (z_jrA hA w)
    unfold z_jr; rw [n3 29 w (by omega) (by omega) (by omega), n3 30 w (by omega) (by omega) (by omega)]
  obtain ⟨q1, q2⟩ := R3.1.q0 hu
  rw [y0, y10] at q2
  obtain ⟨⟨d, hd, ed⟩, _⟩ := h.1.rng hu
  obtain ⟨f1, f2, f3, f4⟩ := R3.ea (by omega) (Or.inl rfl) hu y28 (Or.inr ⟨a + 1, by omega, by omega, n4⟩) (fun _ => Or.inr trivial)
  obtain ⟨f5, f6⟩ := f4 y29
  have nwm : m_229 (nI u) (m_190 (nI u) 1 m) 5 844257 0 0 = nI t := n2.now
  have c38 : ux_set (m_58 k (nI u) 1 M) k 164993 0 (u * 9 + a % 9) (nI t) k 147585 0 u = nI a := by rw [z_so (by omega)]; exact e38
  have c39 : ux_set (ux_set (m_58 k (nI u) 1 M) k 164993 0 (u * 9 + a % 9) (nI t)) k 147585 0 u (nI (a + 1)) k 180353 0 u = z_Y (m_190 (nI u) 1 m) 39 u := by rw [z_so (by omega), z_so (by omega)]; exact e39
  unfold p_85 m_85 p_228 m_228 p_228_31 m_228_31
  simp only [z_cl h16, e38, z_fm (show a < 2000000000 by omega), ix, ixc, enw, forall_eq, c38, c39, z_nx, q2, of0 _ h16, of10 _ h16, y0, y10, z_c0, nwm, pu35 _ _ h16]
  by_cases hk : z_Y m 0 u = 0
  · simp only [hk, ed, if_true, z_pos (show d < 2000000000 by omega), z_e0 (show d < 2000000000 by omega), not_true_eq_false, false_implies, true_implies, true_and]
    by_cases hz : d = 0
    · simp only [hz, if_true, not_true_eq_false, false_implies, true_implies, and_true, true_and]
      exact ⟨⟨a1, z_i16 h16, by decide, z_in (by omega) (by omega), z_i16 h16, z_i16 h16, z_i16 h16, z_i16 h16, q1, f1⟩, ⟨a2, n1, uu0 h16, uu10 h16, f2⟩, f3, (z_X.of jr0).tr f5, Or.inr f6⟩
    · simp only [hz, if_false, not_false_eq_true, false_implies, true_implies, and_true, true_and]
      refine ⟨⟨a1, z_i16 h16, by decide, z_in (by omega) (by omega), z_i16 h16, z_i16 h16, z_i16 h16, z_i16 h16, q1⟩, ⟨a2, n1, uu0 h16, uu10 h16, z_v0, uu35 h16⟩, ?_, z_X.of (fun w => by rw [z_jrP _ _ _ _ _ (by omega) (by omega) (by omega)]; exact jr0 w), Or.inl (by rw [z_jrP _ _ _ _ _ (by omega) (by omega) (by omega)]; exact jr0 u)⟩
      refine R3.du hu _ 99 _ rfl ?_
      have tl := h.1.tl
      have e28 : z_A (m_229 (nI u) (m_190 (nI u) 1 m)) u 28 = 1 := by rw [z_AY _ _ (by omega)]; exact y28
      have e0 : z_A (m_229 (nI u) (m_190 (nI u) 1 m)) u 0 = 0 := by rw [z_AY _ _ (by omega), y0, hk]
      have e10 : z_A (m_229 (nI u) (m_190 (nI u) 1 m)) u 10 = nI d := by rw [z_AY _ _ (by omega), y10, ed]
      have e34 : z_A (m_229 (nI u) (m_190 (nI u) 1 m)) u 34 = nI t := by
        rw [z_AY _ _ (by omega), n3 34 u (by omega) (by omega) (by omega), ← z_AY _ u (show 34 < 56 by omega), hA, if_pos rfl]
        unfold z_bf
        rw [if_neg (by rw [z_AY _ _ (by omega)]; exact hst), if_neg (by omega), if_pos rfl]
      unfold z_Du
      rw [z_upn (show ¬ 28 = 35 by decide), z_upn (show ¬ 34 = 35 by decide), z_upn (show ¬ 10 = 35 by decide), z_upn (show ¬ 0 = 35 by decide), z_upe, e34, e10, e0, e28]
      exact ⟨fun z => absurd z (by decide), fun _ => ⟨rfl, rfl, t + d, z_add t d, Or.inl (by omega), by omega⟩, fun z => absurd z (by decide), fun z => absurd z (by decide), fun z => absurd z (by decide)⟩
  · simp only [hk, if_false, if_true, Int32.le_refl, not_false_eq_true, not_true_eq_false, false_implies, true_implies, true_and, and_true]
    exact ⟨⟨a1, z_i16 h16, by decide, z_in (by omega) (by omega), z_i16 h16, z_i16 h16, z_i16 h16, z_i16 h16, q1, f1⟩, ⟨a2, n1, uu0 h16, f2⟩, f3, (z_X.of jr0).tr f5, Or.inr f6⟩
/-- what a step of running jobs does to the jobs: u's comes nearer to its end -/
def z_st1 (m m' : ux_M) (u : Nat) : Prop := (∀ w, ¬ w = u → z_jr m' w = z_jr m w ∨ z_Y m' 29 w = 0) ∧ (z_Y m' 29 u = 0 ∨ (z_Y m' 29 u = z_Y m 29 u ∧ z_Y m' 30 u = 1) ∨ (z_Y m 29 u = 3 ∧ z_Y m' 29 u = 1 ∧ z_Y m' 30 u = 0))
theorem z_st1.xx (hX : z_X (z_P m 30 u 1) m') : z_st1 m m' u := by
  refine ⟨fun w hw => ?_, ?_⟩
  · rcases hX w with z | z
    · refine Or.inl (z.trans ?_)
      unfold z_jr; rw [z_YP _ _ _ _ (by omega) (by omega), if_neg (by omega), z_YP _ _ _ _ (by omega) (by omega), if_neg (fun y => hw y.2)]
    · exact Or.inr z
  · rcases hX u with z | z
    · have e1 := congrArg Prod.fst z
      have e2 := congrArg Prod.snd z
      unfold z_jr at e1 e2
      simp only at e1 e2
      rw [z_up1 _ _ _ _ (by omega) (by omega) (by omega)] at e1
      rw [z_up2 _ _ _ _ (by omega)] at e2
      exact Or.inr (Or.inl ⟨e1, e2⟩)
    · exact Or.inl z
theorem z_st1.e (hX : z_X m m') (h0 : z_Y m' 29 u = 0) : z_st1 m m' u := ⟨fun w _ => hX w, Or.inl h0⟩
/-- RUNNING A JOB TO START -/
theorem z_R.rsa (h : z_R 99 b k c t B M m) (hB : B < 1999999999) (hu : u < c) (hj : z_Y m 29 u = 1) (h3 : ¬ z_Y m 28 u = 3) :
    p_80 k (nI u) M ∧ p_224 (nI u) (z_Y m 28 u) m ∧ z_R 99 b k c t (B + 1) (m_80 k (nI u) M) (m_224 (nI u) (z_Y m 28 u) m) ∧ z_st1 m (m_224 (nI u) (z_Y m 28 u) m) u := by
  have h16 := h.1.u16 hu
  have hc := h.1.le
  have hj0 : ¬ z_Y m 29 u = 0 := by rw [hj]; decide
  have hE := (h.end hu 0).mono (show B ≤ B + 1 by omega)
  unfold m_57 at hE
  simp only [z_cl h16] at hE
  have hR := h.run hu hj0
  obtain ⟨nd1, nd2, nd3⟩ := z_need h.1 h.2 hu
  obtain ⟨j1, j2, j3, j4, j5⟩ := h.fj hu hj0 2
  unfold z_mh at j3 j4 j5
  rw [if_pos rfl] at j3 j4 j5
  unfold z_en at j2 j3 j4 j5
  have e29 : z_Y (z_P m 30 u 1) 29 u = 1 := by rw [z_up1 _ _ _ _ (by omega) (by omega) (by omega)]; exact hj
  have e28 : z_Y (z_P m 30 u 1) 28 u = z_Y m 28 u := z_up1 _ _ _ _ (by omega) (by omega) (by omega)
  obtain ⟨l1, l2, l3, l4, l5⟩ := h.lim hu (Or.inl hj)
  have jz : z_Y (m_186 (nI u) (m_189 (nI u) (z_P (z_P (z_P m 29 u 0) 30 u 0) 41 u 2))) 29 u = 0 := by
    rcases (j5 u).1 with z | z
    · exact z.1.trans (z_enJ m u 2)
    · exact z
  unfold p_80 m_80 p_80_103 m_80_103 p_224 m_224
  simp only [z_cl h16, h.1.d28 hu, h.1.kd hu, forall_eq, of0 _ h16, of17 _ h16, pu29 _ _ h16, pu30 _ _ h16, pu41 _ _ h16]
  by_cases q2 : z_Y m 28 u = 2
  · simp only [q2, if_true, not_true_eq_false, false_implies, true_implies, and_true, true_and]
    refine ⟨⟨z_i16 h16, z_i16 h16⟩, ⟨uu29 h16, uu30 h16, uu41 h16⟩, hE, z_st1.e (z_Z.en m u 0).xx (z_enJ m u 0)⟩
  · by_cases q1 : z_Y m 28 u = 1
    · simp only [q1, zn_12, if_true, if_false, not_true_eq_false, not_false_eq_true, false_implies, true_implies, and_true, true_and]
      exact ⟨⟨z_i16 h16, z_i16 h16⟩, uu30 h16, hR.mono (by omega), z_st1.xx z_X.rf⟩
    · obtain ⟨g1, g2, g3, g4, g5⟩ := hR.bs hB hu e29 (by rw [e28]; exact q1)
      have gS := z_st1.xx g4
      by_cases qn : r_225 (nI u) m = 0
      · have qn' := nd3.mpr qn
        simp only [q2, q1, qn, qn', if_true, if_false, not_true_eq_false, not_false_eq_true, false_implies, true_implies, and_true, true_and]
        exact ⟨⟨z_i16 h16, z_i16 h16, nd1, j1⟩, ⟨nd2, uu29 h16, uu30 h16, uu41 h16, j2 rfl, j3⟩, j4.mono (by omega), z_st1.e ((z_Z.en m u 2).tr j5).xx jz⟩
      · have qn' : ¬ r_81 k (nI u) M = 0 := fun z => qn (nd3.mp z)
        by_cases hk : z_Y m 0 u = 0
        · obtain ⟨s1, s2, s3⟩ := z_rec h.1 (by omega) hu hk
          obtain ⟨b1, b2⟩ := h.1.q7 hu
          rw [if_pos hk] at b2
          simp only [q2, q1, qn, qn', hk, s3, b2, if_true, if_false, not_true_eq_false, not_false_eq_true, false_implies, true_implies, and_true, true_and]
          by_cases ql : r_226 (nI u) m < z_Y m 17 u
          · simp only [ql, if_true, not_true_eq_false, false_implies, true_implies, and_true, true_and]
            exact ⟨⟨z_i16 h16, z_i16 h16, nd1, z_i16 h16, s1, b1, g1⟩, ⟨nd2, uu0 h16, s2, uu17 h16, uu30 h16, g2⟩, g3, gS⟩
          · simp only [ql, if_false, not_false_eq_true, false_implies, true_implies, and_true, true_and]
            exact ⟨⟨z_i16 h16, z_i16 h16, nd1, z_i16 h16, s1, b1, l1⟩, ⟨nd2, uu0 h16, s2, uu17 h16, l2⟩, l3.mono (by omega), z_st1.e l4 l5⟩
        · simp only [q2, q1, qn, qn', hk, if_true, if_false, not_true_eq_false, not_false_eq_true, false_implies, true_implies, and_true, true_and]
          exact ⟨⟨z_i16 h16, z_i16 h16, nd1, z_i16 h16, g1⟩, ⟨nd2, uu0 h16, uu30 h16, g2⟩, g3, gS⟩
end ZU
