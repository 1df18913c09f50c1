/-! THE REFERENCE'S TRANSACTION: BUILDS, whole -/
/-- what is left of a build -/
def z_bd (c T u : Nat) (m m' : ux_M) : Prop := z_fM m m' ∧ (∀ X, m' 5 983073 0 X = m 5 983073 0 X) ∧ z_tv m' ∧ (z_bl m T u = false → ∀ X, z_ad T true X = true → z_V m' X u = true) ∧ (z_ht m' = 0 → ¬ z_hm m T u 1)
  ∧ (∀ v S, v < c → (S = 1 ∨ S = 2 ∨ S = 3) → z_j m' S v = true → (∀ X w, z_rq m c v S (z_e m' S v) X w = true → z_V m' X w = true) ∧ (z_ht m' = 0 → ¬ z_rh m c v S (z_e m' S v)))
  ∧ ∀ P : Nat → Nat → Prop, z_cd m c P → (z_bl m T u = false → ∀ X, z_ad T true X = true → P X u) → (∀ X w, w < 32 → z_V m' X w = true → P X w) ∧ (¬ z_ht m' = 0 → z_hm m T u 1 ∨ z_hP m c P)
section ZC1
variable {k c u T n : Nat} {m m' m'' : ux_M}
def z_pn (x1 x2 : Int32) (m : ux_M) : Prop := p_199 x1 x2 1 (ux_set m 5 819253 0 19 0) ∧ p_198_44 ux_fuel (ux_set (m_199 x1 x2 1 (ux_set m 5 819253 0 19 0)) 5 819253 0 18 1)
noncomputable def z_mn (x1 x2 : Int32) (m : ux_M) : ux_M := m_198_44 ux_fuel (ux_set (m_199 x1 x2 1 (ux_set m 5 819253 0 19 0)) 5 819253 0 18 1)
theorem z_l2 (x1 x2 : Int32) : ∀ (n f T : Nat) (m : ux_M), T + n = 4 → 1 ≤ T → n < f →
    ∃ m', z_fM m m' ∧ (∀ X, m' 5 983073 0 X = m 5 983073 0 X) ∧ (∀ X, m' 5 950305 0 X = if T ≤ X ∧ X < 4 then 0 else m 5 950305 0 X) ∧ (∀ X, m' 5 966689 0 X = if T ≤ X ∧ X < 4 then 0 else m 5 966689 0 X)
      ∧ (z_pn x1 x2 m' → p_198_2 f x1 x2 (nI T) m) ∧ m_198_2 f x1 x2 (nI T) m = z_mn x1 x2 m' := by
  intro n
  induction n with
  | zero =>
    intro f T m hT h1 hf
    obtain ⟨f, rfl⟩ : ∃ g, f = g + 1 := ⟨f - 1, by omega⟩
    have hlt : (3 : Int32) < nI T := (z_lt (a := 3) (by omega) (by omega)).mpr (by omega)
    rw [p_198_2, m_198_2, if_pos hlt]
    refine ⟨m, z_fM.rf, fun _ => rfl, fun X => ?_, fun X => ?_, fun q => ⟨fun _ M2 e => ?_, fun y => absurd hlt y⟩, rfl⟩
    · rw [if_neg (by omega)]
    · rw [if_neg (by omega)]
    · subst e; exact ⟨q.1, fun M5 e => by subst e; exact q.2⟩
  | succ n ih =>
    intro f T m hT h1 hf
    obtain ⟨f, rfl⟩ : ∃ g, f = g + 1 := ⟨f - 1, by omega⟩
    have hlt : ¬ (3 : Int32) < nI T := fun q => by have := (z_lt (a := 3) (by omega) (by omega)).mp q; omega
    have k4 : vp_in (nI T) 4 := z_k4 (by omega)
    have eT : (nI T).toNatClampNeg = T := z_cl (by omega)
    rw [p_198_2, m_198_2, if_neg hlt]
    simp only [eT, z_nx]
    obtain ⟨m', r1, r2, r3, r4, r5, r6⟩ := ih f (T + 1) (ux_set (ux_set m 5 950305 0 T 0) 5 966689 0 T 0) (by omega) (by omega) (by omega)
    refine ⟨m', ((z_fM.rf.st _ _ _ (by omega)).st _ _ _ (by omega)).tr r1, fun X => (r2 X).trans ?_, fun X => (r3 X).trans ?_, fun X => (r4 X).trans ?_, fun q => ⟨fun y => absurd y hlt, fun _ => ⟨k4, fun M6 e => ?_⟩⟩, r6⟩
    · rw [z_so (by decide), z_so (by decide)]
    · by_cases q : X = T
      · subst q; rw [if_neg (by omega), if_pos (by omega), z_so (by decide), z_ss]
      · rw [z_so (by decide), z_si q]
        by_cases y : T + 1 ≤ X ∧ X < 4
        · rw [if_pos y, if_pos (by omega)]
        · rw [if_neg y, if_neg (by omega)]
    · by_cases q : X = T
      · subst q; rw [if_neg (by omega), if_pos (by omega), z_ss]
      · rw [z_si q, z_so (by decide)]
        by_cases y : T + 1 ≤ X ∧ X < 4
        · rw [if_pos y, if_pos (by omega)]
        · rw [if_neg y, if_neg (by omega)]
    · subst e; exact ⟨k4, fun M7 e => by subst e; exact r5 q⟩
/-- BUILDS -/
theorem z_198 (hT : T = 1 ∨ T = 2 ∨ T = 3) (hu : u < c) (hc : c ≤ 16) (hm : m 5 844257 0 1 = nI c) : p_198 (nI u) (nI T) m ∧ z_bd c T u m (m_198 (nI u) (nI T) m) := by
  obtain ⟨m1, r1, r2, r3, r4, r5, r6⟩ := z_l2 (nI u) (nI T) 3 ux_fuel 1 m (by omega) (by omega) (by have := z_fuel; omega)
  have f2 : z_fM m1 (ux_set m1 5 819253 0 19 0) := z_fM.rf.st _ _ _ (by omega)
  have b2 : ∀ X, ux_set m1 5 819253 0 19 0 5 983073 0 X = m1 5 983073 0 X := fun X => z_so (by decide)
  have j0 : ∀ X w, 1 ≤ X → X < 4 → z_j (ux_set m1 5 819253 0 19 0) X w = false := fun X w h1 h2 => by unfold z_j; rw [z_so (by decide), r3, if_pos (by omega), b_0]
  have e0 : ∀ X w, 1 ≤ X → X < 4 → z_e (ux_set m1 5 819253 0 19 0) X w = false := fun X w h1 h2 => by unfold z_e; rw [z_so (by decide), r4, if_pos (by omega), b_0]
  have tv2 : z_tv (ux_set m1 5 819253 0 19 0) := fun w hw => by
    rw [j0 1 w (by omega) (by omega), j0 2 w (by omega) (by omega), j0 3 w (by omega) (by omega), e0 1 w (by omega) (by omega), e0 2 w (by omega) (by omega), e0 3 w (by omega) (by omega)]
    exact ⟨rfl, rfl, fun h => h, fun h => h, fun _ => ⟨rfl, rfl, rfl⟩⟩
  have V0 : ∀ X w, z_V (ux_set m1 5 819253 0 19 0) X w = false := fun X w => by
    match X with
    | 0 => simp only [z_V]; rw [j0 1 w (by omega) (by omega), j0 3 w (by omega) (by omega)]; rfl
    | 1 => simp only [z_V]; rw [j0 3 w (by omega) (by omega)]
    | 2 => simp only [z_V]; rw [j0 2 w (by omega) (by omega)]
    | 3 => simp only [z_V]; rw [e0 1 w (by omega) (by omega), e0 3 w (by omega) (by omega)]; rfl
    | 4 => simp only [z_V]; rw [e0 2 w (by omega) (by omega)]
    | n + 5 => rfl
  have h0 : z_ht (ux_set m1 5 819253 0 19 0) = 0 := by unfold z_ht; rw [z_ss]
  have fm := r1.tr f2
  have bm : ∀ X, ux_set m1 5 819253 0 19 0 5 983073 0 X = m 5 983073 0 X := fun X => (b2 X).trans (r2 X)
  have pn : z_pn (nI u) (nI T) m1 ∧ z_bd c T u m (z_mn (nI u) (nI T) m1) := by
    unfold z_pn z_mn
    generalize ux_set m1 5 819253 0 19 0 = m2 at tv2 V0 h0 fm bm ⊢
    obtain ⟨s0, s1⟩ := z_g199 hT (show u < 16 by omega) 1 tv2 (fun _ => by decide)
    generalize m_199 (nI u) (nI T) 1 m2 = m3 at s1 ⊢
    obtain ⟨t1, t2, t3, t4, t5, t6⟩ := z_fl m3 1
    have tv3 := s1.tv
    have tv5 : z_tv (ux_set m3 5 819253 0 18 1) := fun w hw => by rw [(t5 1 w).1, (t5 2 w).1, (t5 3 w).1, (t5 1 w).2, (t5 2 w).2, (t5 3 w).2]; exact tv3 w hw
    have d1 : decide (¬ (1 : Int32) = 0) = true := by decide
    have f5 : z_fM m (ux_set m3 5 819253 0 18 1) := (fm.tr s1.fr).tr t1
    have b5 : ∀ X, ux_set m3 5 819253 0 18 1 5 983073 0 X = m 5 983073 0 X := fun X => (t2 X).trans ((s1.bs X).trans (bm X))
    have blm : z_bl m2 T u = z_bl m T u := fm.bl bm T u
    have hmm : z_hm m2 T u 1 ↔ z_hm m T u 1 := fm.hm bm T u 1
    have V5 : ∀ X w, w < 32 → z_V (ux_set m3 5 819253 0 18 1) X w = (decide (w = u) && !z_bl m T u && z_ad T true X) := fun X w hw => by rw [t6, s1.vv X w hw, V0, Bool.false_or, blm, d1]
    have h5 : z_ht (ux_set m3 5 819253 0 18 1) = 0 ↔ ¬ z_hm m T u 1 := by rw [t3, s1.ht, hmm]; exact ⟨fun h => h.2, fun h => ⟨h0, h⟩⟩
    obtain ⟨g0, g1, g2, g3, g4, g5, g6, g7⟩ := z_l44 hc 80 ux_fuel (ux_set m3 5 819253 0 18 1) (by omega) (by have := z_fuel; omega) ((f5.row 1).trans hm) tv5 (by rw [t4]; decide)
    refine ⟨⟨s0, g0⟩, f5.tr g1, fun X => (g2 X).trans (b5 X), g3, fun hb X hX => g4 X u (by omega) ?_, fun q => h5.mp (g5 q), fun v S hv hS hj => ?_, fun P hP1 hP2 => ?_⟩
    · rw [V5 X u (by omega), hb, hX]; simp
    · obtain ⟨y1, y2⟩ := g6 v S hv hS hj
      refine ⟨fun X w q => y1 X w ?_, fun q y => y2 q ?_⟩
      · rw [g1.rq g2, f5.rq b5]; exact q
      · exact (g1.rh g2 v S _).mpr ((f5.rh b5 v S _).mpr y)
    · obtain ⟨y1, y2⟩ := g7 P (f5.cd b5 hP1) (fun X w hw q => by
        rw [V5 X w hw] at q
        simp only [Bool.and_eq_true, decide_eq_true_eq, Bool.not_eq_true'] at q
        obtain ⟨⟨q1, q2⟩, q3⟩ := q
        subst q1; exact hP2 q2 X q3)
      refine ⟨y1, fun q => ?_⟩
      rcases y2 q with z | z
      · exact .inl (Classical.byContradiction (fun y => z (h5.mpr y)))
      · exact .inr ((f5.hP b5).mp z)
  unfold p_198 m_198
  rw [z_n1] at r5 r6
  rw [r6]
  exact ⟨r5 pn.1, pn.2⟩
end ZC1
