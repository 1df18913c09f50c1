/-! RUNNING JOBS, round after round -/
section ZJ
variable {k c t B B' u v a b s x n : Nat} {M m M' m' m'' : ux_M}
theorem z_222s (h : z_R 99 b k c t B M m) (hu : u < c) (hj : z_Y m 29 u = 2 ∨ z_Y m 29 u = 3) (hs : ¬ z_Y m 28 u = 3) : z_st1 m (m_222 (nI u) (z_P m 30 u 1)) u := by
  have h16 := h.1.u16 hu
  have hc := h.1.le
  have h1 := h.run hu (by rcases hj with q | q <;> rw [q] <;> decide)
  obtain ⟨a1, a2, a3, hA⟩ := h1.ent (Or.inr (by omega)) hu 3 (by simp)
  obtain ⟨b1, b2, b3, hA2⟩ := a3.e0 (Or.inl rfl) hu 0 (Or.inl rfl) (Or.inr (by rw [z_entS hA]; decide)) 99
  have jrX : ∀ w, z_jr (m_190 (nI u) 3 (z_P m 30 u 1)) w = z_jr (z_P m 30 u 1) w := z_jrA hA
  have e215 : m_215 (nI u) (m_190 (nI u) 3 (z_P m 30 u 1)) = z_st (z_P (m_190 (nI u) 0 (m_190 (nI u) 3 (z_P m 30 u 1))) 32 u 0) u := by
    unfold m_215 z_st; simp only [pu32 _ _ h16, of29 _ h16, pu29 _ _ h16, pu30 _ _ h16, pu41 _ _ h16]
  have jrS : ∀ w, z_jr (z_P (m_190 (nI u) 0 (m_190 (nI u) 3 (z_P m 30 u 1))) 32 u 0) w = z_jr (z_P m 30 u 1) w := fun w => by
    rw [z_jrP _ _ _ _ _ (by omega) (by omega) (by omega), z_jrA hA2]; exact jrX w
  have y29 : z_Y (z_P m 30 u 1) 29 u = z_Y m 29 u := z_up1 _ _ _ _ (by omega) (by omega) (by omega)
  have j215 : z_st1 m (m_215 (nI u) (m_190 (nI u) 3 (z_P m 30 u 1))) u := by
    rw [e215]
    have e29 : z_Y (z_P (m_190 (nI u) 0 (m_190 (nI u) 3 (z_P m 30 u 1))) 32 u 0) 29 u = z_Y m 29 u := (congrArg Prod.fst (jrS u)).trans y29
    have j := fun w => z_jrst (z_P (m_190 (nI u) 0 (m_190 (nI u) 3 (z_P m 30 u 1))) 32 u 0) u w
    rw [e29] at j
    refine ⟨fun w hw => Or.inl ?_, ?_⟩
    · rw [j w, if_neg hw, jrS w]; unfold z_jr
      rw [z_YP _ _ _ _ (by omega) (by omega), if_neg (by omega), z_YP _ _ _ _ (by omega) (by omega), if_neg (fun y => hw y.2)]
    · have ju := j u
      rw [if_pos rfl] at ju
      rcases hj with q | q
      · rw [q, if_pos rfl] at ju; exact Or.inl (congrArg Prod.fst ju)
      · rw [q, if_neg zn_32, if_pos rfl] at ju; exact Or.inr (Or.inr ⟨q, congrArg Prod.fst ju, congrArg Prod.snd ju⟩)
  have j35 : ∀ v, z_st1 m (z_P (m_190 (nI u) 3 (z_P m 30 u 1)) 35 u v) u := fun v => z_st1.xx (z_X.of (fun w => by rw [z_jrP _ _ _ _ _ (by omega) (by omega) (by omega)]; exact jrX w))
  unfold m_222 m_222_26
  simp only [pu35 _ _ h16]
  split
  · split
    · exact j215
    · exact j35 _
  · split
    · exact j215
    · exact j35 _
theorem z_221s (h : z_R 99 b k c t B M m) (hu : u < c) (hj : z_Y m 29 u = 2) : z_st1 m (m_221 (nI u) (z_Y m 28 u) m) u := by
  have h16 := h.1.u16 hu
  have hc := h.1.le
  unfold m_221
  simp only [pu29 _ _ h16, pu30 _ _ h16, pu41 _ _ h16]
  rcases h.2.st hu with q | q | q | q | q | q
  · rw [q, if_pos rfl]; exact z_st1.e (z_Z.en m u 0).xx (z_enJ m u 0)
  · have := z_222s h hu (Or.inl hj) (by rw [q]; decide)
    simp only [q, zn_10, zn_14, zn_15, zn_13, if_false]; exact this
  · have := z_222s h hu (Or.inl hj) (by rw [q]; decide)
    simp only [q, zn_20, zn_24, zn_25, zn_23, if_false]; exact this
  · simp only [q, zn_30, zn_34, zn_35, if_false, if_true]; exact z_st1.xx z_X.rf
  · simp only [q, zn_40, if_false, if_true]; exact z_st1.e (z_Z.en m u 0).xx (z_enJ m u 0)
  · obtain ⟨a1, a2, a3, hA⟩ := h.e0 (Or.inr (by omega)) hu 0 (Or.inl rfl) (Or.inl (by omega)) 99
    simp only [q, zn_50, zn_54, if_false, if_true]
    exact z_st1.e ((z_X.of (z_jrA hA)).tr (z_Z.en _ u 0).xx) (z_enJ _ u 0)
theorem z_223s (h : z_R 99 b k c t B M m) (hu : u < c) (hj : z_Y m 29 u = 3) : z_st1 m (m_223 (nI u) (z_Y m 28 u) m) u := by
  have h16 := h.1.u16 hu
  have hp : z_st1 m (z_P (z_P m 29 u 1) 30 u 0) u := by
    refine ⟨fun w hw => Or.inl (by rw [z_jr2, if_neg hw]), Or.inr (Or.inr ⟨hj, ?_⟩)⟩
    have := z_jr2 m u u 1 0
    rw [if_pos rfl] at this
    exact ⟨congrArg Prod.fst this, congrArg Prod.snd this⟩
  unfold m_223
  simp only [pu29 _ _ h16, pu30 _ _ h16]
  rcases h.2.st hu with q | q | q | q | q | q
  · rw [q, if_pos rfl]; exact hp
  · have := z_222s h hu (Or.inr hj) (by rw [q]; decide)
    simp only [q, zn_10, zn_14, zn_15, zn_13, if_false]; exact this
  · have := z_222s h hu (Or.inr hj) (by rw [q]; decide)
    simp only [q, zn_20, zn_24, zn_25, zn_23, if_false]; exact this
  · simp only [q, zn_30, zn_34, zn_35, if_false, if_true]; exact z_st1.xx z_X.rf
  · simp only [q, zn_40, if_false, if_true]; exact hp
  · simp only [q, zn_50, zn_54, if_false, if_true]; exact hp
/-- how far the jobs are from their ends -/
def z_wt (m : ux_M) (w : Nat) : Nat := if z_Y m 29 w = 0 then 0 else if z_Y m 30 w = 1 then 1 else if z_Y m 29 w = 3 then 3 else 2
def z_sum (m : ux_M) : Nat → Nat
  | 0 => 0
  | n + 1 => z_sum m n + z_wt m n
theorem z_sum.le (m : ux_M) : ∀ n, z_sum m n ≤ 3 * n
  | 0 => Nat.le_refl _
  | n + 1 => by
    have := z_sum.le m n
    have : z_wt m n ≤ 3 := by unfold z_wt; split; omega; split; omega; split <;> omega
    unfold z_sum; omega
theorem z_wt_o (h : z_jr m' v = z_jr m v ∨ z_Y m' 29 v = 0) : z_wt m' v ≤ z_wt m v := by
  rcases h with q | q
  · have e1 : z_Y m' 29 v = z_Y m 29 v := congrArg Prod.fst q
    have e2 : z_Y m' 30 v = z_Y m 30 v := congrArg Prod.snd q
    unfold z_wt; rw [e1, e2]; exact Nat.le_refl _
  · unfold z_wt; rw [if_pos q]; exact Nat.zero_le _
theorem z_wt_u (h : z_st1 m m' u) (hj : ¬ z_Y m 29 u = 0) (hr : ¬ z_Y m 30 u = 1) : z_wt m' u < z_wt m u := by
  have h2 : 2 ≤ z_wt m u := by unfold z_wt; rw [if_neg hj, if_neg hr]; split <;> omega
  rcases h.2 with q | q | q
  · unfold z_wt at h2 ⊢; rw [if_pos q]; omega
  · have : z_wt m' u ≤ 1 := by unfold z_wt; rw [q.1, if_neg hj, if_pos q.2]; exact Nat.le_refl _
    omega
  · have e3 : z_wt m u = 3 := by unfold z_wt; rw [if_neg hj, if_neg hr, if_pos q.1]
    have : z_wt m' u = 2 := by unfold z_wt; rw [q.2.1, if_neg z_10, q.2.2, if_neg z_01, if_neg zn_13]
    omega
theorem z_sum.m1 (h : z_st1 m m' u) (hj : ¬ z_Y m 29 u = 0) (hr : ¬ z_Y m 30 u = 1) : ∀ n, z_sum m' n ≤ z_sum m n ∧ (u < n → z_sum m' n < z_sum m n)
  | 0 => ⟨Nat.le_refl _, fun z => absurd z (by omega)⟩
  | n + 1 => by
    obtain ⟨q1, q2⟩ := z_sum.m1 h hj hr n
    have w : z_wt m' n ≤ z_wt m n := by
      by_cases e : n = u
      · subst e; exact Nat.le_of_lt (z_wt_u h hj hr)
      · exact z_wt_o (h.1 n e)
    unfold z_sum
    refine ⟨by omega, fun z => ?_⟩
    by_cases e : n = u
    · subst e; have := z_wt_u h hj hr; omega
    · have := q2 (by omega); omega
/-- a unit's job does not run -/
def z_sb (m : ux_M) (v : Nat) : Prop := z_Y m 29 v = 0 ∨ z_Y m 30 v = 1 ∨ r_219 (nI v) m = 0
def z_stable (c : Nat) (m : ux_M) : Prop := ∀ v, v < c → z_sb m v
/-- a round -/
theorem z_rnd (kp : Nat → Int32 → ux_M → Prop) (km : Nat → Int32 → ux_M → ux_M) (kp' : Int32 → ux_M → Prop) (km' : Int32 → ux_M → ux_M) (r S B0 Bf : Nat) (hB0 : B0 + c < 1999999999) (hBf : B0 + c ≤ Bf)
    (hk0 : ∀ m, kp' 0 m ∧ km' 0 m = m)
    (hk : ∀ M' m', z_R 99 b k c t (B0 + c) M' m' → z_sum m' c < S → kp k (nI (r + 1)) M' ∧ kp' 1 m' ∧ z_R 99 b k c t Bf (km k (nI (r + 1)) M') (km' 1 m') ∧ z_stable c (km' 1 m')) :
    ∀ (n f f' i : Nat) (hp : Int32) (M m : ux_M), i + n = c → n < f → n < f' → z_R 99 b k c t (B0 + i) M m → ((hp = 0 ∧ z_sum m c ≤ S ∧ ∀ v, v < i → z_sb m v) ∨ (hp = 1 ∧ z_sum m c < S)) →
      p_78_12 kp f k (nI r) hp (nI i) M ∧ p_218_10 kp' f' hp (nI i) m ∧ z_R 99 b k c t Bf (m_78_12 km f k (nI r) hp (nI i) M) (m_218_10 km' f' hp (nI i) m) ∧ z_stable c (m_218_10 km' f' hp (nI i) m) := by
  intro n
  induction n with
  | zero =>
    intro f f' i hp M m hi hf hf' h hI
    obtain ⟨f, rfl⟩ : ∃ g, f = g + 1 := ⟨f - 1, by omega⟩
    obtain ⟨f', rfl⟩ : ∃ g, f' = g + 1 := ⟨f' - 1, by omega⟩
    have hle := z_yle (show c ≤ i by omega) (by have := h.1.le; omega)
    rw [p_78_12, p_218_10, m_78_12, m_218_10, h.1.cnt, z_c1, h.1.cn, if_pos hle, if_pos hle]
    rcases hI with ⟨rfl, _, hs⟩ | ⟨rfl, hs⟩
    · rw [if_pos rfl, (hk0 m).2]
      exact ⟨⟨fun _ => ⟨fun z => absurd rfl z, fun _ => trivial⟩, fun z => absurd hle z⟩, ⟨z_v1, fun _ => (hk0 m).1, fun z => absurd hle z⟩, h.mono (by omega), fun v hv => hs v (by omega)⟩
    · have hic : i = c := by omega
      subst hic
      obtain ⟨k1, k2, k3, k4⟩ := hk M m h hs
      rw [if_neg z_10, z_nx]
      exact ⟨⟨fun _ => ⟨fun _ => k1, fun z => absurd z z_10⟩, fun z => absurd hle z⟩, ⟨z_v1, fun _ => k2, fun z => absurd hle z⟩, k3, k4⟩
  | succ n ih =>
    intro f f' i hp M m hi hf hf' h hI
    obtain ⟨f, rfl⟩ : ∃ g, f = g + 1 := ⟨f - 1, by omega⟩
    obtain ⟨f', rfl⟩ : ∃ g, f' = g + 1 := ⟨f' - 1, by omega⟩
    have hic : i < c := by omega
    have hi16 := h.1.u16 hic
    have hi32 : i < 32 := by omega
    have hle := z_nle hic h.1.le
    have eW : bt (((M k 49197 0 0) ||| (M k 49197 0 2)) &&& ((M k 49197 0 3) ^^^ ((-1) : Int32))) i = (decide (¬ z_Y m 29 i = 0) && !decide (z_Y m 30 i = 1)) := by
      rw [b_and, b_or, z_not _ hi32, h.1.js hi32, h.1.jt hi32, h.1.jn hi32]
      rcases h.2.jb hic with q | q | q | q <;> simp [hic, q]
    have skip : z_sb m i → p_78_12 kp f k (nI r) hp (nI (i + 1)) M ∧ p_218_10 kp' f' hp (nI (i + 1)) m ∧ z_R 99 b k c t Bf (m_78_12 km f k (nI r) hp (nI (i + 1)) M) (m_218_10 km' f' hp (nI (i + 1)) m) ∧ z_stable c (m_218_10 km' f' hp (nI (i + 1)) m) := fun hb => by
      refine ih f f' (i + 1) hp M m (by omega) (by omega) (by omega) (h.mono (by omega)) ?_
      rcases hI with ⟨q1, q2, q3⟩ | q
      · refine Or.inl ⟨q1, q2, fun v hv => ?_⟩
        by_cases e : v = i
        · subst e; exact hb
        · exact q3 v (by omega)
      · exact Or.inr q
    have go : ∀ M' m', ¬ z_Y m 29 i = 0 → ¬ z_Y m 30 i = 1 → z_R 99 b k c t (B0 + (i + 1)) M' m' → z_st1 m m' i → p_78_12 kp f k (nI r) 1 (nI (i + 1)) M' ∧ p_218_10 kp' f' 1 (nI (i + 1)) m' ∧ z_R 99 b k c t Bf (m_78_12 km f k (nI r) 1 (nI (i + 1)) M') (m_218_10 km' f' 1 (nI (i + 1)) m') ∧ z_stable c (m_218_10 km' f' 1 (nI (i + 1)) m') := fun M' m' hj hr h' hs => by
      refine ih f f' (i + 1) 1 M' m' (by omega) (by omega) (by omega) h' (Or.inr ⟨rfl, ?_⟩)
      have := (z_sum.m1 hs hj hr c).2 hic
      rcases hI with ⟨_, q2, _⟩ | ⟨_, q⟩ <;> omega
    rw [p_78_12, p_218_10, m_78_12, m_218_10]
    simp only [h.1.cnt, h.1.cn, z_c1, hle, if_false, not_false_eq_true, true_implies, false_implies, true_and, z_andb _ hi32, eW, z_cl hi16, h.1.d28 hic, of29 _ hi16, of30 _ hi16, of28 _ hi16, z_nx, h.1.ty h.2 hic]
    by_cases q0 : z_Y m 29 i = 0
    · have r0 := skip (Or.inl q0)
      simp only [q0, decide_false, Bool.false_and, not_true_eq_false, not_false_eq_true, if_true, if_false, true_implies, false_implies, true_and, and_true]
      exact ⟨⟨z_W.pty M k (nI i), r0.1⟩, ⟨z_v1, uu29 hi16, r0.2.1⟩, r0.2.2⟩
    · by_cases q1 : z_Y m 30 i = 1
      · have r0 := skip (Or.inr (Or.inl q1))
        simp only [q0, q1, decide_true, Bool.not_true, Bool.and_false, not_true_eq_false, not_false_eq_true, if_true, if_false, true_implies, false_implies, true_and, and_true]
        exact ⟨⟨z_W.pty M k (nI i), r0.1⟩, ⟨z_v1, uu29 hi16, uu30 hi16, r0.2.1⟩, r0.2.2⟩
      · obtain ⟨e1, e2, e3⟩ := z_prec h.1 h.2 hic q0
        have p219 : p_219 (nI i) m := by
          unfold p_219 p_219_24; rw [of29 _ hi16, of28 _ hi16]
          exact ⟨uu29 hi16, fun _ => e2, fun _ => ⟨uu28 hi16, fun _ => e2, fun _ => trivial⟩⟩
        have r219 : r_219 (nI i) m = if z_Y m 29 i = 1 ∧ z_Y m 28 i = 3 then 0 else if r_220 (nI i) m = 0 then 1 else 0 := by
          unfold r_219 r_219_24; rw [of29 _ hi16, of28 _ hi16]
          by_cases z1 : z_Y m 29 i = 1
          · by_cases z2 : z_Y m 28 i = 3 <;> simp [z1, z2]
          · simp [z1]
        simp only [q0, q1, decide_true, decide_false, Bool.not_false, Bool.and_true, Bool.true_eq_false, not_true_eq_false, not_false_eq_true, if_true, if_false, true_implies, false_implies, true_and, and_true, e3]
        by_cases q2 : r_220 (nI i) m = 0
        · rcases h.2.jb hic with j0 | j1 | j2 | j3
          · exact absurd j0 q0
          · by_cases q3 : z_Y m 28 i = 3
            · have z0 : r_219 (nI i) m = 0 := by rw [r219, if_pos ⟨j1, q3⟩]
              have r0 := skip (Or.inr (Or.inr z0))
              simp only [q2, q3, j1, z0, not_true_eq_false, not_false_eq_true, if_true, if_false, true_implies, false_implies, true_and, and_true]
              exact ⟨⟨z_W.pty M k (nI i), e1, z_i16 hi16, r0.1⟩, ⟨z_v1, uu29 hi16, uu30 hi16, p219, r0.2.1⟩, r0.2.2⟩
            · have z1 : r_219 (nI i) m = 1 := by rw [r219, if_neg (fun z => q3 z.2), if_pos q2]
              obtain ⟨s1, s2, s3, s4⟩ := h.rsa (by omega) hic j1 q3
              have g := go _ _ q0 q1 s3 s4
              simp only [q2, q3, j1, z1, z_10, zn_12, zn_13, not_true_eq_false, not_false_eq_true, if_true, if_false, true_implies, false_implies, true_and, and_true]
              exact ⟨⟨z_W.pty M k (nI i), e1, z_i16 hi16, s1, g.1⟩, ⟨z_v1, uu29 hi16, uu30 hi16, p219, uu28 hi16, uu29 hi16, uu29 hi16, s2, g.2.1⟩, g.2.2⟩
          · have z1 : r_219 (nI i) m = 1 := by rw [r219, if_neg (fun z => by rw [j2] at z; exact absurd z.1 (by decide)), if_pos q2]
            obtain ⟨s1, s2, s3⟩ := h.rst hic q0
            have g := go _ _ q0 q1 (s3.mono (by omega)) (z_221s h hic j2)
            simp only [q2, j2, z1, z_10, zn_21, not_true_eq_false, not_false_eq_true, if_true, if_false, true_implies, false_implies, true_and, and_true]
            exact ⟨⟨z_W.pty M k (nI i), e1, s1, g.1⟩, ⟨z_v1, uu29 hi16, uu30 hi16, p219, uu28 hi16, uu29 hi16, s2, g.2.1⟩, g.2.2⟩
          · have z1 : r_219 (nI i) m = 1 := by rw [r219, if_neg (fun z => by rw [j3] at z; exact absurd z.1 (by decide)), if_pos q2]
            obtain ⟨s1, s2, s3⟩ := h.rre hic q0
            have g := go _ _ q0 q1 (s3.mono (by omega)) (z_223s h hic j3)
            simp only [q2, j3, z1, z_10, zn_31, zn_32, not_true_eq_false, not_false_eq_true, if_true, if_false, true_implies, false_implies, true_and, and_true]
            exact ⟨⟨z_W.pty M k (nI i), e1, s1, g.1⟩, ⟨z_v1, uu29 hi16, uu30 hi16, p219, uu28 hi16, uu29 hi16, uu29 hi16, s2, g.2.1⟩, g.2.2⟩
        · have z0 : r_219 (nI i) m = 0 := by
            rw [r219, if_neg q2]; split <;> rfl
          have r0 := skip (Or.inr (Or.inr z0))
          simp only [q2, z0, not_true_eq_false, not_false_eq_true, if_true, if_false, true_implies, false_implies, true_and, and_true]
          exact ⟨⟨z_W.pty M k (nI i), e1, r0.1⟩, ⟨z_v1, uu29 hi16, uu30 hi16, p219, r0.2.1⟩, r0.2.2⟩
theorem z_rds : ∀ (S f f' r B : Nat) (M m : ux_M), z_sum m c ≤ S → S < f → S + 1 < f' → r + S ≤ 64 → B + 16 * (S + 1) < 1999999999 → z_R 99 b k c t B M m →
    p_78_2 f k (nI r) M ∧ p_218_2 f' 1 m ∧ z_R 99 b k c t (B + 16 * (S + 1)) (m_78_2 f k (nI r) M) (m_218_2 f' 1 m) ∧ z_stable c (m_218_2 f' 1 m) := by
  intro S
  induction S with
  | zero =>
    intro f f' r B M m hS hf hf' hr hB h
    obtain ⟨f, rfl⟩ : ∃ g, f = g + 1 := ⟨f - 1, by omega⟩
    obtain ⟨f', rfl⟩ : ∃ g, f' = g + 1 + 1 := ⟨f' - 2, by omega⟩
    have hc := h.1.le
    have hfu : c < ux_fuel := by have := z_fuel; omega
    have n64 : ¬ (64 : Int32) < nI r := fun z => by have := (z_lt (a := 64) (by omega) (by omega)).mp z; omega
    have g := z_rnd (b := b) (k := k) (t := t) (p_78_2 f) (m_78_2 f) (p_218_2 (f' + 1)) (m_218_2 (f' + 1)) r 0 B (B + 16 * (0 + 1)) (by omega) (by omega) (fun m => ⟨by rw [p_218_2]; exact ⟨fun _ => trivial, fun z => absurd rfl z⟩, by rw [m_218_2, if_pos rfl]⟩) (fun M' m' _ z => absurd z (by omega)) c ux_fuel ux_fuel 0 0 M m (by omega) hfu hfu h (Or.inl ⟨rfl, hS, fun v hv => absurd hv (by omega)⟩)
    rw [p_78_2, p_218_2, m_78_2, m_218_2, if_neg n64, if_neg z_10]
    exact ⟨⟨fun z => absurd z n64, fun _ => g.1⟩, ⟨fun z => absurd z z_10, fun _ => g.2.1⟩, g.2.2.1, g.2.2.2⟩
  | succ S ih =>
    intro f f' r B M m hS hf hf' hr hB h
    obtain ⟨f, rfl⟩ : ∃ g, f = g + 1 := ⟨f - 1, by omega⟩
    obtain ⟨f', rfl⟩ : ∃ g, f' = g + 1 + 1 := ⟨f' - 2, by omega⟩
    have hc := h.1.le
    have hfu : c < ux_fuel := by have := z_fuel; omega
    have n64 : ¬ (64 : Int32) < nI r := fun z => by have := (z_lt (a := 64) (by omega) (by omega)).mp z; omega
    have g := z_rnd (b := b) (k := k) (t := t) (p_78_2 f) (m_78_2 f) (p_218_2 (f' + 1)) (m_218_2 (f' + 1)) r (S + 1) B (B + 16 * (S + 1 + 1)) (by omega) (by omega) (fun m => ⟨by rw [p_218_2]; exact ⟨fun _ => trivial, fun z => absurd rfl z⟩, by rw [m_218_2, if_pos rfl]⟩) (fun M' m' h' z => by
      obtain ⟨g1, g2, g3, g4⟩ := ih f (f' + 1) (r + 1) (B + c) M' m' (by omega) (by omega) (by omega) (by omega) (by omega) h'
      exact ⟨g1, g2, g3.mono (by omega), g4⟩) c ux_fuel ux_fuel 0 0 M m (by omega) hfu hfu h (Or.inl ⟨rfl, hS, fun v hv => absurd hv (by omega)⟩)
    rw [p_78_2, p_218_2, m_78_2, m_218_2, if_neg n64, if_neg z_10]
    exact ⟨⟨fun z => absurd z n64, fun _ => g.1⟩, ⟨fun z => absurd z z_10, fun _ => g.2.1⟩, g.2.2.1, g.2.2.2⟩
/-- RUNNING JOBS on both sides -/
theorem z_R.jobs (h : z_R 99 b k c t B M m) (hB : B + 800 < 1999999999) : p_78 k M ∧ p_218 m ∧ z_R 99 b k c t (B + 800) (m_78 k M) (m_218 m) ∧ z_stable c (m_218 m) := by
  have hc := h.1.le
  have hs := z_sum.le m c
  have hf := z_fuel
  obtain ⟨g1, g2, g3, g4⟩ := z_rds (b := b) (k := k) (t := t) 48 ux_fuel ux_fuel 0 B M m (by omega) (by omega) (by omega) (by omega) (by omega) h
  exact ⟨g1, g2, g3.mono (by omega), g4⟩
end ZJ
