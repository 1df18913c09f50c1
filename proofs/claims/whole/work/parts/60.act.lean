/-! leaving; the end of an activation; the limit; running a job to start -/
section ZV
variable {k c t B B' u v a b s x n : Nat} {M m M' m' m'' : ux_M}
/-- job and running of a unit -/
def z_jr (m : ux_M) (w : Nat) : Int32 × Int32 := (z_Y m 29 w, z_Y m 30 w)
/-- jobs stay or end -/
def z_X (m m' : ux_M) : Prop := ∀ w, z_jr m' w = z_jr m w ∨ z_Y m' 29 w = 0
theorem z_X.rf : z_X m m := fun _ => Or.inl rfl
theorem z_X.of (h : ∀ w, z_jr m' w = z_jr m w) : z_X m m' := fun w => Or.inl (h w)
theorem z_X.tr (h : z_X m m') (h' : z_X m' m'') : z_X m m'' := fun w => by
  rcases h' w with q | q
  · rcases h w with z | z
    · exact Or.inl (q.trans z)
    · exact Or.inr ((congrArg Prod.fst q).trans z)
  · exact Or.inr q
theorem z_Z.xx (h : z_Z m m') : z_X m m' := fun w => by
  rcases (h w).1 with q | q
  · exact Or.inl (by unfold z_jr; rw [q.1, q.2])
  · exact Or.inr q
theorem z_jrP (m : ux_M) (a u w : Nat) (v : Int32) (ha : a < 56) (h1 : ¬ a = 29) (h2 : ¬ a = 30) : z_jr (z_P m a u v) w = z_jr m w := by
  unfold z_jr; rw [z_up1 _ _ _ _ ha (by omega) (by omega), z_up1 _ _ _ _ ha (by omega) (by omega)]
theorem z_jrA {s : Int32} (hA : ∀ w, z_A m' w = if w = u then z_bf (z_A m u) t s else z_A m w) (w : Nat) : z_jr m' w = z_jr m w := by
  unfold z_jr
  rw [z_entY hA (by omega) (by omega) (by omega) (by omega) (by omega) (by omega), z_entY hA (by omega) (by omega) (by omega) (by omega) (by omega) (by omega)]
theorem z_Pcm (m : ux_M) {a a' : Nat} (u w : Nat) (p q : Int32) (ha : a < 56) (ha' : a' < 56) (h : ¬ a = a') : z_P (z_P m a u p) a' w q = z_P (z_P m a' w q) a u p := by
  funext x y z i
  unfold z_P
  simp only [z_set]
  by_cases e : x = 5 ∧ y = 844257 ∧ z = 0 ∧ i = 188 + 56 * w + a'
  · rw [if_pos e, if_neg (fun z => by omega), if_pos e]
  · by_cases e2 : x = 5 ∧ y = 844257 ∧ z = 0 ∧ i = 188 + 56 * u + a
    · rw [if_neg e, if_pos e2, if_pos e2]
    · rw [if_neg e, if_neg e2, if_neg e2, if_neg e]
theorem z_jr2 (m : ux_M) (u w : Nat) (p q : Int32) : z_jr (z_P (z_P m 29 u p) 30 u q) w = if w = u then (p, q) else z_jr m w := by
  unfold z_jr
  simp only [z_YP _ _ _ _ (show 30 < 56 by omega) (show 29 < 56 by omega), z_YP _ _ _ _ (show 30 < 56 by omega) (show 30 < 56 by omega), z_YP _ _ _ _ (show 29 < 56 by omega) (show 29 < 56 by omega), z_YP _ _ _ _ (show 29 < 56 by omega) (show 30 < 56 by omega)]
  by_cases e : w = u <;> simp [e]
theorem z_jrst (m : ux_M) (u w : Nat) : z_jr (z_st m u) w = if w = u then (if z_Y m 29 u = 2 then (0, 0) else if z_Y m 29 u = 3 then (1, 0) else z_jr m u) else z_jr m w := by
  unfold z_st
  by_cases z2 : z_Y m 29 u = 2
  · rw [if_pos z2, if_pos z2, z_jrP _ _ _ _ _ (by omega) (by omega) (by omega), z_jr2]
  · rw [if_neg z2, if_neg z2]
    by_cases z3 : z_Y m 29 u = 3
    · rw [if_pos z3, if_pos z3, z_jr2]
    · rw [if_neg z3, if_neg z3]; by_cases e : w = u <;> simp [e]
/-- what the reference leaves of a unit that goes (before those that are bound to it stop) -/
noncomputable def z_lv (m : ux_M) (u t : Nat) (code y : Int32) : ux_M :=
  if ¬ y = 0 ∧ ¬ (z_Y m 29 u = 2 ∨ z_Y m 29 u = 3) then z_P (m_190 (nI u) 5 (z_st m u)) 35 u (nI t + z_Y m 16 u) else m_190 (nI u) (if code = 0 then 0 else 4) (z_st m u)
theorem z_R.lv (h : z_R x b k c t B M m) (hx : x = u ∨ c ≤ x) (hu : u < c) (hst : z_Y m 28 u = 1 ∨ z_Y m 28 u = 2) (code y : Int32) (hk : ¬ y = 0 → z_Y m 0 u = 0) :
    p_59_48 k (nI u) code y M ∧ z_R 99 b k c t B (m_59_48 k (nI u) code y M) (z_lv m u t code y)
    ∧ (p_190 (nI u) (if code = 0 then 0 else 4) (z_st m u)) ∧ (¬ y = 0 → ¬ (z_Y m 29 u = 2 ∨ z_Y m 29 u = 3) → p_190 (nI u) 5 (z_st m u)) ∧ ∀ w, z_jr (z_lv m u t code y) w = z_jr (z_st m u) w := by
  have h16 := h.1.u16 hu
  have hc := h.1.le
  have hps := h.1.ps hu
  have hrs := h.1.rs hu
  have hS := h.set hu
  have s28 : z_Y (z_st m u) 28 u = z_Y m 28 u := z_stY m u (by omega) (by omega) (by omega) (by omega) u
  have s16 : z_Y (z_st m u) 16 u = z_Y m 16 u := z_stY m u (by omega) (by omega) (by omega) (by omega) u
  have s0 : z_Y (z_st m u) 0 u = z_Y m 0 u := z_stY m u (by omega) (by omega) (by omega) (by omega) u
  have n5 : ¬ z_Y (z_st m u) 28 u = 5 := by rw [s28]; rcases hst with q | q <;> rw [q] <;> decide
  have d0 : z_R 99 b k c t B (m_58 k (nI u) 0 (m_60 k (nI u) M)) (m_190 (nI u) 0 (z_st m u)) ∧ p_58 k (nI u) 0 (m_60 k (nI u) M) ∧ p_190 (nI u) 0 (z_st m u) ∧ ∀ w, z_jr (m_190 (nI u) 0 (z_st m u)) w = z_jr (z_st m u) w := by
    obtain ⟨e1, e2, e3, hA⟩ := hS.e0 hx hu 0 (Or.inl rfl) (Or.inr (by rw [s28]; rcases hst with q | q <;> rw [q] <;> decide)) 99
    exact ⟨e3, e1, e2, z_jrA hA⟩
  have d4 : z_R 99 b k c t B (m_58 k (nI u) 4 (m_60 k (nI u) M)) (m_190 (nI u) 4 (z_st m u)) ∧ p_58 k (nI u) 4 (m_60 k (nI u) M) ∧ p_190 (nI u) 4 (z_st m u) ∧ ∀ w, z_jr (m_190 (nI u) 4 (z_st m u)) w = z_jr (z_st m u) w := by
    obtain ⟨e1, e2, e3, hA⟩ := hS.e0 hx hu 4 (Or.inr rfl) (Or.inr (by rw [s28]; rcases hst with q | q <;> rw [q] <;> decide)) 99
    exact ⟨e3, e1, e2, z_jrA hA⟩
  obtain ⟨a1, a2, a3, hA5⟩ := hS.ent hx hu 5 (by simp)
  have d5 : z_Y m 0 u = 0 → z_R 99 b k c t B (m_58 k (nI u) 5 (m_60 k (nI u) M)) (z_P (m_190 (nI u) 5 (z_st m u)) 35 u (nI t + z_Y m 16 u)) := fun hk0 => by
    refine a3.du hu _ 99 _ rfl ?_
    obtain ⟨_, _, _, _, _, _, ⟨d, hd1, hd, ed⟩, _⟩ := h.1.rng hu
    have e34 : z_A (m_190 (nI u) 5 (z_st m u)) u 34 = nI t := by
      rw [hA5, if_pos rfl]; unfold z_bf
      rw [if_neg (by rw [z_AY _ _ (by omega)]; exact n5), if_neg (by omega), if_pos rfl]
    have e16 : z_A (m_190 (nI u) 5 (z_st m u)) u 16 = nI d := by rw [z_AY _ _ (by omega), z_entY hA5 (by omega) (by omega) (by omega) (by omega) (by omega) (by omega), s16, ed]
    have e0 : z_A (m_190 (nI u) 5 (z_st m u)) u 0 = 0 := by rw [z_AY _ _ (by omega), z_entY hA5 (by omega) (by omega) (by omega) (by omega) (by omega) (by omega), s0, hk0]
    have e2 : z_A (m_190 (nI u) 5 (z_st m u)) u 28 = 5 := by rw [z_AY _ _ (by omega)]; exact z_entS hA5
    have tl := h.1.tl
    unfold z_Du
    rw [z_upn (show ¬ 28 = 35 by decide), z_upn (show ¬ 34 = 35 by decide), z_upn (show ¬ 16 = 35 by decide), z_upn (show ¬ 0 = 35 by decide), z_upe, e34, e16, e0, e2, ed]
    exact ⟨fun z => absurd z (by decide), fun z => absurd z (by decide), fun z => absurd z (by decide), fun _ => ⟨rfl, t + d, z_add t d, by omega, Or.inl ⟨z_add t d, Or.inl (by omega)⟩⟩, fun z => absurd z (by decide)⟩
  unfold p_59_48 m_59_48 p_59_79 m_59_79 z_lv
  rw [hrs]
  by_cases hy : y = 0
  · by_cases hcd : code = 0
    · simp only [hy, hcd, if_true, not_true_eq_false, false_implies, true_implies, and_true, true_and, false_and, if_false]
      exact ⟨⟨hps, d0.2.1⟩, d0.1, d0.2.2.1, d0.2.2.2⟩
    · simp only [hy, hcd, if_true, not_true_eq_false, not_false_eq_true, false_implies, true_implies, and_true, true_and, false_and, if_false]
      exact ⟨⟨hps, d4.2.1⟩, d4.1, d4.2.2.1, d4.2.2.2⟩
  · by_cases hj : z_Y m 29 u = 2 ∨ z_Y m 29 u = 3
    · by_cases hcd : code = 0
      · simp only [hy, hj, hcd, z_10, if_true, not_true_eq_false, not_false_eq_true, false_implies, true_implies, and_true, true_and, and_false, if_false]
        exact ⟨⟨hps, d0.2.1⟩, d0.1, d0.2.2.1, d0.2.2.2⟩
      · simp only [hy, hj, hcd, z_10, if_true, not_true_eq_false, not_false_eq_true, false_implies, true_implies, and_true, true_and, and_false, if_false]
        exact ⟨⟨hps, d4.2.1⟩, d4.1, d4.2.2.1, d4.2.2.2⟩
    · simp only [hy, hj, if_true, not_true_eq_false, not_false_eq_true, false_implies, true_implies, and_true, true_and, and_self, if_false]
      refine ⟨⟨hps, a1⟩, d5 (hk hy), ?_, a2, fun w => ?_⟩
      · by_cases hcd : code = 0
        · rw [if_pos hcd]; exact d0.2.2.1
        · rw [if_neg hcd]; exact d4.2.2.1
      · rw [z_jrP _ _ _ _ _ (by omega) (by omega) (by omega)]; exact z_jrA hA5 w
/-- the reference's leaves, written out -/
theorem z_194 (h : z_R x b k c t B M m) (hu : u < c) (code y : Int32) (hq : p_190 (nI u) (if code = 0 then 0 else 4) (z_st m u)) (hq5 : ¬ y = 0 → ¬ (z_Y m 29 u = 2 ∨ z_Y m 29 u = 3) → p_190 (nI u) 5 (z_st m u))
    (hn : ¬ y = 0 → ¬ (z_Y m 29 u = 2 ∨ z_Y m 29 u = 3) → m_190 (nI u) 5 (z_st m u) 5 844257 0 0 = nI t ∧ z_Y (m_190 (nI u) 5 (z_st m u)) 16 u = z_Y m 16 u) :
    (¬ z_Y m 28 u = 2 → p_194 (nI u) code y m ∧ m_194 (nI u) code y m = z_lv m u t code y) ∧ (z_Y m 28 u = 2 → (p_196 (nI u) (z_lv m u t code y) → p_194 (nI u) code y m) ∧ m_194 (nI u) code y m = m_196 (nI u) (z_lv m u t code y)) := by
  have h16 := h.1.u16 hu
  have key : ∀ (f : Int32), (p_194_137 (nI u) f (z_lv m u t code y) → p_194_16 (nI u) code y f m) ∧ m_194_16 (nI u) code y f m = m_194_137 (nI u) f (z_lv m u t code y) := by
    intro f
    unfold z_lv z_st at *
    unfold p_194_16 m_194_16 p_194_40 m_194_40 p_194_45 m_194_45 p_194_84 m_194_84 p_194_123 m_194_123 p_194_134 m_194_134
    simp only [of29 _ h16, pu29 _ _ h16, pu30 _ _ h16, pu41 _ _ h16, of16 _ h16, pu35 _ _ h16, forall_eq, z_c0]
    rcases h.2.jb hu with q | q | q | q
    · simp only [q, zn_02, zn_03, or_self, if_false, not_false_eq_true, true_implies, and_true] at hq hq5 hn
      by_cases hy : y = 0
      · by_cases hcd : code = 0
        · simp only [hcd, if_true] at hq
          simp only [q, hy, hcd, zn_02, zn_03, or_self, if_true, if_false, not_true_eq_false, not_false_eq_true, true_implies, false_implies, true_and, and_true, false_and]
          exact fun z => ⟨uu29 h16, uu29 h16, uu29 h16, uu29 h16, hq, z⟩
        · simp only [hcd, if_false] at hq
          simp only [q, hy, hcd, zn_02, zn_03, or_self, if_true, if_false, not_true_eq_false, not_false_eq_true, true_implies, false_implies, true_and, and_true, false_and]
          exact fun z => ⟨uu29 h16, uu29 h16, uu29 h16, uu29 h16, hq, z⟩
      · obtain ⟨n1, n2⟩ := hn hy
        simp only [q, hy, zn_02, zn_03, or_self, if_true, if_false, not_true_eq_false, not_false_eq_true, true_implies, false_implies, true_and, and_true, and_self, n1, n2]
        exact fun z => ⟨uu29 h16, uu29 h16, uu29 h16, uu29 h16, hq5 hy, z_v0, uu16 h16, uu35 h16, z⟩
    · simp only [q, zn_12, zn_13, or_self, if_false, not_false_eq_true, true_implies, and_true] at hq hq5 hn
      by_cases hy : y = 0
      · by_cases hcd : code = 0
        · simp only [hcd, if_true] at hq
          simp only [q, hy, hcd, zn_12, zn_13, or_self, if_true, if_false, not_true_eq_false, not_false_eq_true, true_implies, false_implies, true_and, and_true, false_and]
          exact fun z => ⟨uu29 h16, uu29 h16, uu29 h16, uu29 h16, hq, z⟩
        · simp only [hcd, if_false] at hq
          simp only [q, hy, hcd, zn_12, zn_13, or_self, if_true, if_false, not_true_eq_false, not_false_eq_true, true_implies, false_implies, true_and, and_true, false_and]
          exact fun z => ⟨uu29 h16, uu29 h16, uu29 h16, uu29 h16, hq, z⟩
      · obtain ⟨n1, n2⟩ := hn hy
        simp only [q, hy, zn_12, zn_13, or_self, if_true, if_false, not_true_eq_false, not_false_eq_true, true_implies, false_implies, true_and, and_true, and_self, n1, n2]
        exact fun z => ⟨uu29 h16, uu29 h16, uu29 h16, uu29 h16, hq5 hy, z_v0, uu16 h16, uu35 h16, z⟩
    · simp only [q, if_true] at hq
      by_cases hy : y = 0
      · by_cases hcd : code = 0
        · simp only [hcd, if_true] at hq
          simp only [q, hy, hcd, z_10, true_or, if_true, if_false, not_true_eq_false, not_false_eq_true, true_implies, false_implies, true_and, and_true, false_and, and_false]
          exact fun z => ⟨uu29 h16, uu29 h16, uu29 h16, uu30 h16, uu41 h16, hq, z⟩
        · simp only [hcd, if_false] at hq
          simp only [q, hy, hcd, z_10, true_or, if_true, if_false, not_true_eq_false, not_false_eq_true, true_implies, false_implies, true_and, and_true, false_and, and_false]
          exact fun z => ⟨uu29 h16, uu29 h16, uu29 h16, uu30 h16, uu41 h16, hq, z⟩
      · by_cases hcd : code = 0
        · simp only [hcd, if_true] at hq
          simp only [q, hy, hcd, z_10, true_or, if_true, if_false, not_true_eq_false, not_false_eq_true, true_implies, false_implies, true_and, and_true, false_and, and_false]
          exact fun z => ⟨uu29 h16, uu29 h16, uu29 h16, uu30 h16, uu41 h16, hq, z⟩
        · simp only [hcd, if_false] at hq
          simp only [q, hy, hcd, z_10, true_or, if_true, if_false, not_true_eq_false, not_false_eq_true, true_implies, false_implies, true_and, and_true, false_and, and_false]
          exact fun z => ⟨uu29 h16, uu29 h16, uu29 h16, uu30 h16, uu41 h16, hq, z⟩
    · simp only [q, zn_32, if_true, if_false] at hq
      by_cases hy : y = 0
      · by_cases hcd : code = 0
        · simp only [hcd, if_true] at hq
          simp only [q, hy, hcd, z_10, zn_32, or_true, if_true, if_false, not_true_eq_false, not_false_eq_true, true_implies, false_implies, true_and, and_true, false_and, and_false]
          exact fun z => ⟨uu29 h16, uu29 h16, uu29 h16, uu29 h16, uu29 h16, uu30 h16, hq, z⟩
        · simp only [hcd, if_false] at hq
          simp only [q, hy, hcd, z_10, zn_32, or_true, if_true, if_false, not_true_eq_false, not_false_eq_true, true_implies, false_implies, true_and, and_true, false_and, and_false]
          exact fun z => ⟨uu29 h16, uu29 h16, uu29 h16, uu29 h16, uu29 h16, uu30 h16, hq, z⟩
      · by_cases hcd : code = 0
        · simp only [hcd, if_true] at hq
          simp only [q, hy, hcd, z_10, zn_32, or_true, if_true, if_false, not_true_eq_false, not_false_eq_true, true_implies, false_implies, true_and, and_true, false_and, and_false]
          exact fun z => ⟨uu29 h16, uu29 h16, uu29 h16, uu29 h16, uu29 h16, uu30 h16, hq, z⟩
        · simp only [hcd, if_false] at hq
          simp only [q, hy, hcd, z_10, zn_32, or_true, if_true, if_false, not_true_eq_false, not_false_eq_true, true_implies, false_implies, true_and, and_true, false_and, and_false]
          exact fun z => ⟨uu29 h16, uu29 h16, uu29 h16, uu29 h16, uu29 h16, uu30 h16, hq, z⟩
  unfold p_194 m_194
  rw [of28 _ h16]
  constructor
  · intro hs
    obtain ⟨k1, k2⟩ := key 0
    rw [if_neg hs]
    have e : m_194_137 (nI u) 0 (z_lv m u t code y) = z_lv m u t code y := by unfold m_194_137; rw [if_pos rfl]
    exact ⟨⟨uu28 h16, fun _ => k1 (by unfold p_194_137; exact ⟨fun _ => trivial, fun z => absurd rfl z⟩), fun z => absurd z hs⟩, k2.trans e⟩
  · intro hs
    obtain ⟨k1, k2⟩ := key 1
    rw [if_pos hs]
    have e : m_194_137 (nI u) 1 (z_lv m u t code y) = m_196 (nI u) (z_lv m u t code y) := by unfold m_194_137; rw [if_neg z_10]
    exact ⟨fun hp => ⟨uu28 h16, fun z => absurd hs z, fun _ => k1 (by unfold p_194_137; exact ⟨fun z => absurd z z_10, fun _ => hp⟩)⟩, k2.trans e⟩
/-- LEAVES on both sides -/
theorem z_R.le (h : z_R x b k c t B M m) (hx : x = u ∨ c ≤ x) (hu : u < c) (hst : z_Y m 28 u = 1 ∨ z_Y m 28 u = 2) (code y : Int32) (hk : ¬ y = 0 → z_Y m 0 u = 0) :
    p_59_48 k (nI u) code y M ∧ z_R 99 b k c t B (m_59_48 k (nI u) code y M) (z_lv m u t code y) ∧ (∀ w, z_jr (z_lv m u t code y) w = z_jr (z_st m u) w)
    ∧ (¬ z_Y m 28 u = 2 → p_194 (nI u) code y m ∧ m_194 (nI u) code y m = z_lv m u t code y) ∧ (z_Y m 28 u = 2 → (p_196 (nI u) (z_lv m u t code y) → p_194 (nI u) code y m) ∧ m_194 (nI u) code y m = m_196 (nI u) (z_lv m u t code y)) := by
  obtain ⟨l1, l2, l3, l4, l5⟩ := h.lv hx hu hst code y hk
  obtain ⟨a1, a2, a3, hA5⟩ := (h.set hu).ent hx hu 5 (by simp)
  obtain ⟨r1, r2⟩ := z_194 h hu code y l3 l4 (fun _ _ => ⟨a3.1.now, by rw [z_entY hA5 (by omega) (by omega) (by omega) (by omega) (by omega) (by omega)]; exact z_stY m u (by omega) (by omega) (by omega) (by omega) u⟩)
  exact ⟨l1, l2, l5, r1, r2⟩
/-- what an exit leaves of the reference -/
noncomputable def z_ex (m : ux_M) (u t : Nat) (code : Int32) : ux_M := z_lv (z_P (z_P m 33 u code) 32 u (if code = 0 then 0 else 1)) u t code (if z_Y m 15 u = 2 then 1 else if z_Y m 15 u = 1 then (if code = 0 then 0 else 1) else 0)
/-- EXITS on both sides -/
theorem z_R.ext (h : z_R x b k c t B M m) (hx : x = u ∨ c ≤ x) (hu : u < c) (hst : z_Y m 28 u = 1 ∨ z_Y m 28 u = 2) (code : Int32) :
    p_59 k (nI u) code M ∧ z_R 99 b k c t B (m_59 k (nI u) code M) (z_ex m u t code) ∧ (∀ w, z_jr (z_ex m u t code) w = z_jr (z_st m u) w)
    ∧ (¬ z_Y m 28 u = 2 → p_193 (nI u) code m ∧ m_193 (nI u) code m = z_ex m u t code) ∧ (z_Y m 28 u = 2 → (p_196 (nI u) (z_ex m u t code) → p_193 (nI u) code m) ∧ m_193 (nI u) code m = m_196 (nI u) (z_ex m u t code)) := by
  have h16 := h.1.u16 hu
  have h2 : z_R x b k c t B (ux_set (ux_set M k 98433 0 u (if code = 0 then 0 else 1)) k 114817 0 u code) (z_P (z_P m 33 u code) 32 u (if code = 0 then 0 else 1)) := by
    rw [z_Pcm m u u _ _ (by omega) (by omega) (by omega)]
    exact (h.w32 hu _).w33 hu code
  have yy : ∀ a w, a < 56 → ¬ a = 32 → ¬ a = 33 → z_Y (z_P (z_P m 33 u code) 32 u (if code = 0 then 0 else 1)) a w = z_Y m a w := fun a w ha n1 n2 => by
    rw [z_up1 _ _ _ _ (by omega) ha n1, z_up1 _ _ _ _ (by omega) ha n2]
  have pol : z_Y m 15 u = 2 ∨ z_Y m 15 u = 1 → z_Y m 0 u = 0 := fun q => by
    apply Classical.byContradiction
    intro z
    have := (h.1.ns hu z).2
    rw [this] at q
    rcases q with q | q <;> exact absurd q (by decide)
  have hk : ¬ (if z_Y m 15 u = 2 then (1 : Int32) else if z_Y m 15 u = 1 then (if code = 0 then 0 else 1) else 0) = 0 → z_Y (z_P (z_P m 33 u code) 32 u (if code = 0 then 0 else 1)) 0 u = 0 := fun z => by
    rw [yy 0 u (by omega) (by omega) (by omega)]
    by_cases q2 : z_Y m 15 u = 2
    · exact pol (Or.inl q2)
    · by_cases q1 : z_Y m 15 u = 1
      · exact pol (Or.inr q1)
      · rw [if_neg q2, if_neg q1] at z; exact absurd rfl z
  obtain ⟨l1, l2, l3, l4, l5⟩ := h2.le hx hu (by rw [yy 28 u (by omega) (by omega) (by omega)]; exact hst) code (if z_Y m 15 u = 2 then 1 else if z_Y m 15 u = 1 then (if code = 0 then 0 else 1) else 0) hk
  rw [yy 28 u (by omega) (by omega) (by omega)] at l4 l5
  have q5 := h2.1.q5 hu
  rw [yy 0 u (by omega) (by omega) (by omega), yy 15 u (by omega) (by omega) (by omega)] at q5
  have e15 : (if z_Y m 0 u = 0 then z_Y m 15 u else 0) = z_Y m 15 u := by
    by_cases z : z_Y m 0 u = 0
    · rw [if_pos z]
    · rw [if_neg z, (h.1.ns hu z).2]
  rw [e15] at q5
  have of15' : ∀ M0 : ux_M, ux_of M0 (nI u) 15 = z_Y M0 15 u := fun M0 => of15 M0 h16
  have y15 : z_Y (z_P (z_P m 33 u code) 32 u (if code = 0 then 0 else 1)) 15 u = z_Y m 15 u := yy 15 u (by omega) (by omega) (by omega)
  have jrE : ∀ w, z_jr (z_st (z_P (z_P m 33 u code) 32 u (if code = 0 then 0 else 1)) u) w = z_jr (z_st m u) w := fun w => by
    have e29 := yy 29 u (by omega) (by omega) (by omega)
    have ejr : ∀ w, z_jr (z_P (z_P m 33 u code) 32 u (if code = 0 then 0 else 1)) w = z_jr m w := fun w => by
      rw [z_jrP _ _ _ _ _ (by omega) (by omega) (by omega), z_jrP _ _ _ _ _ (by omega) (by omega) (by omega)]
    rw [z_jrst, z_jrst, e29, ejr, ejr]
  unfold z_ex
  refine ⟨?_, ?_, fun w => (l3 w).trans (jrE w), ?_⟩
  · unfold p_59 p_59_14 p_59_43 p_59_47
    simp only [z_cl h16, forall_eq]
    by_cases hcd : code = 0
    · simp only [hcd, if_true] at q5 l1 l2 ⊢
      by_cases z2 : z_Y m 15 u = 2
      · simp only [z2, if_true] at l1 q5
        simp only [q5.2, not_true_eq_false, false_implies, true_implies, true_and, and_true]
        exact ⟨z_i16 h16, z_i16 h16, q5.1, l1⟩
      · by_cases z1 : z_Y m 15 u = 1
        · simp only [z1, zn_12, if_true, if_false] at l1 q5
          simp only [q5.2, zn_12, not_true_eq_false, not_false_eq_true, false_implies, true_implies, true_and, and_true]
          exact ⟨z_i16 h16, z_i16 h16, q5.1, l1⟩
        · simp only [z1, z2, if_false] at l1
          simp only [q5.2, z1, z2, not_true_eq_false, not_false_eq_true, false_implies, true_implies, true_and, and_true]
          exact ⟨z_i16 h16, z_i16 h16, q5.1, l1⟩
    · simp only [hcd, if_false] at q5 l1 l2 ⊢
      by_cases z2 : z_Y m 15 u = 2
      · simp only [z2, if_true] at l1 q5
        simp only [q5.2, not_true_eq_false, not_false_eq_true, false_implies, true_implies, true_and, and_true]
        exact ⟨z_i16 h16, z_i16 h16, q5.1, l1⟩
      · by_cases z1 : z_Y m 15 u = 1
        · simp only [z1, zn_12, if_true, if_false] at l1 q5
          simp only [q5.2, zn_12, not_true_eq_false, not_false_eq_true, false_implies, true_implies, true_and, and_true]
          exact ⟨z_i16 h16, z_i16 h16, q5.1, l1⟩
        · simp only [z1, z2, if_false] at l1
          simp only [q5.2, z1, z2, not_true_eq_false, not_false_eq_true, false_implies, true_implies, true_and, and_true]
          exact ⟨z_i16 h16, z_i16 h16, q5.1, l1⟩
  · have e : m_59 k (nI u) code M = m_59_48 k (nI u) code (if z_Y m 15 u = 2 then 1 else if z_Y m 15 u = 1 then (if code = 0 then 0 else 1) else 0) (ux_set (ux_set M k 98433 0 u (if code = 0 then 0 else 1)) k 114817 0 u code) := by
      unfold m_59 m_59_14 m_59_43 m_59_47
      simp only [z_cl h16]
      by_cases hcd : code = 0
      · simp only [hcd, if_true] at q5 ⊢
        by_cases z2 : z_Y m 15 u = 2
        · simp only [q5.2, z2, if_true]
        · by_cases z1 : z_Y m 15 u = 1
          · simp only [q5.2, z1, zn_12, if_true, if_false]
          · simp only [q5.2, z1, z2, if_false]
      · simp only [hcd, if_false] at q5 ⊢
        by_cases z2 : z_Y m 15 u = 2
        · simp only [q5.2, z2, if_true]
        · by_cases z1 : z_Y m 15 u = 1
          · simp only [q5.2, z1, zn_12, if_true, if_false]
          · simp only [q5.2, z1, z2, if_false]
    rw [e]; exact l2
  · have e : (p_194 (nI u) code (if z_Y m 15 u = 2 then 1 else if z_Y m 15 u = 1 then (if code = 0 then 0 else 1) else 0) (z_P (z_P m 33 u code) 32 u (if code = 0 then 0 else 1)) → p_193 (nI u) code m) ∧ m_193 (nI u) code m = m_194 (nI u) code (if z_Y m 15 u = 2 then 1 else if z_Y m 15 u = 1 then (if code = 0 then 0 else 1) else 0) (z_P (z_P m 33 u code) 32 u (if code = 0 then 0 else 1)) := by
      unfold p_193 m_193 p_193_21 m_193_21
      simp only [pu33 _ _ h16, pu32 _ _ h16, of15', forall_eq]
      by_cases hcd : code = 0
      · simp only [hcd, if_true] at y15 ⊢
        by_cases z2 : z_Y m 15 u = 2
        · simp only [y15, z2, if_true, not_true_eq_false, not_false_eq_true, false_implies, true_implies, true_and, and_true]
          exact fun z => ⟨uu33 h16, uu32 h16, uu15 h16, z⟩
        · by_cases z1 : z_Y m 15 u = 1
          · simp only [y15, z1, zn_12, if_true, if_false, not_true_eq_false, not_false_eq_true, false_implies, true_implies, true_and, and_true]
            exact fun z => ⟨uu33 h16, uu32 h16, uu15 h16, uu15 h16, z⟩
          · simp only [y15, z1, z2, if_true, if_false, not_true_eq_false, not_false_eq_true, false_implies, true_implies, true_and, and_true]
            exact fun z => ⟨uu33 h16, uu32 h16, uu15 h16, uu15 h16, z⟩
      · simp only [hcd, if_false] at y15 ⊢
        by_cases z2 : z_Y m 15 u = 2
        · simp only [y15, z2, if_true, not_true_eq_false, not_false_eq_true, false_implies, true_implies, true_and, and_true]
          exact fun z => ⟨uu33 h16, uu32 h16, uu15 h16, z⟩
        · by_cases z1 : z_Y m 15 u = 1
          · simp only [y15, z1, zn_12, if_true, if_false, not_true_eq_false, not_false_eq_true, false_implies, true_implies, true_and, and_true]
            exact fun z => ⟨uu33 h16, uu32 h16, uu15 h16, uu15 h16, z⟩
          · simp only [y15, z1, z2, if_true, if_false, not_true_eq_false, not_false_eq_true, false_implies, true_implies, true_and, and_true]
            exact fun z => ⟨uu33 h16, uu32 h16, uu15 h16, uu15 h16, z⟩
    rw [e.2]
    exact ⟨fun z => ⟨e.1 (l4 z).1, (l4 z).2⟩, fun z => ⟨fun y => e.1 ((l5 z).1 y), (l5 z).2⟩⟩
end ZV
