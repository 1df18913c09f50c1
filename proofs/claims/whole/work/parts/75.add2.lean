/-! THE REFERENCE'S TRANSACTION: one job, in all cases -/
theorem z_ad1 {b : Bool} {P : Nat → Prop} : (∀ X, z_ad 1 b X = true → P X) ↔ P 0 ∧ (b = true → P 3) := by
  constructor
  · intro h; exact ⟨h 0 (by simp [z_ad]), fun hb => h 3 (by simp [z_ad, hb])⟩
  · intro h X hX
    simp [z_ad] at hX
    rcases hX with q | q
    · subst q; exact h.1
    · obtain ⟨q, hb⟩ := q; subst q; exact h.2 hb
theorem z_ad2 {b : Bool} {P : Nat → Prop} : (∀ X, z_ad 2 b X = true → P X) ↔ P 2 ∧ (b = true → P 4) := by
  constructor
  · intro h; exact ⟨h 2 (by simp [z_ad]), fun hb => h 4 (by simp [z_ad, hb])⟩
  · intro h X hX
    simp [z_ad] at hX
    rcases hX with q | q
    · subst q; exact h.1
    · obtain ⟨q, hb⟩ := q; subst q; exact h.2 hb
theorem z_ad3 {b : Bool} {P : Nat → Prop} : (∀ X, z_ad 3 b X = true → P X) ↔ P 0 ∧ P 1 ∧ P 3 := by
  constructor
  · intro h; exact ⟨h 0 (by simp [z_ad]), h 1 (by simp [z_ad]), h 3 (by simp [z_ad])⟩
  · intro h X hX
    simp [z_ad] at hX
    rcases hX with (q | q) | q
    · subst q; exact h.1
    · subst q; exact h.2.1
    · subst q; exact h.2.2
/-- a job that isn't blocked is added -/
def z_dd (m m' : ux_M) (T u : Nat) (b : Bool) : Prop := z_fM m m' ∧ (∀ X, m' 5 983073 0 X = m 5 983073 0 X) ∧ z_tv m' ∧ z_ht m' = z_ht m
  ∧ (z_ch m' = 0 ↔ z_ch m = 0 ∧ ∀ X, z_ad T b X = true → z_V m X u = true) ∧ ∀ X w, w < 32 → z_V m' X w = (z_V m X w || (decide (w = u) && z_ad T b X))
section ZB2
variable {k c u T : Nat} {m m' m'' : ux_M}
theorem z_i10 {p : Prop} [Decidable p] {x : Int32} (h : x = if p then 0 else 1) : x = 0 ↔ p := by
  by_cases q : p
  · rw [if_pos q] at h; exact ⟨fun _ => q, fun _ => h⟩
  · rw [if_neg q] at h; exact ⟨fun z => absurd (h.symm.trans z) (by decide), fun z => absurd z q⟩
/-- a start where no restart is -/
theorem z_s1 (hu : u < 16) (z : Int32) (hv : z_tv m) (h3 : z_j m 3 u = false) : p_199_151 (nI u) 1 z m ∧ z_dd m (m_199_151 (nI u) 1 z m) 1 u (decide (¬ z = 0)) := by
  obtain ⟨b0, b1, b2, b3, b4, b5⟩ := z_b151 (T := 1) (by omega) hu z m
  have n1 : nI 1 = (1 : Int32) := rfl
  rw [n1] at b0 b1 b2 b3 b4 b5
  generalize m_199_151 (nI u) 1 z m = m' at b1 b2 b3 b4 b5 ⊢
  obtain ⟨v1, v2, v3, v4, v5⟩ := hv u (by omega)
  rw [h3] at v2
  refine ⟨b0, b1, b2, fun w hw => ?_, b3, (z_i10 b4).trans ?_, fun X w hw => ?_⟩
  · obtain ⟨w1, w2, w3, w4, w5⟩ := hv w hw
    rw [(b5 1 w hw).1, (b5 3 w hw).1, (b5 3 w hw).2, (b5 1 w hw).2, (b5 2 w hw).1, (b5 2 w hw).2]
    by_cases q : w = u
    · subst q; simp [h3, v2]
      exact ⟨w4, hu⟩
    · simp [q]
      exact ⟨by simpa using w1, w2, w3, w4, w5⟩
  · rw [z_ad1]
    simp only [z_V, h3, v2, Bool.or_false, decide_eq_true_eq]
    constructor
    · rintro ⟨a, b, d⟩; exact ⟨a, b, fun hz => d.resolve_left hz⟩
    · rintro ⟨a, b, d⟩; exact ⟨a, b, (Classical.em (z = 0)).imp_right d⟩
  · have g1 := b5 1 w hw
    have g2 := b5 2 w hw
    have g3 := b5 3 w hw
    match X with
    | 0 => simp only [z_V]; rw [g1.1, g3.1]; simp [z_ad, Bool.or_right_comm]
    | 1 => simp only [z_V]; rw [g3.1]; simp [z_ad]
    | 2 => simp only [z_V]; rw [g2.1]; simp [z_ad]
    | 3 => simp only [z_V]; rw [g1.2, g3.2]; simp [z_ad, Bool.or_right_comm]
    | 4 => simp only [z_V]; rw [g2.2]; simp [z_ad]
    | n + 5 => simp only [z_V]; simp [z_ad]
/-- a stop -/
theorem z_s2 (hu : u < 16) (z : Int32) (hv : z_tv m) : p_199_151 (nI u) 2 z m ∧ z_dd m (m_199_151 (nI u) 2 z m) 2 u (decide (¬ z = 0)) := by
  obtain ⟨b0, b1, b2, b3, b4, b5⟩ := z_b151 (T := 2) (by omega) hu z m
  have n1 : nI 2 = (2 : Int32) := rfl
  rw [n1] at b0 b1 b2 b3 b4 b5
  generalize m_199_151 (nI u) 2 z m = m' at b1 b2 b3 b4 b5 ⊢
  refine ⟨b0, b1, b2, fun w hw => ?_, b3, (z_i10 b4).trans ?_, fun X w hw => ?_⟩
  · obtain ⟨w1, w2, w3, w4, w5⟩ := hv w hw
    rw [(b5 1 w hw).1, (b5 3 w hw).1, (b5 3 w hw).2, (b5 1 w hw).2, (b5 2 w hw).1, (b5 2 w hw).2]
    by_cases q : w = u
    · subst q; simp
      exact ⟨by simpa using w1, w2, w3, hu⟩
    · simp [q]
      exact ⟨by simpa using w1, w2, w3, w4, w5⟩
  · rw [z_ad2]
    simp only [z_V, decide_eq_true_eq]
    constructor
    · rintro ⟨a, b, d⟩; exact ⟨a, b, fun hz => d.resolve_left hz⟩
    · rintro ⟨a, b, d⟩; exact ⟨a, b, (Classical.em (z = 0)).imp_right d⟩
  · have g1 := b5 1 w hw
    have g2 := b5 2 w hw
    have g3 := b5 3 w hw
    match X with
    | 0 => simp only [z_V]; rw [g1.1, g3.1]; simp [z_ad]
    | 1 => simp only [z_V]; rw [g3.1]; simp [z_ad]
    | 2 => simp only [z_V]; rw [g2.1]; simp [z_ad]
    | 3 => simp only [z_V]; rw [g1.2, g3.2]; simp [z_ad]
    | 4 => simp only [z_V]; rw [g2.2]; simp [z_ad]
    | n + 5 => simp only [z_V]; simp [z_ad]
/-- a start or a restart where a restart is already -/
theorem z_s13 (hu : u < 16) (z : Int32) (hv : z_tv m) (h3 : z_j m 3 u = true) : p_199_151 (nI u) 3 z m ∧ z_dd m (m_199_151 (nI u) 3 z m) 1 u (decide (¬ z = 0)) ∧ z_dd m (m_199_151 (nI u) 3 z m) 3 u true := by
  obtain ⟨b0, b1, b2, b3, b4, b5⟩ := z_b151 (T := 3) (by omega) hu z m
  have n1 : nI 3 = (3 : Int32) := rfl
  rw [n1] at b0 b1 b2 b3 b4 b5
  generalize m_199_151 (nI u) 3 z m = m' at b1 b2 b3 b4 b5 ⊢
  obtain ⟨v1, v2, v3, v4, v5⟩ := hv u (by omega)
  rw [h3] at v2
  have hj : ∀ X w, w < 32 → z_j m' X w = z_j m X w := fun X w hw => by
    rw [(b5 X w hw).1]
    by_cases q : X = 3 ∧ w = u
    · obtain ⟨rfl, rfl⟩ := q; simp [h3]
    · have : (decide (X = 3) && decide (w = u)) = false := by simpa using q
      rw [this, Bool.or_false]
  have he : ∀ X w, w < 32 → z_e m' X w = z_e m X w := fun X w hw => by
    rw [(b5 X w hw).2]
    by_cases q : X = 3 ∧ w = u
    · obtain ⟨rfl, rfl⟩ := q; simp [v2]
    · have : (decide (X = 3) && decide (w = u)) = false := by simpa using q
      rw [this, Bool.false_and, Bool.or_false]
  have tv : z_tv m' := fun w hw => by rw [hj _ _ hw, hj _ _ hw, hj _ _ hw, he _ _ hw, he _ _ hw, he _ _ hw]; exact hv w hw
  have hV : ∀ X w, w < 32 → z_V m' X w = z_V m X w := fun X w hw => by
    match X with
    | 0 => simp only [z_V]; rw [hj _ _ hw, hj _ _ hw]
    | 1 => simp only [z_V]; rw [hj _ _ hw]
    | 2 => simp only [z_V]; rw [hj _ _ hw]
    | 3 => simp only [z_V]; rw [he _ _ hw, he _ _ hw]
    | 4 => simp only [z_V]; rw [he _ _ hw]
    | n + 5 => rfl
  have f0 : z_V m 0 u = true := by simp [z_V, h3]
  have f1 : z_V m 1 u = true := by simp [z_V, h3]
  have f3 : z_V m 3 u = true := by simp [z_V, v2]
  have hc : z_ch m' = 0 ↔ z_ch m = 0 := (z_i10 b4).trans ⟨fun h => h.1, fun h => ⟨h, h3, .inr v2⟩⟩
  refine ⟨b0, ⟨b1, b2, tv, b3, hc.trans ⟨fun h => ⟨h, z_ad1.mpr ⟨f0, fun _ => f3⟩⟩, fun h => h.1⟩, fun X w hw => ?_⟩, ⟨b1, b2, tv, b3, hc.trans ⟨fun h => ⟨h, z_ad3.mpr ⟨f0, f1, f3⟩⟩, fun h => h.1⟩, fun X w hw => ?_⟩⟩
  · rw [hV X w hw]
    by_cases q : w = u
    · subst q
      have := z_ad1 (b := decide (¬ z = 0)) (P := fun X => z_V m X w = true) |>.mpr ⟨f0, fun _ => f3⟩ X
      cases e : z_ad 1 (decide (¬ z = 0)) X
      · simp
      · rw [this e]; simp
    · simp [q]
  · rw [hV X w hw]
    by_cases q : w = u
    · subst q
      have := z_ad3 (b := true) (P := fun X => z_V m X w = true) |>.mpr ⟨f0, f1, f3⟩ X
      cases e : z_ad 3 true X
      · simp
      · rw [this e]; simp
    · simp [q]
/-- a restart where no start is -/
theorem z_s3 (hu : u < 16) (z : Int32) (hz : ¬ z = 0) (hv : z_tv m) (h1 : z_j m 1 u = false) : p_199_151 (nI u) 3 z m ∧ z_dd m (m_199_151 (nI u) 3 z m) 3 u true := by
  obtain ⟨b0, b1, b2, b3, b4, b5⟩ := z_b151 (T := 3) (by omega) hu z m
  have n1 : nI 3 = (3 : Int32) := rfl
  rw [n1] at b0 b1 b2 b3 b4 b5
  generalize m_199_151 (nI u) 3 z m = m' at b1 b2 b3 b4 b5 ⊢
  obtain ⟨v1, v2, v3, v4, v5⟩ := hv u (by omega)
  have e1 : z_e m 1 u = false := by
    cases q : z_e m 1 u
    · rfl
    · rw [v3 q] at h1; cases h1
  refine ⟨b0, b1, b2, fun w hw => ?_, b3, (z_i10 b4).trans ?_, fun X w hw => ?_⟩
  · obtain ⟨w1, w2, w3, w4, w5⟩ := hv w hw
    rw [(b5 1 w hw).1, (b5 3 w hw).1, (b5 3 w hw).2, (b5 1 w hw).2, (b5 2 w hw).1, (b5 2 w hw).2]
    by_cases q : w = u
    · subst q; simp [h1, e1, hz]
      exact ⟨w4, hu⟩
    · simp [q]
      exact ⟨by simpa using w1, w2, w3, w4, w5⟩
  · rw [z_ad3]
    simp only [z_V, h1, e1, v2, Bool.false_or]
    constructor
    · rintro ⟨a, b, _⟩; exact ⟨a, b, b, b⟩
    · rintro ⟨a, b, _, _⟩; exact ⟨a, b, .inr b⟩
  · have g1 := b5 1 w hw
    have g2 := b5 2 w hw
    have g3 := b5 3 w hw
    match X with
    | 0 => simp only [z_V]; rw [g1.1, g3.1]; simp [z_ad, Bool.or_assoc]
    | 1 => simp only [z_V]; rw [g3.1]; simp [z_ad]
    | 2 => simp only [z_V]; rw [g2.1]; simp [z_ad]
    | 3 => simp only [z_V]; rw [g1.2, g3.2]; simp [z_ad, hz, Bool.or_assoc]
    | 4 => simp only [z_V]; rw [g2.2]; simp [z_ad]
    | n + 5 => simp only [z_V]; simp [z_ad]
end ZB2
