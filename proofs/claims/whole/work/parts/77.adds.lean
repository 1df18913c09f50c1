/-! THE REFERENCE'S TRANSACTION: many jobs added -/
/-- the jobs R are added -/
def z_dG (m m' : ux_M) (R : Nat → Nat → Bool) (H : Prop) : Prop := z_fM m m' ∧ (∀ X, m' 5 983073 0 X = m 5 983073 0 X) ∧ z_tv m' ∧ (z_ht m' = 0 ↔ z_ht m = 0 ∧ ¬ H) ∧ (z_ch m' = 0 ↔ z_ch m = 0 ∧ ∀ X w, R X w = true → z_V m X w = true)
  ∧ (∀ X w, w < 32 → z_V m' X w = (z_V m X w || R X w)) ∧ ∀ X w, R X w = true → w < 16
section ZB4
variable {k c u T n : Nat} {m m' m'' : ux_M} {R R' : Nat → Nat → Bool} {H H' : Prop}
theorem z_dG.fr (h : z_dG m m' R H) : z_fM m m' := h.1
theorem z_dG.bs (h : z_dG m m' R H) : ∀ X, m' 5 983073 0 X = m 5 983073 0 X := h.2.1
theorem z_dG.tv (h : z_dG m m' R H) : z_tv m' := h.2.2.1
theorem z_dG.ht (h : z_dG m m' R H) : z_ht m' = 0 ↔ z_ht m = 0 ∧ ¬ H := h.2.2.2.1
theorem z_dG.ch (h : z_dG m m' R H) : z_ch m' = 0 ↔ z_ch m = 0 ∧ ∀ X w, R X w = true → z_V m X w = true := h.2.2.2.2.1
theorem z_dG.vv (h : z_dG m m' R H) : ∀ X w, w < 32 → z_V m' X w = (z_V m X w || R X w) := h.2.2.2.2.2.1
theorem z_dG.rr (h : z_dG m m' R H) : ∀ X w, R X w = true → w < 16 := h.2.2.2.2.2.2
theorem z_dG.no (hv : z_tv m) : z_dG m m (fun _ _ => false) False := ⟨z_fM.rf, fun _ => rfl, hv, by simp, by simp, fun X w _ => by simp, fun X w h => by simp at h⟩
theorem z_dG.eqv (h : z_dG m m' R H) (e : ∀ X w, R X w = R' X w) (e' : H ↔ H') : z_dG m m' R' H' := by
  have : R = R' := by funext X w; exact e X w
  have h2 : H = H' := propext e'
  rw [← this, ← h2]; exact h
theorem z_dG.cp (h : z_dG m m' R H) (h' : z_dG m' m'' R' H') : z_dG m m'' (fun X w => R X w || R' X w) (H ∨ H') := by
  refine ⟨h.fr.tr h'.fr, fun X => (h'.bs X).trans (h.bs X), h'.tv, by rw [h'.ht, h.ht, not_or, and_assoc], ?_, fun X w hw => by rw [h'.vv X w hw, h.vv X w hw, Bool.or_assoc], fun X w q => ?_⟩
  · rw [h'.ch, h.ch]
    constructor
    · rintro ⟨⟨a, b⟩, d⟩
      refine ⟨a, fun X w q => ?_⟩
      cases e : R X w
      · simp only [e, Bool.false_or] at q
        have := d X w q
        rw [h.vv X w (by have := h'.rr X w q; omega), e, Bool.or_false] at this; exact this
      · exact b X w e
    · rintro ⟨a, b⟩
      refine ⟨⟨a, fun X w q => b X w (by simp [q])⟩, fun X w q => ?_⟩
      rw [h.vv X w (by have := h'.rr X w q; omega), b X w (by simp [q])]; rfl
  · cases e : R X w
    · simp only [e, Bool.false_or] at q; exact h'.rr X w q
    · exact h.rr X w e
theorem z_fM.bl (h : z_fM m m') (hb : ∀ X, m' 5 983073 0 X = m 5 983073 0 X) (T w : Nat) : z_bl m' T w = z_bl m T w := by
  unfold z_bl z_bw; rw [hb, h.Y]
theorem z_fM.hm (h : z_fM m m') (hb : ∀ X, m' 5 983073 0 X = m 5 983073 0 X) (T w : Nat) (z : Int32) : z_hm m' T w z ↔ z_hm m T w z := by
  unfold z_hm z_bw; rw [hb, h.Y]
theorem z_dG.bl (h : z_dG m m' R H) (T w : Nat) : z_bl m' T w = z_bl m T w := h.fr.bl h.bs T w
theorem z_dG.hm (h : z_dG m m' R H) (T w : Nat) (z : Int32) : z_hm m' T w z ↔ z_hm m T w z := h.fr.hm h.bs T w z
theorem z_g199 (hT : T = 1 ∨ T = 2 ∨ T = 3) (hu : u < 16) (z : Int32) (hv : z_tv m) (hz : T = 3 → ¬ z = 0) : p_199 (nI u) (nI T) z m ∧ z_dG m (m_199 (nI u) (nI T) z m) (fun X w => decide (w = u) && !z_bl m T u && z_ad T (decide (¬ z = 0)) X) (z_hm m T u z) := by
  obtain ⟨a, b1, b2, b3, b4, b5, b6⟩ := z_a199 hT hu z hv hz
  refine ⟨a, b1, b2, b3, b4, b5.trans ?_, b6, fun X w q => ?_⟩
  · constructor
    · rintro ⟨x, y⟩
      refine ⟨x, fun X w q => ?_⟩
      simp only [Bool.and_eq_true, decide_eq_true_eq, Bool.not_eq_true'] at q
      obtain ⟨⟨q1, q2⟩, q3⟩ := q
      subst q1; exact y q2 X q3
    · rintro ⟨x, y⟩
      exact ⟨x, fun q X q' => y X u (by simp only [q, q', decide_true, Bool.not_false, Bool.and_self])⟩
  · simp only [Bool.and_eq_true, decide_eq_true_eq] at q
    omega
/-- ADDS, from the i-th unit -/
theorem z_l202 (hT : T = 1 ∨ T = 2 ∨ T = 3) (x z : Int32) (hz : T = 3 → ¬ z = 0) (hc : c ≤ 16) : ∀ (n f i : Nat) (m : ux_M), i + n = c → n < f → m 5 844257 0 1 = nI c → z_tv m →
    p_202_3 f x (nI T) z (nI i) m ∧ z_dG m (m_202_3 f x (nI T) z (nI i) m) (fun X w => decide (i ≤ w) && decide (w < c) && bt x w && !z_bl m T w && z_ad T (decide (¬ z = 0)) X) (∃ w, i ≤ w ∧ w < c ∧ bt x w = true ∧ z_hm m T w z) := by
  intro n
  induction n with
  | zero =>
    intro f i m hi hf hm hv
    obtain ⟨f, rfl⟩ : ∃ g, f = g + 1 := ⟨f - 1, by omega⟩
    have hle := z_yle (show c ≤ i by omega) (by omega)
    rw [p_202_3, m_202_3, z_c1, hm, if_pos hle]
    refine ⟨⟨z_v1, fun _ => trivial, fun q => absurd hle q⟩, (z_dG.no hv).eqv (fun X w => ?_) ⟨fun q => q.elim, fun ⟨w, q1, q2, _⟩ => by omega⟩⟩
    have : (decide (i ≤ w) && decide (w < c)) = false := by
      by_cases q : i ≤ w
      · have : ¬ w < c := by omega
        simp [this]
      · simp [q]
    rw [this]; rfl
  | succ n ih =>
    intro f i m hi hf hm hv
    obtain ⟨f, rfl⟩ : ∃ g, f = g + 1 := ⟨f - 1, by omega⟩
    have hic : i < c := by omega
    have hle := z_nle hic hc
    have i32 : i < 32 := by omega
    rw [p_202_3, m_202_3, z_c1, hm, if_neg hle]
    simp only [z_shr1 _ i32, z_nx]
    cases e : bt x i
    · obtain ⟨r1, r2⟩ := ih f (i + 1) m (by omega) (by omega) hm hv
      simp only [Bool.false_eq_true, if_false, not_false_eq_true, true_implies, false_implies, and_true]
      refine ⟨⟨z_v1, fun q => absurd q hle, fun _ => r1⟩, r2.eqv (fun X w => ?_) ⟨fun ⟨w, q1, q2⟩ => ⟨w, by omega, q2⟩, fun ⟨w, q1, q2, q3, q4⟩ => ⟨w, ?_, q2, q3, q4⟩⟩⟩
      · by_cases q : w = i
        · subst q; simp [e]
        · have : (decide (i + 1 ≤ w)) = decide (i ≤ w) := by
            by_cases y : i ≤ w
            · have : i + 1 ≤ w := by omega
              simp [y, this]
            · have : ¬ i + 1 ≤ w := by omega
              simp [y, this]
          rw [this]
      · have : ¬ w = i := fun y => by subst y; rw [e] at q3; cases q3
        omega
    · obtain ⟨s0, s1⟩ := z_g199 hT (show i < 16 by omega) z hv hz
      obtain ⟨r1, r2⟩ := ih f (i + 1) _ (by omega) (by omega) ((s1.fr.row 1).trans hm) s1.tv
      simp only [if_true, not_true_eq_false, true_implies, false_implies, true_and]
      refine ⟨⟨z_v1, fun q => absurd q hle, fun _ => ⟨s0, r1⟩⟩, (s1.cp r2).eqv (fun X w => ?_) ⟨fun q => ?_, fun ⟨w, q1, q2, q3, q4⟩ => ?_⟩⟩
      · simp only [s1.bl]
        by_cases q : w = i
        · subst q
          have : ¬ w + 1 ≤ w := by omega
          simp [e, hic, this]
        · have : (decide (i + 1 ≤ w)) = decide (i ≤ w) := by
            by_cases y : i ≤ w
            · have : i + 1 ≤ w := by omega
              simp [y, this]
            · have : ¬ i + 1 ≤ w := by omega
              simp [y, this]
          simp [this, q]
      · rcases q with q | ⟨w, q1, q2, q3, q4⟩
        · exact ⟨i, Nat.le_refl _, hic, e, q⟩
        · exact ⟨w, by omega, q2, q3, (s1.hm T w z).mp q4⟩
      · by_cases y : w = i
        · subst y; exact .inl q4
        · exact .inr ⟨w, by omega, q2, q3, (s1.hm T w z).mpr q4⟩
/-- ADDS -/
theorem z_a202 (hT : T = 1 ∨ T = 2 ∨ T = 3) (x z : Int32) (hz : T = 3 → ¬ z = 0) (hc : c ≤ 16) (hm : m 5 844257 0 1 = nI c) (hv : z_tv m) :
    p_202 x (nI T) z m ∧ z_dG m (m_202 x (nI T) z m) (fun X w => decide (w < c) && bt x w && !z_bl m T w && z_ad T (decide (¬ z = 0)) X) (∃ w, w < c ∧ bt x w = true ∧ z_hm m T w z) := by
  obtain ⟨r1, r2⟩ := z_l202 hT x z hz hc c ux_fuel 0 m (by omega) (by have := z_fuel; omega) hm hv
  exact ⟨r1, r2.eqv (fun X w => by simp) ⟨fun ⟨w, _, q⟩ => ⟨w, q⟩, fun ⟨w, q⟩ => ⟨w, Nat.zero_le _, q⟩⟩⟩
end ZB4
