/-! THE REFERENCE'S TRANSACTION: addsOne -/
/-- may not be added -/
def z_bl (m : ux_M) (T u : Nat) : Bool := z_bw m T u || (decide (¬ T = 2) && decide (z_Y m 31 u = 1))
/-- an essential job that hits a masked unit -/
def z_hm (m : ux_M) (T u : Nat) (z : Int32) : Prop := ¬ z = 0 ∧ ¬ T = 2 ∧ z_bw m T u = false ∧ z_Y m 31 u = 1
/-- one job is added, or is blocked -/
def z_d1 (m m' : ux_M) (T u : Nat) (z : Int32) : Prop := z_fM m m' ∧ (∀ X, m' 5 983073 0 X = m 5 983073 0 X) ∧ z_tv m' ∧ (z_ht m' = 0 ↔ z_ht m = 0 ∧ ¬ z_hm m T u z)
  ∧ (z_ch m' = 0 ↔ z_ch m = 0 ∧ (z_bl m T u = false → ∀ X, z_ad T (decide (¬ z = 0)) X = true → z_V m X u = true)) ∧ ∀ X w, w < 32 → z_V m' X w = (z_V m X w || (decide (w = u) && !z_bl m T u && z_ad T (decide (¬ z = 0)) X))
section ZB3
variable {k c u T : Nat} {m m' m'' : ux_M}
/-- a restart where a start is -/
theorem z_s31 (hu : u < 16) (z : Int32) (hz : ¬ z = 0) (hv : z_tv m) (h1 : z_j m 1 u = true) : p_199_121 (nI u) 3 z m ∧ z_dd m (m_199_121 (nI u) 3 z m) 3 u true := by
  have hu32 : u < 32 := by omega
  obtain ⟨v1, v2, v3, v4, v5⟩ := hv u hu32
  have j3 : z_j m 3 u = false := by simpa [h1] using v1
  have key : ∀ m2, m2 = ux_set (ux_set m 5 950305 0 1 ((m 5 950305 0 1) &&& (((1 : Int32) <<< (nI u &&& 31)) ^^^ ((-1) : Int32)))) 5 966689 0 1 ((m 5 966689 0 1) &&& (((1 : Int32) <<< (nI u &&& 31)) ^^^ ((-1) : Int32))) → p_199_151 (nI u) 3 z m2 ∧ z_dd m (m_199_151 (nI u) 3 z m2) 3 u true := fun m2 e => by
    have fm : z_fM m m2 := by rw [e]; exact (z_fM.rf.st _ _ _ (by omega)).st _ _ _ (by omega)
    have fb : ∀ X, m2 5 983073 0 X = m 5 983073 0 X := fun X => by rw [e]; simp [z_set]
    have fh : z_ht m2 = z_ht m := by rw [e]; unfold z_ht; simp [z_set]
    have fc : z_ch m2 = z_ch m := by rw [e]; unfold z_ch; simp [z_set]
    have hj : ∀ X w, w < 32 → z_j m2 X w = (z_j m X w && !(decide (X = 1) && decide (w = u))) := fun X w hw => by
      rw [e]; unfold z_j
      by_cases q : X = 1
      · subst q; simp only [z_set]; simp [b_and, -Int32.xor_neg_one]; rw [z_not _ hw, z_bit hu32 hw]
      · simp [z_set, q]
    have he : ∀ X w, w < 32 → z_e m2 X w = (z_e m X w && !(decide (X = 1) && decide (w = u))) := fun X w hw => by
      rw [e]; unfold z_e
      by_cases q : X = 1
      · subst q; simp only [z_set]; simp [b_and, -Int32.xor_neg_one]; rw [z_not _ hw, z_bit hu32 hw]
      · simp [z_set, q]
    have tv : z_tv m2 := fun w hw => by
      obtain ⟨w1, w2, w3, w4, w5⟩ := hv w hw
      rw [hj 1 w hw, hj 2 w hw, hj 3 w hw, he 1 w hw, he 2 w hw, he 3 w hw]
      by_cases q : w = u
      · subst q; simp
        exact ⟨w2, w4, fun h => by omega⟩
      · simp [q]
        exact ⟨by simpa using w1, w2, w3, w4, w5⟩
    have j1' : z_j m2 1 u = false := by rw [hj 1 u hu32]; simp
    obtain ⟨s0, s1, s2, s3, s4, s5, s6⟩ := z_s3 hu z hz tv j1'
    refine ⟨s0, fm.tr s1, fun X => (s2 X).trans (fb X), s3, s4.trans fh, s5.trans ?_, fun X w hw => ?_⟩
    · rw [z_ad3, z_ad3]
      have a : z_V m2 1 u = false := by simp only [z_V]; rw [hj 3 u hu32]; simp [j3]
      have b : z_V m 1 u = false := by simp only [z_V]; exact j3
      rw [a, b]
      constructor
      · rintro ⟨_, _, h, _⟩; cases h
      · rintro ⟨_, _, h, _⟩; cases h
    · rw [s6 X w hw]
      by_cases q : w = u
      · subst q
        match X with
        | 0 => simp [z_ad]
        | 1 => simp [z_ad]
        | 2 => simp only [z_V]; rw [hj 2 w hw]; simp [z_ad]
        | 3 => simp [z_ad]
        | 4 => simp only [z_V]; rw [he 2 w hw]; simp [z_ad]
        | n + 5 => simp only [z_V]
      · have e0 : ∀ X, z_j m2 X w = z_j m X w := fun X => by rw [hj X w hw]; simp [q]
        have e1 : ∀ X, z_e m2 X w = z_e m X w := fun X => by rw [he X w hw]; simp [q]
        have e2 : z_V m2 X w = z_V m X w := by
          match X with
          | 0 => simp only [z_V]; rw [e0, e0]
          | 1 => simp only [z_V]; rw [e0]
          | 2 => simp only [z_V]; rw [e0]
          | 3 => simp only [z_V]; rw [e1, e1]
          | 4 => simp only [z_V]; rw [e1]
          | n + 5 => rfl
        rw [e2]
  have r1 : ux_set m 5 950305 0 1 ((m 5 950305 0 1) &&& (((1 : Int32) <<< (nI u &&& 31)) ^^^ ((-1) : Int32))) 5 966689 0 1 = m 5 966689 0 1 := z_so (by decide)
  obtain ⟨k0, k1⟩ := key _ rfl
  unfold p_199_121 m_199_121
  simp only [z_c1, forall_eq, r1]
  exact ⟨⟨z_k1, z_k1, z_k1, z_k1, k0⟩, k1⟩
theorem z_n1 : nI 1 = (1 : Int32) := rfl
theorem z_n2 : nI 2 = (2 : Int32) := rfl
theorem z_n3 : nI 3 = (3 : Int32) := rfl
theorem z_dd.d1 {z : Int32} {b : Bool} (h : z_dd m m' T u b) (hb : z_bl m T u = false) (hz : T = 3 ∨ b = decide (¬ z = 0)) : z_d1 m m' T u z := by
  obtain ⟨h1, h2, h3, h4, h5, h6⟩ := h
  have ea : ∀ X, z_ad T b X = z_ad T (decide (¬ z = 0)) X := fun X => by
    rcases hz with q | q
    · subst q; simp [z_ad]
    · rw [q]
  refine ⟨h1, h2, h3, ⟨fun q => ⟨h4.symm.trans q, fun y => ?_⟩, fun q => h4.trans q.1⟩, ?_, fun X w hw => ?_⟩
  · obtain ⟨_, y2, _, y4⟩ := y
    unfold z_bl at hb
    simp [y2, y4] at hb
  · rw [h5]; simp only [ea, hb, true_implies]
  · rw [h6 X w hw, ea, hb]; simp
/-- ADDSONE -/
theorem z_a199 (hT : T = 1 ∨ T = 2 ∨ T = 3) (hu : u < 16) (z : Int32) (hv : z_tv m) (hz : T = 3 → ¬ z = 0) : p_199 (nI u) (nI T) z m ∧ z_d1 m (m_199 (nI u) (nI T) z m) T u z := by
  have hu32 : u < 32 := by omega
  have T4 : T < 4 := by omega
  have k4 := z_k4 T4
  have eT : (nI T).toNatClampNeg = T := z_cl (by omega)
  have eb : bt (m 5 983073 0 T) u = z_bw m T u := rfl
  have e3 : bt (m 5 950305 0 3) u = z_j m 3 u := rfl
  have e1 : bt (m 5 950305 0 1) u = z_j m 1 u := rfl
  have eT2 : nI T = 2 ↔ T = 2 := by rw [← z_n2]; exact z_eq (by omega) (by omega)
  obtain ⟨v1, v2, v3, v4, v5⟩ := hv u hu32
  -- what is not blocked
  have main : z_bl m T u = false → p_199_51 (nI u) (nI T) z m ∧ z_d1 m (m_199_51 (nI u) (nI T) z m) T u z := fun hb => by
    unfold p_199_51 m_199_51 p_199_73 m_199_73 p_199_74 m_199_74
    simp only [z_c1, z_c3, z_shr1 _ hu32, e3, e1]
    rcases hT with q | q | q
    · subst q
      rw [z_n1]
      cases j3 : z_j m 3 u
      · obtain ⟨s0, s1⟩ := z_s1 hu z hv j3
        simp only [zn_01, zn_02, zn_03, zn_10, zn_12, zn_13, zn_20, zn_21, zn_23, zn_30, zn_31, zn_32, if_true, if_false, not_true_eq_false, not_false_eq_true, true_implies, false_implies, Bool.false_eq_true]
        exact ⟨⟨trivial, z_k3, ⟨s0, trivial⟩, trivial⟩, s1.d1 hb (.inr rfl)⟩
      · obtain ⟨s0, s1, _⟩ := z_s13 hu z hv j3
        have j1 : z_j m 1 u = false := by simpa [j3] using v1
        simp only [j1, zn_01, zn_02, zn_03, zn_10, zn_12, zn_13, zn_20, zn_21, zn_23, zn_30, zn_31, zn_32, if_true, if_false, not_true_eq_false, not_false_eq_true, true_implies, false_implies, Bool.false_eq_true]
        exact ⟨⟨trivial, z_k3, trivial, trivial, z_k1, s0, trivial⟩, s1.d1 hb (.inr rfl)⟩
    · subst q
      rw [z_n2]
      obtain ⟨s0, s1⟩ := z_s2 hu z hv
      simp only [zn_01, zn_02, zn_03, zn_10, zn_12, zn_13, zn_20, zn_21, zn_23, zn_30, zn_31, zn_32, if_true, if_false, not_true_eq_false, not_false_eq_true, true_implies, false_implies, Bool.false_eq_true]
      exact ⟨⟨⟨s0, trivial⟩, trivial⟩, s1.d1 hb (.inr rfl)⟩
    · subst q
      rw [z_n3]
      have hz' := hz rfl
      cases j1 : z_j m 1 u
      · obtain ⟨s0, s1⟩ := z_s3 hu z hz' hv j1
        simp only [zn_01, zn_02, zn_03, zn_10, zn_12, zn_13, zn_20, zn_21, zn_23, zn_30, zn_31, zn_32, if_true, if_false, not_true_eq_false, not_false_eq_true, true_implies, false_implies, Bool.false_eq_true]
        exact ⟨⟨⟨trivial, z_k1, s0, trivial⟩, trivial⟩, s1.d1 hb (.inl rfl)⟩
      · obtain ⟨s0, s1⟩ := z_s31 hu 1 (by decide) hv j1
        unfold p_199_116 m_199_116
        simp only [hz', zn_01, zn_02, zn_03, zn_10, zn_12, zn_13, zn_20, zn_21, zn_23, zn_30, zn_31, zn_32, if_true, if_false, not_true_eq_false, not_false_eq_true, true_implies, false_implies, Bool.false_eq_true]
        exact ⟨⟨⟨trivial, z_k1, trivial, s0, trivial⟩, trivial⟩, s1.d1 hb (.inl rfl)⟩
  unfold p_199 m_199
  simp only [eT, z_shr1 _ hu32, eb, eT2, of31 _ hu]
  by_cases q1 : z_bw m T u = true
  · have hb : z_bl m T u = true := by simp [z_bl, q1]
    rw [if_pos q1]
    refine ⟨⟨k4, fun y => absurd q1 y, fun _ => trivial⟩, z_fM.rf, fun _ => rfl, hv, ⟨fun h => ⟨h, fun y => ?_⟩, fun h => h.1⟩, ⟨fun h => ⟨h, fun y => ?_⟩, fun h => h.1⟩, fun X w hw => ?_⟩
    · exact absurd (q1.symm.trans y.2.2.1) (by decide)
    · rw [hb] at y; cases y
    · simp [hb]
  · have q1' : z_bw m T u = false := by simpa using q1
    rw [if_neg q1]
    by_cases q2 : T = 2
    · obtain ⟨s0, s1⟩ := main (by unfold z_bl; rw [q1', q2]; rfl)
      rw [if_pos q2]
      exact ⟨⟨k4, fun _ => ⟨fun _ => s0, fun y => absurd q2 y⟩, fun y => absurd y q1⟩, s1⟩
    · rw [if_neg q2]
      by_cases q3 : z_Y m 31 u = 1
      · have hb : z_bl m T u = true := by simp [z_bl, q2, q3]
        rw [if_pos q3]
        have gen : ∀ h', (h' = 0 ↔ z_ht m = 0 ∧ z = 0) → z_d1 m (ux_set m 5 819253 0 19 h') T u z := fun h' hh => by
          have rj : ∀ X w, z_j (ux_set m 5 819253 0 19 h') X w = z_j m X w := fun X w => by unfold z_j; rw [z_so (by decide)]
          have re : ∀ X w, z_e (ux_set m 5 819253 0 19 h') X w = z_e m X w := fun X w => by unfold z_e; rw [z_so (by decide)]
          have rV : ∀ X w, z_V (ux_set m 5 819253 0 19 h') X w = z_V m X w := fun X w => by
            match X with
            | 0 => simp only [z_V]; rw [rj, rj]
            | 1 => simp only [z_V]; rw [rj]
            | 2 => simp only [z_V]; rw [rj]
            | 3 => simp only [z_V]; rw [re, re]
            | 4 => simp only [z_V]; rw [re]
            | n + 5 => rfl
          have rc : z_ch (ux_set m 5 819253 0 19 h') = z_ch m := by unfold z_ch; rw [z_si (by decide)]
          have rh : z_ht (ux_set m 5 819253 0 19 h') = h' := by unfold z_ht; rw [z_ss]
          refine ⟨z_fM.rf.st _ _ _ (by omega), fun X => z_so (by decide), fun w hw => by rw [rj, rj, rj, re, re, re]; exact hv w hw, ?_, ?_, fun X w hw => ?_⟩
          · rw [rh, hh]
            constructor
            · rintro ⟨a, b⟩; exact ⟨a, fun y => y.1 b⟩
            · rintro ⟨a, b⟩; exact ⟨a, Classical.byContradiction (fun y => b ⟨y, q2, q1', q3⟩)⟩
          · rw [rc]; exact ⟨fun h => ⟨h, fun y => by rw [hb] at y; cases y⟩, fun h => h.1⟩
          · rw [rV]; simp [hb]
        refine ⟨⟨k4, fun _ => ⟨fun y => absurd y q2, fun _ => ⟨uu31 hu, fun y => absurd q3 y, fun _ => trivial⟩⟩, fun y => absurd y q1⟩, ?_⟩
        have eh : m 5 819253 0 19 = z_ht m := rfl
        simp only [eh]
        by_cases q4 : z_ht m = 0
        · rw [if_pos q4]
          by_cases q5 : z = 0
          · rw [if_pos q5]; exact gen 0 ⟨fun _ => ⟨q4, q5⟩, fun _ => rfl⟩
          · rw [if_neg q5]; exact gen 1 ⟨fun y => absurd y (by decide), fun y => absurd y.2 q5⟩
        · rw [if_neg q4]; exact gen 1 ⟨fun y => absurd y (by decide), fun y => absurd y.1 q4⟩
      · obtain ⟨s0, s1⟩ := main (by simp [z_bl, q1', q3])
        rw [if_neg q3]
        exact ⟨⟨k4, fun _ => ⟨fun y => absurd y q2, fun _ => ⟨uu31 hu, fun _ => s0, fun y => absurd y q3⟩⟩, fun y => absurd y q1⟩, s1⟩
end ZB3
