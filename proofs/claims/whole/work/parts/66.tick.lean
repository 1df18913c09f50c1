/-! stopping what is bound; what is due; a tick -/
section ZK
variable {k c t B B' u v a b s x n : Nat} {M m M' m' m'' : ux_M}
/-- the units that are bound to u are stopped -/
theorem z_sbl (hTX : z_TX k c) (hBC : z_BC) (hu : u < c) : ∀ (n f f' i : Nat) (M m : ux_M), i + n = c → n < f → n < f' → z_R 99 b k c t B M m →
    p_63_2 f k (nI u) (nI i) M ∧ p_196_2 f' (nI u) (nI i) m ∧ z_R 99 b k c t B (m_63_2 f k (nI u) (nI i) M) (m_196_2 f' (nI u) (nI i) m) := by
  intro n
  induction n with
  | zero =>
    intro f f' i M m hi hf hf' h
    obtain ⟨f, rfl⟩ : ∃ g, f = g + 1 := ⟨f - 1, by omega⟩
    obtain ⟨f', rfl⟩ : ∃ g, f' = g + 1 := ⟨f' - 1, by omega⟩
    have hle := z_yle (show c ≤ i by omega) (by have := h.1.le; omega)
    rw [p_63_2, p_196_2, m_63_2, m_196_2, h.1.cnt, z_c1, h.1.cn, if_pos hle, if_pos hle]
    exact ⟨⟨fun _ => trivial, fun z => absurd hle z⟩, ⟨z_v1, fun _ => trivial, fun z => absurd hle z⟩, h⟩
  | succ n ih =>
    intro f f' i M m hi hf hf' h
    obtain ⟨f, rfl⟩ : ∃ g, f = g + 1 := ⟨f - 1, by omega⟩
    obtain ⟨f', rfl⟩ : ∃ g, f' = g + 1 := ⟨f' - 1, by omega⟩
    have hu32 : u < 32 := by have := h.1.u16 hu; omega
    have hic : i < c := by omega
    have hi16 := h.1.u16 hic
    have hle := z_nle hic h.1.le
    have r := ih f f' (i + 1) M m (by omega) (by omega) (by omega) h
    obtain ⟨o1, o2, o3, o4, o5, o6, _⟩ := h.ord hTX hBC hic 2 (by simp) 1
    have ro := ih f f' (i + 1) _ _ (by omega) (by omega) (by omega) o5
    rw [p_63_2, p_196_2, m_63_2, m_196_2]
    simp only [h.1.cnt, h.1.cn, z_c1, z_c2, hle, if_false, not_false_eq_true, true_implies, false_implies, true_and, z_cl hi16, h.1.r2 hic, h.1.d28 hic, of24 _ hi16, of28 _ hi16, z_shr _ hu32, z_shr1 _ hu32, z_nx, z_10, not_true_eq_false, if_true]
    by_cases q : bt (z_Y m 24 i) u = true
    · by_cases s12 : z_Y m 28 i = 1
      · simp only [q, s12, Bool.true_eq_false, if_true, if_false, not_true_eq_false, not_false_eq_true, true_implies, false_implies, true_and, and_true]
        by_cases z : r_197 (nI i) 2 m = 0
        · simp only [z, if_true, not_true_eq_false, true_implies, false_implies, true_and] at ro o3 ⊢
          exact ⟨⟨z_r2, z_i16 hi16, z_i16 hi16, o1, ro.1⟩, ⟨z_v1, uu24 hi16, uu28 hi16, o2, o3, ro.2.1⟩, ro.2.2⟩
        · simp only [z, if_false, not_false_eq_true, true_implies, false_implies, and_true] at ro ⊢
          exact ⟨⟨z_r2, z_i16 hi16, z_i16 hi16, o1, ro.1⟩, ⟨z_v1, uu24 hi16, uu28 hi16, o2, ro.2.1⟩, ro.2.2⟩
      · by_cases s2 : z_Y m 28 i = 2
        · simp only [q, s2, zn_21, Bool.true_eq_false, if_true, if_false, not_true_eq_false, not_false_eq_true, true_implies, false_implies, true_and, and_true]
          by_cases z : r_197 (nI i) 2 m = 0
          · simp only [z, if_true, not_true_eq_false, true_implies, false_implies, true_and] at ro o3 ⊢
            exact ⟨⟨z_r2, z_i16 hi16, z_i16 hi16, z_i16 hi16, o1, ro.1⟩, ⟨z_v1, uu24 hi16, uu28 hi16, uu28 hi16, o2, o3, ro.2.1⟩, ro.2.2⟩
          · simp only [z, if_false, not_false_eq_true, true_implies, false_implies, and_true] at ro ⊢
            exact ⟨⟨z_r2, z_i16 hi16, z_i16 hi16, z_i16 hi16, o1, ro.1⟩, ⟨z_v1, uu24 hi16, uu28 hi16, uu28 hi16, o2, ro.2.1⟩, ro.2.2⟩
        · simp only [q, s12, s2, Bool.true_eq_false, if_true, if_false, not_true_eq_false, not_false_eq_true, true_implies, false_implies, true_and, and_true]
          exact ⟨⟨z_r2, z_i16 hi16, z_i16 hi16, z_i16 hi16, r.1⟩, ⟨z_v1, uu24 hi16, uu28 hi16, uu28 hi16, r.2.1⟩, r.2.2⟩
    · have q' : bt (z_Y m 24 i) u = false := by simpa using q
      simp only [q', Bool.false_eq_true, if_true, if_false, not_true_eq_false, not_false_eq_true, true_implies, false_implies, true_and, and_true]
      exact ⟨⟨z_r2, z_i16 hi16, r.1⟩, ⟨z_v1, uu24 hi16, r.2.1⟩, r.2.2⟩
theorem z_R.sb (hTX : z_TX k c) (hBC : z_BC) (h : z_R 99 b k c t B M m) (hu : u < c) : p_63 k (nI u) M ∧ p_196 (nI u) m ∧ z_R 99 b k c t B (m_63 k (nI u) M) (m_196 (nI u) m) := by
  have hc := h.1.le
  have hfu : c < ux_fuel := by have := z_fuel; omega
  exact z_sbl hTX hBC hu c ux_fuel ux_fuel 0 M m (by omega) hfu hfu h
/-- what is due for a unit -/
theorem z_mx {n : Nat} (hn : n < 2000000000) : ¬ nI n = 2147483647 := fun z => by
  have := (nI_eq (a := n) (b := 2147483647) (by omega) (by omega)).mp z; omega
theorem z_nm1 {n : Nat} (hn : n < 2000000000) : ¬ nI n = -1 := fun z => by
  have e : (nI n : Int32) < 0 := by rw [z]; decide
  exact nI_pos (by omega) e
theorem z_due (h : z_R 99 b k c t B M m) (hu : u < c) : p_49 k (nI u) M ∧ p_178 (nI u) m
    ∧ (r_49 k (nI u) M = r_178 (nI u) m ∨ (z_Y m 28 u = 5 ∧ r_178 (nI u) m = -1 ∧ ∃ x, r_49 k (nI u) M = nI x ∧ ¬ z_dl b t u x ∧ x ≤ 1005000))
    ∧ (r_178 (nI u) m = -1 ∨ ∃ x, r_178 (nI u) m = nI x ∧ z_dl b t u x ∧ x ≤ 1005000) := by
  have h16 := h.1.u16 hu
  have hc := h.1.le
  obtain ⟨hBu, hDu⟩ := h.2 u hu
  obtain ⟨D0, D1, D3, D5, D2⟩ := hDu (by omega)
  simp only [z_AY _ _ (show 28 < 56 by omega), z_AY _ _ (show 35 < 56 by omega), z_AY _ _ (show 0 < 56 by omega), z_AY _ _ (show 34 < 56 by omega), z_AY _ _ (show 10 < 56 by omega), z_AY _ _ (show 11 < 56 by omega), z_AY _ _ (show 16 < 56 by omega), z_AY _ _ (show 36 < 56 by omega), z_AY _ _ (show 12 < 56 by omega), z_AY _ _ (show 19 < 56 by omega), z_AY _ _ (show 37 < 56 by omega)] at D0 D1 D3 D5 D2
  obtain ⟨_, _, ⟨n12, hn12, e12⟩, _, _, _, _, _, _, ⟨n19, hn19, e19⟩⟩ := h.1.rng hu
  have p49 : p_49 k (nI u) M := by
    unfold p_49 p_49_160 p_49_180
    exact ⟨z_i16 h16, fun _ => ⟨z_i16 h16, fun _ => ⟨z_i16 h16, pv0 h16⟩, fun _ => ⟨fun _ => ⟨pv2 h16, pv9 h16, fun _ => ⟨z_i16 h16, fun _ => ⟨z_i16 h16, trivial⟩, fun _ => trivial⟩, fun _ => ⟨fun _ => ⟨z_i16 h16, trivial⟩, fun _ => trivial⟩⟩, fun _ => ⟨fun _ => ⟨z_i16 h16, pv1 h16⟩, fun _ => ⟨fun _ => trivial, fun _ => ⟨fun _ => ⟨z_i16 h16, pv6 h16⟩, fun _ => trivial⟩⟩⟩⟩⟩, fun _ => trivial⟩
  have p178 : p_178 (nI u) m := by
    unfold p_178 p_178_59 p_178_91
    exact ⟨uu28 h16, fun _ => uu35 h16, fun _ => ⟨uu0 h16, fun _ => ⟨uu12 h16, fun _ => ⟨uu19 h16, fun _ => trivial, fun _ => ⟨uu37 h16, uu19 h16, trivial⟩⟩, fun _ => ⟨uu36 h16, uu12 h16, uu19 h16, fun _ => trivial, fun _ => ⟨uu37 h16, uu19 h16, trivial⟩⟩⟩, fun _ => uu35 h16⟩⟩
  refine ⟨p49, p178, ?_⟩
  unfold r_49 r_178
  simp only [z_cl h16, h.1.kd hu, h.1.d28 hu, h.1.d34 hu, pr0 h16, pr1 h16, pr2 h16, pr6 h16, pr9 h16, h.1.p0 hu, h.1.p1 hu, h.1.p2 hu, h.1.p6 hu, h.1.p9 hu, of28 _ h16, of0 _ h16, of35 _ h16, of12 _ h16, of36 _ h16]
  rcases h.2.st hu with q | q | q | q | q | q
  · have e := D0 (Or.inl q)
    simp only [q, e, zn_01, zn_02, zn_03, zn_04, zn_05, if_false, ite_self]
    exact ⟨Or.inl trivial, Or.inl trivial⟩
  · obtain ⟨k0, e, x, ex, hl, hx⟩ := D1 q
    rw [ex] at e
    simp only [q, k0, e, ex, zn_12, if_true, if_false]
    exact ⟨Or.inl trivial, Or.inr ⟨x, rfl, hl, hx⟩⟩
  · obtain ⟨e35, hk⟩ := D2 q
    by_cases k0 : z_Y m 0 u = 0
    · obtain ⟨e36, hr, hi⟩ := hk k0
      simp only [q, k0, zn_21, if_true, if_false, e36, e12, z_e0 (show n12 < 2000000000 by omega), z_pos (show n12 < 2000000000 by omega)]
      unfold r_49_160 r_49_180 r_178_59 r_178_91
      simp only [z_cl h16, h.1.d37 hu, of19 _ h16, of37 _ h16, e19, z_e0 (show n19 < 2000000000 by omega), z_pos (show n19 < 2000000000 by omega)]
      by_cases r0 : n12 = 0
      · by_cases i0 : n19 = 0
        · simp only [r0, i0, if_true, Int32.lt_irrefl, if_false]
          exact ⟨Or.inl trivial, Or.inl trivial⟩
        · obtain ⟨x, ex, hl, hx⟩ := hi (by rw [e19]; exact fun z => i0 ((z_e0 (by omega)).mp z))
          rw [e19] at ex
          have lt : nI x < (2147483647 : Int32) := (nI_ltI (a := x) (b := 2147483647) (by omega) (by omega)).mpr (by omega)
          have lt2 : ¬ (2147483647 : Int32) < nI x := fun z => by have := (nI_ltI (a := 2147483647) (b := x) (by omega) (by omega)).mp z; omega
          simp only [r0, i0, ex, if_true, if_false, lt, lt2, z_mx (show x < 2000000000 by omega)]
          exact ⟨Or.inl trivial, Or.inr ⟨x, rfl, hl, hx⟩⟩
      · obtain ⟨x, ex, hl, hx⟩ := hr (by rw [e12]; exact fun z => r0 ((z_e0 (by omega)).mp z))
        rw [e12] at ex
        by_cases i0 : n19 = 0
        · have lt : nI x < (2147483647 : Int32) := (nI_ltI (a := x) (b := 2147483647) (by omega) (by omega)).mpr (by omega)
          simp only [r0, i0, ex, if_true, if_false, lt, z_mx (show x < 2000000000 by omega), z_nm1 (show x < 2000000000 by omega)]
          exact ⟨Or.inl trivial, Or.inr ⟨x, rfl, hl, hx⟩⟩
        · obtain ⟨y, ey, hl', hy⟩ := hi (by rw [e19]; exact fun z => i0 ((z_e0 (by omega)).mp z))
          rw [e19] at ey
          simp only [r0, i0, ex, ey, if_false, z_nm1 (show x < 2000000000 by omega), z_nm1 (show y < 2000000000 by omega), z_le (show x < 2000000000 by omega) (show y < 2000000000 by omega), z_lt (show x < 2000000000 by omega) (show y < 2000000000 by omega)]
          by_cases xy : x < y
          · simp only [xy, Nat.le_of_lt xy, if_true, z_mx (show x < 2000000000 by omega), if_false]
            exact ⟨Or.inl trivial, Or.inr ⟨x, rfl, hl, hx⟩⟩
          · simp only [xy, if_false, z_mx (show y < 2000000000 by omega)]
            by_cases xe : x = y
            · subst xe; simp only [Nat.le_refl, if_true]; exact ⟨Or.inl trivial, Or.inr ⟨x, rfl, hl, hx⟩⟩
            · simp only [show ¬ x ≤ y by omega, if_false]; exact ⟨Or.inl trivial, Or.inr ⟨y, rfl, hl', hy⟩⟩
    · simp only [q, k0, e35, if_true, if_false]
      exact ⟨Or.inl trivial, Or.inl trivial⟩
  · obtain ⟨k0, e, x, ex, hl, hx⟩ := D3 q
    rw [ex] at e
    simp only [q, k0, e, ex, zn_31, zn_32, if_true, if_false]
    exact ⟨Or.inl trivial, Or.inr ⟨x, rfl, hl, hx⟩⟩
  · have e := D0 (Or.inr q)
    simp only [q, e, zn_41, zn_42, zn_43, zn_45, if_true, if_false, ite_self]
    exact ⟨Or.inl trivial, Or.inl trivial⟩
  · obtain ⟨k0, x, ex, hx, hd⟩ := D5 q
    simp only [q, k0, ex, zn_51, zn_52, zn_53, zn_54, if_true, if_false]
    rcases hd with ⟨e, hl⟩ | ⟨e, hl⟩
    · rw [e]; exact ⟨Or.inl rfl, Or.inr ⟨x, rfl, hl, hx⟩⟩
    · rw [e]; exact ⟨Or.inr ⟨trivial, rfl, x, rfl, hl, hx⟩, Or.inl rfl⟩
end ZK
