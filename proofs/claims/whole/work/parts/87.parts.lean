/-! THE REFERENCE'S TRANSACTION: two jobs of a unit -/
section ZC5
variable {k c x n : Nat} {m m' m'' : ux_M}
/-- the lowest bit of a set -/
theorem z_low {x : Int32} {v : Nat} (hv : v < 32) (h1 : bt x v = true) (h2 : ∀ w, w < v → bt x w = false) : x &&& (-x) = (1 : Int32) <<< (nI v &&& 31) := by
  refine b_ext (fun i hi => ?_)
  rw [b_and, z_bit hv hi]
  have e : bt (-x) i = (bt x i ^^ decide (∃ j, j < i ∧ bt x j = true)) := by
    unfold bt
    rw [Int32.toBitVec_neg, BitVec.getLsbD_neg]
    simp [hi]
  rw [e]
  by_cases q : i = v
  · subst q
    have : ¬ ∃ j, j < i ∧ bt x j = true := fun ⟨j, a, b⟩ => by rw [h2 j a] at b; cases b
    simp [h1, this]
  · by_cases y : i < v
    · rw [h2 i y]; simp [q]
    · have : ∃ j, j < i ∧ bt x j = true := ⟨v, by omega, h1⟩
      cases b : bt x i <;> simp [this, q]
theorem z_l204 (y : Int32) {v : Nat} (hv : v < 16) (h1 : bt y v = true) (h2 : ∀ w, w < v → bt y w = false) : ∀ (n f i : Nat), i + n = v → n < f →
    ((p_204_61 (nI v) (if z_j m 3 v = true then 3 else 1) m) → p_204_29 f y (nI i) m) ∧ r_204_29 f y (nI i) m = r_204_61 (nI v) (if z_j m 3 v = true then 3 else 1) m ∧ m_204_29 f y (nI i) m = m_204_61 (nI v) (if z_j m 3 v = true then 3 else 1) m := by
  intro n
  induction n with
  | zero =>
    intro f i hi hf
    obtain ⟨f, rfl⟩ : ∃ g, f = g + 1 := ⟨f - 1, by omega⟩
    have e : i = v := by omega
    subst e
    have i32 : i < 32 := by omega
    have ej : bt (m 5 950305 0 3) i = z_j m 3 i := rfl
    rw [p_204_29, r_204_29, m_204_29]
    simp only [z_shr1 _ i32, h1, z_c3, ej]
    cases e3 : z_j m 3 i
    · exact ⟨fun q => ⟨fun _ => ⟨z_k3, fun _ => q, fun z => absurd z (by decide)⟩, fun z => absurd trivial z⟩, rfl, rfl⟩
    · exact ⟨fun q => ⟨fun _ => ⟨z_k3, fun z => absurd rfl z, fun _ => q⟩, fun z => absurd trivial z⟩, rfl, rfl⟩
  | succ n ih =>
    intro f i hi hf
    obtain ⟨f, rfl⟩ : ∃ g, f = g + 1 := ⟨f - 1, by omega⟩
    have i32 : i < 32 := by omega
    obtain ⟨r1, r2, r3⟩ := ih f (i + 1) (by omega) (by omega)
    rw [p_204_29, r_204_29, m_204_29]
    simp only [z_shr1 _ i32, h2 i (by omega), z_nx]
    rw [if_neg (show ¬ (false = true) by decide), if_neg (show ¬ (false = true) by decide)]
    exact ⟨fun q => ⟨fun z => absurd z (by decide), fun _ => r1 q⟩, r2, r3⟩
/-- the least of a set -/
theorem z_lst {f : Nat → Bool} : ∀ (n : Nat), (∃ w, w < n ∧ f w = true) → ∃ v, v < n ∧ f v = true ∧ ∀ w, w < v → f w = false
  | 0, h => by obtain ⟨w, h1, _⟩ := h; omega
  | n + 1, h => by
    by_cases q : ∃ w, w < n ∧ f w = true
    · obtain ⟨v, a, b, d⟩ := z_lst n q
      exact ⟨v, by omega, b, d⟩
    · obtain ⟨w, h1, h2⟩ := h
      have e : w = n := Classical.byContradiction (fun z => q ⟨w, by omega, h2⟩)
      subst e
      refine ⟨w, by omega, h2, fun v hv => ?_⟩
      cases e : f v
      · rfl
      · exact absurd ⟨v, hv, e⟩ q
/-- PARTS -/
theorem z_204 (hv : z_tv m) : p_204 m ∧
    (((∀ w, w < 32 → (z_V m 2 w && z_V m 0 w) = false) ∧ r_204 m = 0 ∧ m_204 m = m)
     ∨ ∃ v, v < 16 ∧ z_V m 2 v = true ∧ z_V m 0 v = true ∧ (∀ w, w < v → (z_V m 2 w && z_V m 0 w) = false) ∧
        ((z_V m 3 v = true ∧ z_V m 4 v = true ∧ r_204 m = -3 ∧ m_204 m = m)
         ∨ (z_V m 3 v = true ∧ z_V m 4 v = false ∧ r_204 m = 1 ∧ m_204 m = ux_set m 5 983073 0 2 (m 5 983073 0 2 ||| ((1 : Int32) <<< (nI v &&& 31))))
         ∨ (z_V m 3 v = false ∧ r_204 m = 1 ∧ m_204 m = ux_set m 5 983073 0 1 (m 5 983073 0 1 ||| ((1 : Int32) <<< (nI v &&& 31)))))) := by
  have eb : ∀ w, bt (m 5 950305 0 2 &&& (m 5 950305 0 1 ||| m 5 950305 0 3)) w = (z_V m 2 w && z_V m 0 w) := fun w => by rw [b_and, b_or]; rfl
  unfold p_204 r_204 m_204
  simp only [z_c1, z_c2, z_c3]
  by_cases q : m 5 950305 0 2 &&& (m 5 950305 0 1 ||| m 5 950305 0 3) = 0
  · rw [if_pos q, if_pos q]
    exact ⟨⟨z_k2, z_k1, z_k3, fun y => absurd q y, fun _ => trivial⟩, .inl ⟨fun w hw => by rw [← eb]; exact z_nz.mp q w hw, rfl, rfl⟩⟩
  · have ex : ∃ w, w < 16 ∧ (fun w => z_V m 2 w && z_V m 0 w) w = true := by
      apply Classical.byContradiction
      intro y
      refine q (z_nz.mpr (fun i hi => ?_))
      rw [eb]
      by_cases i16 : i < 16
      · cases e : (z_V m 2 i && z_V m 0 i)
        · rfl
        · exact absurd ⟨i, i16, e⟩ y
      · rw [hv.hi 2 (by omega) hi]; rfl
    obtain ⟨v, v16, v1, v2⟩ := z_lst 16 ex
    have v32 : v < 32 := by omega
    obtain ⟨r1, r2, r3⟩ := z_l204 (m := m) (m 5 950305 0 2 &&& (m 5 950305 0 1 ||| m 5 950305 0 3)) v16 ((eb v).trans v1) (fun w hw => (eb w).trans (v2 w hw)) v ux_fuel 0 (by omega) (by have := z_fuel; omega)
    have r2' : r_204_29 ux_fuel (m 5 950305 0 2 &&& (m 5 950305 0 1 ||| m 5 950305 0 3)) 0 m = _ := r2
    have r3' : m_204_29 ux_fuel (m 5 950305 0 2 &&& (m 5 950305 0 1 ||| m 5 950305 0 3)) 0 m = _ := r3
    have v1' : z_V m 2 v = true ∧ z_V m 0 v = true := by simpa using v1
    obtain ⟨g1, g2, g3, g4, g5⟩ := hv v v32
    have ee : ∀ T, bt (m 5 966689 0 T) v = z_e m T v := fun _ => rfl
    rw [if_neg q, if_neg q, r2', r3']
    cases j3 : z_j m 3 v
    · have V3 : z_V m 3 v = z_e m 1 v := by simp only [z_V]; rw [g2, j3, Bool.or_false]
      have p61 : p_204_61 (nI v) (if z_j m 3 v = true then 3 else 1) m := by
        rw [j3]; exact ⟨z_k1, fun _ => ⟨z_k2, fun _ => trivial, fun _ => ⟨z_k2, z_k2⟩⟩, fun _ => ⟨z_k1, z_k1⟩⟩
      refine ⟨⟨z_k2, z_k1, z_k3, fun _ => r1 p61, fun y => absurd y q⟩, .inr ⟨v, v16, v1'.1, v1'.2, v2, ?_⟩⟩
      unfold r_204_61 m_204_61
      simp only [Bool.false_eq_true, if_false, z_c1, z_c2, z_shr1 _ v32, ee]
      rw [V3]
      cases e1 : z_e m 1 v
      · exact .inr (.inr ⟨rfl, rfl, rfl⟩)
      · cases e2 : z_e m 2 v
        · exact .inr (.inl ⟨rfl, e2, rfl, rfl⟩)
        · exact .inl ⟨rfl, e2, rfl, rfl⟩
    · have V3 : z_V m 3 v = true := by simp only [z_V]; rw [g2, j3, Bool.or_true]
      have e3 : z_e m 3 v = true := g2.trans j3
      have p61 : p_204_61 (nI v) (if z_j m 3 v = true then 3 else 1) m := by
        rw [j3]; exact ⟨z_k3, fun _ => ⟨z_k2, fun _ => trivial, fun _ => ⟨z_k2, z_k2⟩⟩, fun _ => ⟨z_k3, z_k3⟩⟩
      refine ⟨⟨z_k2, z_k1, z_k3, fun _ => r1 p61, fun y => absurd y q⟩, .inr ⟨v, v16, v1'.1, v1'.2, v2, ?_⟩⟩
      unfold r_204_61 m_204_61
      simp only [if_true, z_c3, z_c2, z_shr1 _ v32, ee, e3]
      cases e2 : z_e m 2 v
      · exact .inr (.inl ⟨V3, e2, rfl, rfl⟩)
      · exact .inl ⟨V3, e2, rfl, rfl⟩
end ZC5
