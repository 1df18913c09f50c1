/-! LOAD, 8: the properties of a service; a unit is done -/
section ZL8
variable {C C' m m' : ux_M} {T : Nat → Int32} {N i j p p' q n u w c d e L k : Nat} {V a b x : Int32}
/-- the unit that was read is counted -/
theorem z_DR.fin (h : z_DR c (c + 1) C m) (hs : ¬ z_gf m 0 c = 1) : z_DR (c + 1) (c + 1) C (ux_set m 5 877025 0 1 (nI (c + 1))) := by
  obtain ⟨⟨b1, b2, b3, b4, b5, b6, b7⟩, a2, a3, a4, a5, a6, a7⟩ := h
  have g : ∀ a u, z_gf (ux_set m 5 877025 0 1 (nI (c + 1))) a u = z_gf m a u := fun a u => z_si (by omega)
  refine ⟨⟨Nat.le_refl _, by omega, b3, b4, z_ss, (z_si (by decide)).trans b6, (z_si (by decide)).trans b7⟩, fun u hu => (a2 u hu).cg (fun _ _ _ _ _ => rfl) (fun a => g a u), fun u hu => ?_, fun u hu r hr => ?_, fun u hu h16 a ha => (g a u).trans (a5 u hu h16 a ha), fun z => absurd z (by omega), a7⟩
  · unfold z_ds
    rw [g, g]
    by_cases q : u < c
    · obtain ⟨s1, s2⟩ := a3 u q
      exact ⟨fun z => by
        obtain ⟨s, e1, e2, e3⟩ := s1 z
        exact ⟨s, by omega, e2, (g 0 s).trans e3⟩, s2⟩
    · have uc : u = c := by omega
      subst uc
      exact ⟨fun z => absurd z hs, fun _ => (a6 rfl).2⟩
  · obtain ⟨r1, r2⟩ := a4 u hu r hr
    rw [g]
    exact ⟨r1, fun v hv => by have := r2 v hv; omega⟩
/-- what a statement comes to: c' units are read, both look on from p; or both refuse -/
def z_sto (T : Nat → Int32) (N p : Nat) (r : Int32) (C m : ux_M) : Prop := (r = 1 ∧ ∃ p' i' c', p < p' ∧ z_RS T N p' i' C m ∧ z_DR c' c' C m) ∨ (r = 0 ∧ z_NO C m)
theorem z_11l (hN : N ≤ 800) : ∀ n p f f' k C m, p + n = N → n + 1 < f → n < f' → k ≤ p → z_RB T N p C m → z_DR c (c + 1) C m → z_gf m 0 c = 0 →
    p_11_59 f (nI c) (nI k) C ∧ p_158_15 f' m ∧ ((r_158_15 f' m = 1 ∧ ∃ p' i', p ≤ p' ∧ z_RS T N p' i' (m_11_59 f (nI c) (nI k) C) (m_158_15 f' m) ∧ z_DR (c + 1) (c + 1) (m_11_59 f (nI c) (nI k) C) (m_158_15 f' m)) ∨ (r_158_15 f' m = 0 ∧ z_NO (m_11_59 f (nI c) (nI k) C) (m_158_15 f' m))) := by
  intro n
  induction n using Nat.strongRecOn with
  | ind n ih =>
    intro p f f' k C m hp hf hf' hk hB hD hk0
    obtain ⟨f, rfl⟩ : ∃ g, f = g + 1 := ⟨f - 1, by omega⟩
    obtain ⟨f', rfl⟩ : ∃ g, f' = g + 1 := ⟨f' - 1, by omega⟩
    have hle := hB.1.le
    have h10 : ¬ (1 : Int32) = 0 := by decide
    have hc : c + 1 ≤ 16 := hD.1.2.2.1
    have e2 : C 4 671757 0 2 = nI N := hB.1.1.2.2.1
    have e6 : C 4 671757 0 6 = 0 := hB.1.2.2.2.2.2.1
    have e3 : C 4 671757 0 3 = z_xp T N p := hB.1.2.2.2.2.1
    have x1 := (z_xpe (T := T) hle.1).1
    obtain ⟨b1, b2⟩ := z_156 (i := p) hB.1.2.1 (by omega)
    rw [p_11_59, m_11_59, p_158_15, r_158_15, m_158_15, e2, e6, e3, hB.2, b2]
    by_cases q : z_xL T N p = true
    · have pN : p < N := by
        apply Classical.byContradiction; intro z
        have := (z_xpe (T := T) hle.1).2.1 q
        have := (z_xn_o (P := z_xL T N) (N := N) (i := p) (by omega))
        omega
      have kN : ¬ nI N ≤ nI k := fun z => by have := (z_le (by omega) (by omega)).mp z; omega
      obtain ⟨c1, c2, c3⟩ := z_property hB hD hk0
      rw [if_pos q, if_neg h10, if_neg h10, if_neg kN, if_pos rfl, if_pos (x1.mpr q), z_nx]
      rcases c3 with ⟨r1, p', i', c4, c5, c6, c7⟩ | ⟨r0, c4⟩
      · obtain ⟨s1, _, s3, hB'⟩ := c5.see
        have hle' := c5.le
        have hD' : z_DR c (c + 1) (m_21 (nI c) C) (m_152 (m_165 m)) := by rw [s3]; exact c6.cg (fun _ _ _ _ _ => rfl) (fun i => z_pnt_o (by decide)) (z_pnt_i (by omega))
        have hk' : z_gf (m_152 (m_165 m)) 0 c = 0 := by rw [s3]; exact (z_gf_cg (fun i => z_pnt_o (by decide)) 0 c).trans c7
        obtain ⟨i1, i2, i3⟩ := ih (N - p') (by omega) p' f f' (k + 1) (m_21 (nI c) C) (m_152 (m_165 m)) (by omega) (by omega) (by omega) (by omega) hB' hD' hk'
        rw [r1, if_neg h10, if_neg h10]
        refine ⟨⟨fun z => absurd z kN, fun _ => ⟨fun z => absurd rfl z, fun _ => ⟨fun z => absurd (x1.mpr q) z, fun _ => ⟨c1, i1⟩⟩⟩⟩, ⟨b1, fun z => absurd z h10, fun _ => ⟨c2, fun _ => ⟨s1, i2⟩, fun z => absurd z h10⟩⟩, ?_⟩
        rcases i3 with ⟨j1, p2, i2', j2, j3⟩ | j
        · exact .inl ⟨j1, p2, i2', by omega, j3⟩
        · exact .inr j
      · have n6 : ¬ m_21 (nI c) C 4 671757 0 6 = 0 := c4.1
        obtain ⟨f, rfl⟩ : ∃ g, f = g + 1 := ⟨f - 1, by omega⟩
        have e : p_11_59 (f + 1) (nI c) (nI (k + 1)) (m_21 (nI c) C) ∧ m_11_59 (f + 1) (nI c) (nI (k + 1)) (m_21 (nI c) C) = m_21 (nI c) C := by
          rw [p_11_59, m_11_59, if_neg n6, ite_self]
          exact ⟨⟨fun _ => trivial, fun _ => ⟨fun _ => trivial, fun z => absurd z n6⟩⟩, rfl⟩
        rw [r0, if_pos rfl, if_pos rfl, e.2]
        exact ⟨⟨fun z => absurd z kN, fun _ => ⟨fun z => absurd rfl z, fun _ => ⟨fun z => absurd (x1.mpr q) z, fun _ => ⟨c1, e.1⟩⟩⟩⟩, ⟨b1, fun z => absurd z h10, fun _ => ⟨c2, fun z => absurd rfl z, fun _ => trivial⟩⟩, .inr ⟨rfl, c4⟩⟩
    · have n1 : ¬ z_xp T N p = 1 := fun z => q (x1.mp z)
      have ec : m 5 877025 0 1 = nI c := hD.1.2.2.2.2.1
      have hs : ¬ z_gf m 0 c = 1 := by rw [hk0]; decide
      rw [if_neg q, if_pos rfl, if_pos rfl, if_pos rfl, if_neg n1, ite_self, z_c1, ec, z_nx c]
      refine ⟨⟨fun _ => trivial, fun _ => ⟨fun _ => trivial, fun _ => ⟨fun _ => trivial, fun z => absurd z n1⟩⟩⟩, ⟨b1, fun _ => ⟨z_v1, z_v1⟩, fun z => absurd rfl z⟩, .inl ⟨rfl, p, p, Nat.le_refl _, ?_, hD.fin hs⟩⟩
      exact hB.1.cg (fun _ _ _ _ => rfl) (fun s r i q => z_so q)
end ZL8
