/-! LOAD, 16: readNewUnit and readNew -/
section ZLG
variable {C C' R m m' : ux_M} {T : Nat → Int32} {N i j p p' q n u v w c d e L k s r sz : Nat} {V b x kd z0 rc rr : Int32}
theorem z_nst.mono (h : z_nst T N p' c kd rc rr C m) (hp : p < p') : z_nst T N p c kd rc rr C m := by
  rcases h with ⟨h1, h2, p2, i2, h3, h4⟩ | h
  · exact .inl ⟨h1, h2, p2, i2, by omega, h4⟩
  · exact .inr h
theorem z_newu (h : z_RB T N p C m) (hD : z_DR c c C m) (hl : z_xL T N p = true) (hc : c < 16) (hkd : kd = 0 ∨ kd = 1 ∨ kd = 2) : p_10 C ∧ p_19 kd (m_10 C) ∧ p_159 kd m ∧ z_nst T N p c kd (r_19 kd (m_10 C)) (r_159 kd m) (m_19 kd (m_10 C)) (m_159 kd m) := by
  have h10 : ¬ (1 : Int32) = 0 := by decide
  obtain ⟨p1, hp1⟩ : ∃ p', p' = z_xn (z_xB T N) N (z_xe T N p) := ⟨_, rfl⟩
  obtain ⟨a1, _, a3, _, _, a6, a7, a8⟩ := h.pass hl hp1
  obtain ⟨s1, _, s3, hB1⟩ := a7.see
  have hD1 : z_DR c c (m_10 C) (m_152 (m_161 m)) := by rw [s3]; exact (a8 c c hD).see
  have ec : m 5 877025 0 1 = nI c := hD.1.2.2.2.2.1
  have n16 : ¬ nI c = (16 : Int32) := fun z => by have := (z_eq (b := 16) (by omega) (by omega)).mp z; omega
  obtain ⟨C1, eC1⟩ : ∃ y, y = m_10 C := ⟨_, rfl⟩
  obtain ⟨m1, em1⟩ : ∃ y, y = m_152 (m_161 m) := ⟨_, rfl⟩
  rw [← eC1, ← em1] at hB1 hD1
  obtain ⟨b0, d0, x0⟩ := z_wb0 hB1
  obtain ⟨b1, d1, x1⟩ := z_wb1 hB1
  obtain ⟨b2, d2, x2⟩ := z_wb2 hB1
  have p12 : p_12 C1 := ⟨b0, fun _ => ⟨b1, fun _ => b2, fun _ => trivial⟩, fun _ => trivial⟩
  have hle := hB1.1.le
  obtain ⟨g1, g2⟩ := z_156 (i := p1) hB1.1.2.1 (by omega)
  unfold p_159 r_159 m_159
  rw [z_c1, ec, if_neg n16, if_neg n16, ← em1, hB1.2, ← eC1]
  refine ⟨a1, ?_⟩
  by_cases q : z_xL T N p1 = true
  · have n0 : ¬ r_156 (nI p1) m1 = 0 := by rw [g2, if_pos q]; decide
    rw [if_neg n0, if_neg n0]
    rcases x0 with ⟨x0, y0, _⟩ | ⟨x0, y0⟩
    · have r12 : ¬ r_12 C1 = -1 := by unfold r_12; rw [x0, if_neg h10]; decide
      obtain ⟨c1, c2, c3⟩ := z_76 hB1 hD1 q hc hkd p12 (.inr ⟨rfl, r12⟩)
      rw [y0, if_neg h10, if_neg h10]
      exact ⟨c1, ⟨z_v1, fun _ => ⟨a3, s1, g1, fun _ => ⟨d0, fun _ => c2, fun z => absurd z h10⟩, fun z => absurd z n0⟩, fun z => absurd z n16⟩, c3.mono a6⟩
    · rw [y0, if_pos rfl, if_pos rfl]
      rcases x1 with ⟨x1, y1, _⟩ | ⟨x1, y1⟩
      · have r12 : ¬ r_12 C1 = -1 := by unfold r_12; rw [x0, if_pos rfl, x1, if_neg h10]; decide
        obtain ⟨c1, c2, c3⟩ := z_76 hB1 hD1 q hc hkd p12 (.inr ⟨rfl, r12⟩)
        rw [y1, if_neg h10, if_neg h10]
        exact ⟨c1, ⟨z_v1, fun _ => ⟨a3, s1, g1, fun _ => ⟨d0, fun z => absurd rfl z, fun _ => ⟨d1, fun _ => c2, fun z => absurd z h10⟩⟩, fun z => absurd z n0⟩, fun z => absurd z n16⟩, c3.mono a6⟩
      · rw [y1, if_pos rfl, if_pos rfl]
        rcases x2 with ⟨x2, y2, _⟩ | ⟨x2, y2⟩
        · have r12 : ¬ r_12 C1 = -1 := by unfold r_12; rw [x0, if_pos rfl, x1, if_pos rfl, x2, if_neg h10]; decide
          obtain ⟨c1, c2, c3⟩ := z_76 hB1 hD1 q hc hkd p12 (.inr ⟨rfl, r12⟩)
          rw [y2, if_neg h10, if_neg h10]
          exact ⟨c1, ⟨z_v1, fun _ => ⟨a3, s1, g1, fun _ => ⟨d0, fun z => absurd rfl z, fun _ => ⟨d1, fun z => absurd rfl z, fun _ => ⟨d2, fun z => absurd z h10, fun _ => c2⟩⟩⟩, fun z => absurd z n0⟩, fun z => absurd z n16⟩, c3.mono a6⟩
        · have r12 : r_12 C1 = -1 := by unfold r_12; rw [x0, if_pos rfl, x1, if_pos rfl, x2, if_pos rfl]
          obtain ⟨c1, c2, c3⟩ := z_76 hB1 hD1 q hc hkd p12 (.inl ⟨rfl, r12⟩)
          rw [y2, if_pos rfl, if_pos rfl]
          exact ⟨c1, ⟨z_v1, fun _ => ⟨a3, s1, g1, fun _ => ⟨d0, fun z => absurd rfl z, fun _ => ⟨d1, fun z => absurd rfl z, fun _ => ⟨d2, fun _ => c2, fun z => absurd rfl z⟩⟩⟩, fun z => absurd z n0⟩, fun z => absurd z n16⟩, c3.mono a6⟩
  · have n0 : r_156 (nI p1) m1 = 0 := by rw [g2, if_neg q]
    have n1 : ¬ C1 4 671757 0 3 = 1 := by rw [hB1.1.2.2.2.2.1]; exact fun z => q ((z_xpe (T := T) hle.1).1.mp z)
    have b4 : C1 4 671757 0 4 = nI p1 := hB1.1.2.2.1
    obtain ⟨f1, f2, f3⟩ := z_160 (m := m1) (a := 1) hB1.1.2.2.2.2.2.2.1
    rw [hB1.2] at f3
    unfold p_19 r_19 m_19
    rw [n0, if_neg n1, if_neg n1, if_pos rfl, if_pos rfl, f2, f3]
    refine ⟨⟨fun z => absurd z n1, fun _ => trivial⟩, ⟨z_v1, fun _ => ⟨a3, s1, g1, fun z => absurd rfl z, fun _ => ⟨f1, .inl rfl⟩⟩, fun z => absurd z n16⟩, .inr ⟨rfl, rfl, ?_⟩⟩
    show z_NO (z_er C1 1 (C1 4 671757 0 4)) _
    rw [b4]; exact z_er_NO (by decide)
end ZLG
