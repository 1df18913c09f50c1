/-! LOAD, 20: readStatement (by wip/whole/gen99zo.py) -/
section ZLK
variable {C C' R M0 m m' : ux_M} {T : Nat → Int32} {N i j p p' q n u v w c d e L k s r sz : Nat} {V b x kd z0 rc rr : Int32}
theorem z_full (h : z_RB T N p C m) (hD : z_DR c c C m) (hc : c = 16) : p_159 kd m ∧ r_159 kd m = 0 ∧ m_159 kd m = z_fw m 4 (nI p) := by
  obtain ⟨f1, f2, f3⟩ := z_160 (m := m) (a := 4) h.1.2.2.2.2.2.2.1
  rw [h.2] at f3
  have ec : m 5 877025 0 1 = 16 := by rw [hD.1.2.2.2.2.1, hc]; rfl
  unfold p_159 r_159 m_159
  rw [z_c1, ec, if_pos rfl, if_pos rfl]
  exact ⟨⟨z_v1, fun z => absurd rfl z, fun _ => ⟨f1, .inl f2⟩⟩, f2, f3⟩
theorem z_stat (h : z_RS T N p i C m) (hD : z_DR c c C m) : p_11 C ∧ p_151 m ∧ z_sto T N p (r_151 m) (m_11 C) (m_151 m) := by
  have h10 : ¬ (1 : Int32) = 0 := by decide
  have h16 : c ≤ 16 := hD.1.2.2.1
  obtain ⟨s1, _, s3, hB⟩ := h.see
  have hD1 : z_DR c c C (m_152 m) := by rw [s3]; exact hD.see
  obtain ⟨m1, em1⟩ : ∃ y, y = m_152 m := ⟨_, rfl⟩
  rw [← em1] at hB hD1
  obtain ⟨b0, d0, x0⟩ := z_wb0 hB
  obtain ⟨b1, d1, x1⟩ := z_wb1 hB
  obtain ⟨b2, d2, x2⟩ := z_wb2 hB
  have p12 : p_12 C := ⟨b0, fun _ => ⟨b1, fun _ => b2, fun _ => trivial⟩, fun _ => trivial⟩
  have ecn : C 4 344085 0 0 = nI c := hD.1.2.2.2.1
  have e4 : C 4 671757 0 4 = nI p := hB.1.2.2.1
  unfold p_11 m_11 p_151 r_151 m_151
  rw [← em1, ecn]
  rcases x0 with ⟨x0, y0, l0⟩ | ⟨x0, y0⟩
  · have r12 : r_12 C = 0 := by unfold r_12; rw [x0, if_neg h10]
    have n12 : ¬ (0 : Int32) = -1 := by decide
    rw [r12, if_neg n12, y0, if_neg h10, if_neg h10]
    by_cases hc : c < 16
    · have lt : nI c < (16 : Int32) := (z_lt (b := 16) (by omega) (by omega)).mpr hc
      rw [if_pos lt]
      obtain ⟨c1, c2, c3, c4, c5⟩ := z_srv hB hD1 l0 hc
      rcases c5 with ⟨e1, e2, e3⟩ | ⟨e1, e2, e3⟩
      · rw [e1, if_pos rfl]
        exact ⟨⟨p12, fun _ => ⟨fun _ => ⟨c1, c2, fun z => absurd rfl z, fun _ => trivial⟩, fun _ => trivial⟩, fun z => absurd z n12⟩, ⟨s1, d0, fun z => absurd z h10, fun _ => ⟨c3, c4⟩⟩, .inr ⟨e2, e3⟩⟩
      · have nc := z_nneg (v := c) (by omega)
        rw [e1, if_neg nc, if_pos rfl]
        exact ⟨⟨p12, fun _ => ⟨fun _ => ⟨c1, c2, fun _ => ⟨fun z => absurd rfl z, fun _ => e2⟩, fun _ => trivial⟩, fun _ => trivial⟩, fun z => absurd z n12⟩, ⟨s1, d0, fun z => absurd z h10, fun _ => ⟨c3, c4⟩⟩, e3⟩
    · have c16 : c = 16 := by omega
      have lt : ¬ nI c < (16 : Int32) := fun z => hc ((z_lt (b := 16) (by omega) (by omega)).mp z)
      obtain ⟨f1, f2, f3⟩ := z_full (kd := 0) hB hD1 c16
      have er : r_158 m1 = 0 := by unfold r_158; rw [f2, if_pos rfl]
      have em : m_158 m1 = z_fw m1 4 (nI p) := by unfold m_158; rw [f2, if_pos rfl]; exact f3
      have ep : p_158 m1 := by unfold p_158; exact ⟨f1, fun z => absurd f2 z, fun _ => trivial⟩
      rw [if_neg lt, er, em]
      refine ⟨⟨p12, fun _ => ⟨fun z => absurd z lt, fun _ => trivial⟩, fun z => absurd z n12⟩, ⟨s1, d0, fun z => absurd z h10, fun _ => ⟨ep, .inl rfl⟩⟩, .inr ⟨rfl, ?_⟩⟩
      show z_NO (z_er C 4 (C 4 671757 0 4)) _
      rw [e4]; exact z_er_NO (by decide)
  · rcases x1 with ⟨x1, y1, l1⟩ | ⟨x1, y1⟩
    · have r12 : r_12 C = 1 := by unfold r_12; rw [x0, if_pos rfl, x1, if_neg h10]
      have n12 : ¬ (1 : Int32) = -1 := by decide
      rw [r12, if_neg n12, y0, if_pos rfl, if_pos rfl, y1, if_neg h10, if_neg h10]
      by_cases hc : c < 16
      · have lt : nI c < (16 : Int32) := (z_lt (b := 16) (by omega) (by omega)).mpr hc
        rw [if_pos lt]
        obtain ⟨c1, c2, c3, c4, c5⟩ := z_skt hB hD1 l1 hc
        rcases c5 with ⟨e1, e2, e3⟩ | ⟨e1, e2, e3⟩
        · rw [e1, if_pos rfl]
          exact ⟨⟨p12, fun _ => ⟨fun _ => ⟨c1, c2, fun z => absurd rfl z, fun _ => trivial⟩, fun _ => trivial⟩, fun z => absurd z n12⟩, ⟨s1, d0, fun _ => ⟨d1, fun z => absurd z h10, fun _ => ⟨c3, c4⟩⟩, fun z => absurd rfl z⟩, .inr ⟨e2, e3⟩⟩
        · have nc := z_nneg (v := c) (by omega)
          rw [e1, if_neg nc, if_neg h10, if_pos rfl]
          exact ⟨⟨p12, fun _ => ⟨fun _ => ⟨c1, c2, fun _ => ⟨fun _ => ⟨fun _ => trivial, fun _ => e2⟩, fun z => absurd z h10⟩, fun _ => trivial⟩, fun _ => trivial⟩, fun z => absurd z n12⟩, ⟨s1, d0, fun _ => ⟨d1, fun z => absurd z h10, fun _ => ⟨c3, c4⟩⟩, fun z => absurd rfl z⟩, e3⟩
      · have c16 : c = 16 := by omega
        have lt : ¬ nI c < (16 : Int32) := fun z => hc ((z_lt (b := 16) (by omega) (by omega)).mp z)
        obtain ⟨f1, f2, f3⟩ := z_full (kd := 1) hB hD1 c16
        have er : r_169 m1 = 0 := by unfold r_169; rw [f2, if_pos rfl]
        have em : m_169 m1 = z_fw m1 4 (nI p) := by unfold m_169; rw [f2, if_pos rfl]; exact f3
        have ep : p_169 m1 := by unfold p_169; exact ⟨f1, fun z => absurd f2 z, fun _ => trivial⟩
        rw [if_neg lt, er, em]
        refine ⟨⟨p12, fun _ => ⟨fun z => absurd z lt, fun _ => trivial⟩, fun z => absurd z n12⟩, ⟨s1, d0, fun _ => ⟨d1, fun z => absurd z h10, fun _ => ⟨ep, .inl rfl⟩⟩, fun z => absurd rfl z⟩, .inr ⟨rfl, ?_⟩⟩
        show z_NO (z_er C 4 (C 4 671757 0 4)) _
        rw [e4]; exact z_er_NO (by decide)
    · rcases x2 with ⟨x2, y2, l2⟩ | ⟨x2, y2⟩
      · have r12 : r_12 C = 2 := by unfold r_12; rw [x0, if_pos rfl, x1, if_pos rfl, x2, if_neg h10]
        have n12 : ¬ (2 : Int32) = -1 := by decide
        rw [r12, if_neg n12, y0, if_pos rfl, if_pos rfl, y1, if_pos rfl, if_pos rfl, y2, if_neg h10, if_neg h10]
        by_cases hc : c < 16
        · have lt : nI c < (16 : Int32) := (z_lt (b := 16) (by omega) (by omega)).mpr hc
          rw [if_pos lt]
          obtain ⟨c1, c2, c3, c4, c5⟩ := z_tgt hB hD1 l2 hc
          have n20 : ¬ (2 : Int32) = 0 := by decide
          have n21 : ¬ (2 : Int32) = 1 := by decide
          rcases c5 with ⟨e1, e2, e3⟩ | ⟨e1, e3⟩
          · rw [e1, if_pos rfl]
            exact ⟨⟨p12, fun _ => ⟨fun _ => ⟨c1, c2, fun z => absurd rfl z, fun _ => trivial⟩, fun _ => trivial⟩, fun z => absurd z n12⟩, ⟨s1, d0, fun _ => ⟨d1, fun _ => ⟨d2, fun z => absurd z h10, fun _ => ⟨c3, c4⟩⟩, fun z => absurd rfl z⟩, fun z => absurd rfl z⟩, .inr ⟨e2, e3⟩⟩
          · have nc := z_nneg (v := c) (by omega)
            rw [e1, if_neg nc, if_neg n20, if_neg n21]
            exact ⟨⟨p12, fun _ => ⟨fun _ => ⟨c1, c2, fun _ => ⟨fun _ => ⟨fun _ => trivial, fun z => absurd z n21⟩, fun z => absurd z n20⟩, fun _ => trivial⟩, fun _ => trivial⟩, fun z => absurd z n12⟩, ⟨s1, d0, fun _ => ⟨d1, fun _ => ⟨d2, fun z => absurd z h10, fun _ => ⟨c3, c4⟩⟩, fun z => absurd rfl z⟩, fun z => absurd rfl z⟩, e3⟩
        · have c16 : c = 16 := by omega
          have lt : ¬ nI c < (16 : Int32) := fun z => hc ((z_lt (b := 16) (by omega) (by omega)).mp z)
          obtain ⟨f1, f2, f3⟩ := z_full (kd := 2) hB hD1 c16
          have er : r_170 m1 = 0 := by unfold r_170; rw [f2, if_pos rfl]
          have em : m_170 m1 = z_fw m1 4 (nI p) := by unfold m_170; rw [f2, if_pos rfl]; exact f3
          have ep : p_170 m1 := by unfold p_170; exact ⟨f1, fun z => absurd f2 z, fun _ => trivial⟩
          rw [if_neg lt, er, em]
          refine ⟨⟨p12, fun _ => ⟨fun z => absurd z lt, fun _ => trivial⟩, fun z => absurd z n12⟩, ⟨s1, d0, fun _ => ⟨d1, fun _ => ⟨d2, fun z => absurd z h10, fun _ => ⟨ep, .inl rfl⟩⟩, fun z => absurd rfl z⟩, fun z => absurd rfl z⟩, .inr ⟨rfl, ?_⟩⟩
          show z_NO (z_er C 4 (C 4 671757 0 4)) _
          rw [e4]; exact z_er_NO (by decide)
      · have r12 : r_12 C = -1 := by unfold r_12; rw [x0, if_pos rfl, x1, if_pos rfl, x2, if_pos rfl]
        obtain ⟨c1, c2, c3⟩ := z_relat hB hD1
        rw [r12, if_pos rfl, y0, if_pos rfl, if_pos rfl, y1, if_pos rfl, if_pos rfl, y2, if_pos rfl, if_pos rfl]
        have c4 : r_171 m1 = 0 ∨ r_171 m1 = 1 := by
          rcases c3 with ⟨c3, _⟩ | ⟨c3, _⟩
          · exact .inr c3
          · exact .inl c3
        exact ⟨⟨p12, fun z => absurd rfl z, fun _ => c1⟩, ⟨s1, d0, fun _ => ⟨d1, fun _ => ⟨d2, fun _ => ⟨c2, c4⟩, fun z => absurd rfl z⟩, fun z => absurd rfl z⟩, fun z => absurd rfl z⟩, c3⟩
end ZLK
