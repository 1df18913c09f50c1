/-! LOAD, 19: the three kinds of units -/
section ZLJ
variable {C C' R M0 m m' : ux_M} {T : Nat → Int32} {N i j p p' q n u v w c d e L k s r sz : Nat} {V b x kd z0 rc rr : Int32}
theorem z_srv (h : z_RB T N p C m) (hD : z_DR c c C m) (hl : z_xL T N p = true) (hc : c < 16) : p_10 C ∧ p_19 0 (m_10 C) ∧ p_158 m ∧ (r_158 m = 0 ∨ r_158 m = 1) ∧
    ((r_19 0 (m_10 C) = -1 ∧ r_158 m = 0 ∧ z_NO (m_19 0 (m_10 C)) (m_158 m)) ∨ (r_19 0 (m_10 C) = nI c ∧ p_11_59 ux_fuel (nI c) 0 (m_19 0 (m_10 C)) ∧ z_sto T N p (r_158 m) (m_11_59 ux_fuel (nI c) 0 (m_19 0 (m_10 C))) (m_158 m))) := by
  have h10 : ¬ (1 : Int32) = 0 := by decide
  obtain ⟨a1, a2, a3, a4⟩ := z_newu h hD hl hc (kd := 0) (.inl rfl)
  refine ⟨a1, a2, ?_⟩
  unfold p_158 r_158 m_158
  rcases a4 with ⟨b1, b2, p', i', b3, b4, b5, b6⟩ | ⟨b1, b2, b3⟩
  · obtain ⟨s1, _, s3, hB⟩ := b4.see
    have hle := b4.le
    have hD' : z_DR c (c + 1) (m_19 0 (m_10 C)) (m_152 (m_159 0 m)) := by rw [s3]; exact b5.see
    have hk' : z_gf (m_152 (m_159 0 m)) 0 c = 0 := by rw [s3]; exact (z_gf_cg (fun i => z_pnt_o (by decide)) 0 c).trans b6
    obtain ⟨c1, c2, c3⟩ := z_11l (c := c) hle.2.2 (N - p') p' ux_fuel ux_fuel 0 (m_19 0 (m_10 C)) (m_152 (m_159 0 m)) (by omega) (by have := z_fuel; omega) (by have := z_fuel; omega) (Nat.zero_le _) hB hD' hk'
    rw [b2, if_neg h10, if_neg h10]
    have c1' : p_11_59 ux_fuel (nI c) 0 (m_19 0 (m_10 C)) := c1
    refine ⟨⟨a3, fun _ => ⟨s1, c2⟩, fun z => absurd z h10⟩, ?_, .inr ⟨b1, c1', ?_⟩⟩
    · rcases c3 with ⟨c3, _⟩ | ⟨c3, _⟩
      · exact .inr c3
      · exact .inl c3
    · rcases c3 with ⟨c3, p2, i2, c4, c5, c6⟩ | c3
      · exact .inl ⟨c3, p2, i2, c + 1, by omega, c5, c6⟩
      · exact .inr c3
  · rw [b2, if_pos rfl, if_pos rfl]
    exact ⟨⟨a3, fun z => absurd rfl z, fun _ => trivial⟩, .inl rfl, .inl ⟨b1, rfl, b3⟩⟩
theorem z_skt (h : z_RB T N p C m) (hD : z_DR c c C m) (hl : z_xL T N p = true) (hc : c < 16) : p_10 C ∧ p_19 1 (m_10 C) ∧ p_169 m ∧ (r_169 m = 0 ∨ r_169 m = 1) ∧
    ((r_19 1 (m_10 C) = -1 ∧ r_169 m = 0 ∧ z_NO (m_19 1 (m_10 C)) (m_169 m)) ∨ (r_19 1 (m_10 C) = nI c ∧ p_26 (nI c) (m_19 1 (m_10 C)) ∧ z_sto T N p (r_169 m) (m_26 (nI c) (m_19 1 (m_10 C))) (m_169 m))) := by
  have h10 : ¬ (1 : Int32) = 0 := by decide
  obtain ⟨a1, a2, a3, a4⟩ := z_newu h hD hl hc (kd := 1) (.inr (.inl rfl))
  refine ⟨a1, a2, ?_⟩
  rcases a4 with ⟨b1, b2, p', i', b3, b4, b5, b6⟩ | ⟨b1, b2, b3⟩
  · obtain ⟨c1, c2, c3⟩ := z_socket b2 a3 rfl b4 b5 b6
    refine ⟨c2, ?_, .inr ⟨b1, c1, ?_⟩⟩
    · rcases c3 with ⟨c3, _⟩ | ⟨c3, _⟩
      · exact .inr c3
      · exact .inl c3
    · rcases c3 with ⟨c3, p2, i2, c', c4, c5, c6⟩ | c3
      · exact .inl ⟨c3, p2, i2, c', by omega, c5, c6⟩
      · exact .inr c3
  · unfold p_169 r_169 m_169
    rw [b2, if_pos rfl, if_pos rfl]
    exact ⟨⟨a3, fun z => absurd rfl z, fun _ => trivial⟩, .inl rfl, .inl ⟨b1, rfl, b3⟩⟩
theorem z_tgt (h : z_RB T N p C m) (hD : z_DR c c C m) (hl : z_xL T N p = true) (hc : c < 16) : p_10 C ∧ p_19 2 (m_10 C) ∧ p_170 m ∧ (r_170 m = 0 ∨ r_170 m = 1) ∧
    ((r_19 2 (m_10 C) = -1 ∧ r_170 m = 0 ∧ z_NO (m_19 2 (m_10 C)) (m_170 m)) ∨ (r_19 2 (m_10 C) = nI c ∧ z_sto T N p (r_170 m) (m_19 2 (m_10 C)) (m_170 m))) := by
  have h10 : ¬ (1 : Int32) = 0 := by decide
  obtain ⟨a1, a2, a3, a4⟩ := z_newu h hD hl hc (kd := 2) (.inr (.inr rfl))
  refine ⟨a1, a2, ?_⟩
  unfold p_170 r_170 m_170
  rcases a4 with ⟨b1, b2, p', i', b3, b4, b5, b6⟩ | ⟨b1, b2, b3⟩
  · have ec : m_159 2 m 5 877025 0 1 = nI c := b5.1.2.2.2.2.1
    have hs : ¬ z_gf (m_159 2 m) 0 c = 1 := by rw [b6]; decide
    rw [b2, if_neg h10, if_neg h10, z_c1, ec, z_nx]
    refine ⟨⟨a3, fun _ => ⟨z_v1, z_v1⟩, fun z => absurd z h10⟩, .inr rfl, .inr ⟨b1, .inl ⟨rfl, p', i', c + 1, b3, ?_, b5.fin hs⟩⟩⟩
    exact b4.cg (fun _ _ _ _ => rfl) (fun s r i q => z_so q)
  · rw [b2, if_pos rfl, if_pos rfl]
    exact ⟨⟨a3, fun z => absurd rfl z, fun _ => trivial⟩, .inl rfl, .inl ⟨b1, rfl, b3⟩⟩
end ZLJ
