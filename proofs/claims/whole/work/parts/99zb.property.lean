/-! LOAD, 7: a property (by wip/whole/gen99zb.py) -/
section ZL7
variable {C C' m m' : ux_M} {T : Nat → Int32} {N i j p p' q n u w c d e L : Nat} {V a b x X lo hi wI : Int32}
theorem z_value2 (h : z_RS T N p i C m) (hD : z_DR c (c + 1) C m) (hk : z_gf m 0 c = 0) (hw : w < 10) (e1 : X = nI (10 + w)) (e2 : lo = nI (z_lo w)) (e3 : hi = nI (z_hi w)) (e4 : wI = nI w) :
    p_24 (nI c) wI C ∧ p_166 (m 5 819253 0 14 + X) lo hi m ∧ z_stp T N p c (r_166 (m 5 819253 0 14 + X) lo hi m) (m_24 (nI c) wI C) (m_166 (m 5 819253 0 14 + X) lo hi m) := by
  rw [(hD.2.2.2.2.2.1 rfl).1]
  subst e1; subst e2; subst e3; subst e4
  exact z_value h hD hk hw
theorem z_stp.mono {r : Int32} (h : z_stp T N p' c r C m) (hp : p < p') : z_stp T N p c r C m := by
  rcases h with ⟨r1, p2, i2, h1, h2⟩ | h
  · exact .inl ⟨r1, p2, i2, by omega, h2⟩
  · exact .inr h
theorem z_prop1 (h : z_RB T N p C m) (hD : z_DR c (c + 1) C m) (hk : z_gf m 0 c = 0) (hl : z_xL T N p = true) (hw : w < 10) (e1 : X = nI (10 + w)) (e2 : lo = nI (z_lo w)) (e3 : hi = nI (z_hi w)) (e4 : wI = nI w) :
    p_10 C ∧ p_161 m ∧ r_161 m = 1 ∧ p_24 (nI c) wI (m_10 C) ∧ p_166 (m_161 m 5 819253 0 14 + X) lo hi (m_161 m) ∧ z_stp T N p c (r_166 (m_161 m 5 819253 0 14 + X) lo hi (m_161 m)) (m_24 (nI c) wI (m_10 C)) (m_166 (m_161 m 5 819253 0 14 + X) lo hi (m_161 m)) := by
  obtain ⟨p', hp⟩ : ∃ p', p' = z_xn (z_xB T N) N (z_xe T N p) := ⟨_, rfl⟩
  obtain ⟨a1, a2, a3, a4, a5, a6, a7, a8⟩ := h.pass hl hp
  have hk1 : z_gf (m_161 m) 0 c = 0 := by rw [a5]; exact (z_gf_cg (fun i => z_pnt_o (by decide)) 0 c).trans hk
  obtain ⟨b1, b2, b3⟩ := z_value2 a7 (a8 c (c + 1) hD) hk1 hw e1 e2 e3 e4
  exact ⟨a1, a3, a4, b1, b2, b3.mono a6⟩
theorem z_prop2 (h : z_RB T N p C m) (hD : z_DR c (c + 1) C m) (hk : z_gf m 0 c = 0) (hl : z_xL T N p = true) :
    p_10 C ∧ p_161 m ∧ r_161 m = 1 ∧ p_23 (nI c) (m_10 C) ∧ p_168 (m_161 m) ∧ z_stp T N p c (r_168 (m_161 m)) (m_23 (nI c) (m_10 C)) (m_168 (m_161 m)) := by
  obtain ⟨p', hp⟩ : ∃ p', p' = z_xn (z_xB T N) N (z_xe T N p) := ⟨_, rfl⟩
  obtain ⟨a1, a2, a3, a4, a5, a6, a7, a8⟩ := h.pass hl hp
  have hk1 : z_gf (m_161 m) 0 c = 0 := by rw [a5]; exact (z_gf_cg (fun i => z_pnt_o (by decide)) 0 c).trans hk
  obtain ⟨b1, b2, b3⟩ := z_policy a7 (a8 c (c + 1) hD) hk1
  exact ⟨a1, a3, a4, b1, b2, b3.mono a6⟩
/-- readProperty -/
theorem z_property (h : z_RB T N p C m) (hD : z_DR c (c + 1) C m) (hk : z_gf m 0 c = 0) : p_21 (nI c) C ∧ p_165 m ∧ z_stp T N p c (r_165 m) (m_21 (nI c) C) (m_165 m) := by
  have h10 : ¬ (1 : Int32) = 0 := by decide
  obtain ⟨a3, b3, x3⟩ := z_wb3 h
  obtain ⟨a4, b4, x4⟩ := z_wb4 h
  obtain ⟨a5, b5, x5⟩ := z_wb5 h
  obtain ⟨a6, b6, x6⟩ := z_wb6 h
  obtain ⟨a7, b7, x7⟩ := z_wb7 h
  obtain ⟨a8, b8, x8⟩ := z_wb8 h
  obtain ⟨a9, b9, x9⟩ := z_wb9 h
  obtain ⟨a10, b10, x10⟩ := z_wb10 h
  obtain ⟨a11, b11, x11⟩ := z_wb11 h
  have p22 : p_22 C := ⟨a3, fun _ => ⟨a4, fun _ => ⟨a5, fun _ => ⟨a6, fun _ => ⟨a7, fun _ => ⟨a8, fun _ => ⟨a9, fun _ => ⟨a10, fun _ => a11, fun _ => trivial⟩, fun _ => trivial⟩, fun _ => trivial⟩, fun _ => trivial⟩, fun _ => trivial⟩, fun _ => trivial⟩, fun _ => trivial⟩, fun _ => trivial⟩
  rcases x3 with ⟨x3, y3, l3⟩ | ⟨x3, y3⟩
  · have e22 : r_22 C = 0 := by unfold r_22; rw [x3, if_neg h10]
    obtain ⟨c1, c2, c3, c4, c5, c6⟩ := z_prop1 (w := 0) (X := 10) (lo := 0) (hi := 100) (wI := 0) h hD hk l3 (by omega) (by decide) (by decide) (by decide) (by decide)
    have er : r_165 m = (if r_166 (m_161 m 5 819253 0 14 + 10) 0 100 (m_161 m) = 0 then 0 else 1) := by unfold r_165; rw [y3, if_neg h10, c3, if_neg h10]
    have em : m_165 m = m_166 (m_161 m 5 819253 0 14 + 10) 0 100 (m_161 m) := by unfold m_165; rw [y3, if_neg h10, c3, if_neg h10, ite_self]
    have ec : m_21 (nI c) C = m_24 (nI c) 0 (m_10 C) := by unfold m_21; rw [e22, if_neg (by decide), if_neg (by decide), if_neg (by decide)]
    refine ⟨?_, ⟨b3, fun z => absurd z (by rw [y3]; decide), fun _ => ⟨c2, fun _ => trivial, fun _ => c5⟩⟩, ?_⟩
    · unfold p_21; rw [e22]; exact ⟨p22, fun _ => ⟨c1, fun _ => ⟨c4, fun _ => trivial, fun z => absurd z (by decide)⟩, fun z => absurd z (by decide)⟩, fun _ => trivial⟩
    · rw [er, em, ec]
      rcases c6 with ⟨c6, c7⟩ | ⟨c6, c7⟩
      · rw [c6, if_neg h10]; exact .inl ⟨rfl, c7⟩
      · rw [c6, if_pos rfl]; exact .inr ⟨rfl, c7⟩
  · rcases x4 with ⟨x4, y4, l4⟩ | ⟨x4, y4⟩
    · have e22 : r_22 C = 1 := by unfold r_22; rw [x3, if_pos rfl, x4, if_neg h10]
      obtain ⟨c1, c2, c3, c4, c5, c6⟩ := z_prop1 (w := 1) (X := 11) (lo := 0) (hi := 100) (wI := 1) h hD hk l4 (by omega) (by decide) (by decide) (by decide) (by decide)
      have er : r_165 m = (if r_166 (m_161 m 5 819253 0 14 + 11) 0 100 (m_161 m) = 0 then 0 else 1) := by unfold r_165; rw [y3, if_pos rfl, y4, if_neg h10, c3, if_neg h10]
      have em : m_165 m = m_166 (m_161 m 5 819253 0 14 + 11) 0 100 (m_161 m) := by unfold m_165; rw [y3, if_pos rfl, y4, if_neg h10, c3, if_neg h10, ite_self]
      have ec : m_21 (nI c) C = m_24 (nI c) 1 (m_10 C) := by unfold m_21; rw [e22, if_neg (by decide), if_neg (by decide), if_neg (by decide)]
      refine ⟨?_, ⟨b3, fun _ => ⟨b4, fun z => absurd z (by rw [y4]; decide), fun _ => ⟨c2, fun _ => trivial, fun _ => c5⟩⟩, fun z => absurd y3 z⟩, ?_⟩
      · unfold p_21; rw [e22]; exact ⟨p22, fun _ => ⟨c1, fun _ => ⟨c4, fun _ => trivial, fun z => absurd z (by decide)⟩, fun z => absurd z (by decide)⟩, fun _ => trivial⟩
      · rw [er, em, ec]
        rcases c6 with ⟨c6, c7⟩ | ⟨c6, c7⟩
        · rw [c6, if_neg h10]; exact .inl ⟨rfl, c7⟩
        · rw [c6, if_pos rfl]; exact .inr ⟨rfl, c7⟩
    · rcases x5 with ⟨x5, y5, l5⟩ | ⟨x5, y5⟩
      · have e22 : r_22 C = 2 := by unfold r_22; rw [x3, if_pos rfl, x4, if_pos rfl, x5, if_neg h10]
        obtain ⟨c1, c2, c3, c4, c5, c6⟩ := z_prop1 (w := 2) (X := 12) (lo := 0) (hi := 1000) (wI := 2) h hD hk l5 (by omega) (by decide) (by decide) (by decide) (by decide)
        have er : r_165 m = (if r_166 (m_161 m 5 819253 0 14 + 12) 0 1000 (m_161 m) = 0 then 0 else 1) := by unfold r_165; rw [y3, if_pos rfl, y4, if_pos rfl, y5, if_neg h10, c3, if_neg h10]
        have em : m_165 m = m_166 (m_161 m 5 819253 0 14 + 12) 0 1000 (m_161 m) := by unfold m_165; rw [y3, if_pos rfl, y4, if_pos rfl, y5, if_neg h10, c3, if_neg h10, ite_self]
        have ec : m_21 (nI c) C = m_24 (nI c) 2 (m_10 C) := by unfold m_21; rw [e22, if_neg (by decide), if_neg (by decide), if_neg (by decide)]
        refine ⟨?_, ⟨b3, fun _ => ⟨b4, fun _ => ⟨b5, fun z => absurd z (by rw [y5]; decide), fun _ => ⟨c2, fun _ => trivial, fun _ => c5⟩⟩, fun z => absurd y4 z⟩, fun z => absurd y3 z⟩, ?_⟩
        · unfold p_21; rw [e22]; exact ⟨p22, fun _ => ⟨c1, fun _ => ⟨c4, fun _ => trivial, fun z => absurd z (by decide)⟩, fun z => absurd z (by decide)⟩, fun _ => trivial⟩
        · rw [er, em, ec]
          rcases c6 with ⟨c6, c7⟩ | ⟨c6, c7⟩
          · rw [c6, if_neg h10]; exact .inl ⟨rfl, c7⟩
          · rw [c6, if_pos rfl]; exact .inr ⟨rfl, c7⟩
      · rcases x6 with ⟨x6, y6, l6⟩ | ⟨x6, y6⟩
        · have e22 : r_22 C = 3 := by unfold r_22; rw [x3, if_pos rfl, x4, if_pos rfl, x5, if_pos rfl, x6, if_neg h10]
          obtain ⟨c1, c2, c3, c4, c5, c6⟩ := z_prop1 (w := 3) (X := 13) (lo := 0) (hi := 255) (wI := 3) h hD hk l6 (by omega) (by decide) (by decide) (by decide) (by decide)
          have er : r_165 m = (if r_166 (m_161 m 5 819253 0 14 + 13) 0 255 (m_161 m) = 0 then 0 else 1) := by unfold r_165; rw [y3, if_pos rfl, y4, if_pos rfl, y5, if_pos rfl, y6, if_neg h10, c3, if_neg h10]
          have em : m_165 m = m_166 (m_161 m 5 819253 0 14 + 13) 0 255 (m_161 m) := by unfold m_165; rw [y3, if_pos rfl, y4, if_pos rfl, y5, if_pos rfl, y6, if_neg h10, c3, if_neg h10, ite_self]
          have ec : m_21 (nI c) C = m_24 (nI c) 3 (m_10 C) := by unfold m_21; rw [e22, if_neg (by decide), if_neg (by decide), if_neg (by decide)]
          refine ⟨?_, ⟨b3, fun _ => ⟨b4, fun _ => ⟨b5, fun _ => ⟨b6, fun z => absurd z (by rw [y6]; decide), fun _ => ⟨c2, fun _ => trivial, fun _ => c5⟩⟩, fun z => absurd y5 z⟩, fun z => absurd y4 z⟩, fun z => absurd y3 z⟩, ?_⟩
          · unfold p_21; rw [e22]; exact ⟨p22, fun _ => ⟨c1, fun _ => ⟨c4, fun _ => trivial, fun z => absurd z (by decide)⟩, fun z => absurd z (by decide)⟩, fun _ => trivial⟩
          · rw [er, em, ec]
            rcases c6 with ⟨c6, c7⟩ | ⟨c6, c7⟩
            · rw [c6, if_neg h10]; exact .inl ⟨rfl, c7⟩
            · rw [c6, if_pos rfl]; exact .inr ⟨rfl, c7⟩
        · rcases x7 with ⟨x7, y7, l7⟩ | ⟨x7, y7⟩
          · have e22 : r_22 C = 4 := by unfold r_22; rw [x3, if_pos rfl, x4, if_pos rfl, x5, if_pos rfl, x6, if_pos rfl, x7, if_neg h10]
            obtain ⟨c1, c2, c3, c4, c5, c6⟩ := z_prop1 (w := 4) (X := 14) (lo := 0) (hi := 9) (wI := 4) h hD hk l7 (by omega) (by decide) (by decide) (by decide) (by decide)
            have er : r_165 m = (if r_166 (m_161 m 5 819253 0 14 + 14) 0 9 (m_161 m) = 0 then 0 else 1) := by unfold r_165; rw [y3, if_pos rfl, y4, if_pos rfl, y5, if_pos rfl, y6, if_pos rfl, y7, if_neg h10, c3, if_neg h10]
            have em : m_165 m = m_166 (m_161 m 5 819253 0 14 + 14) 0 9 (m_161 m) := by unfold m_165; rw [y3, if_pos rfl, y4, if_pos rfl, y5, if_pos rfl, y6, if_pos rfl, y7, if_neg h10, c3, if_neg h10, ite_self]
            have ec : m_21 (nI c) C = m_24 (nI c) 4 (m_10 C) := by unfold m_21; rw [e22, if_neg (by decide), if_neg (by decide), if_neg (by decide)]
            refine ⟨?_, ⟨b3, fun _ => ⟨b4, fun _ => ⟨b5, fun _ => ⟨b6, fun _ => ⟨b7, fun z => absurd z (by rw [y7]; decide), fun _ => ⟨c2, fun _ => trivial, fun _ => c5⟩⟩, fun z => absurd y6 z⟩, fun z => absurd y5 z⟩, fun z => absurd y4 z⟩, fun z => absurd y3 z⟩, ?_⟩
            · unfold p_21; rw [e22]; exact ⟨p22, fun _ => ⟨c1, fun _ => ⟨c4, fun _ => trivial, fun z => absurd z (by decide)⟩, fun z => absurd z (by decide)⟩, fun _ => trivial⟩
            · rw [er, em, ec]
              rcases c6 with ⟨c6, c7⟩ | ⟨c6, c7⟩
              · rw [c6, if_neg h10]; exact .inl ⟨rfl, c7⟩
              · rw [c6, if_pos rfl]; exact .inr ⟨rfl, c7⟩
          · rcases x8 with ⟨x8, y8, l8⟩ | ⟨x8, y8⟩
            · have e22 : r_22 C = 5 := by unfold r_22; rw [x3, if_pos rfl, x4, if_pos rfl, x5, if_pos rfl, x6, if_pos rfl, x7, if_pos rfl, x8, if_neg h10]
              obtain ⟨c1, c2, c3, c4, c5, c6⟩ := z_prop2 h hD hk l8
              have er : r_165 m = (if r_168 (m_161 m) = 0 then 0 else 1) := by unfold r_165; rw [y3, if_pos rfl, y4, if_pos rfl, y5, if_pos rfl, y6, if_pos rfl, y7, if_pos rfl, y8, if_neg h10, c3, if_neg h10]
              have em : m_165 m = m_168 (m_161 m) := by unfold m_165; rw [y3, if_pos rfl, y4, if_pos rfl, y5, if_pos rfl, y6, if_pos rfl, y7, if_pos rfl, y8, if_neg h10, c3, if_neg h10, ite_self]
              have ec : m_21 (nI c) C = m_23 (nI c) (m_10 C) := by unfold m_21; rw [e22, if_neg (by decide), if_pos rfl]
              refine ⟨?_, ⟨b3, fun _ => ⟨b4, fun _ => ⟨b5, fun _ => ⟨b6, fun _ => ⟨b7, fun _ => ⟨b8, fun z => absurd z (by rw [y8]; decide), fun _ => ⟨c2, fun _ => trivial, fun _ => c5⟩⟩, fun z => absurd y7 z⟩, fun z => absurd y6 z⟩, fun z => absurd y5 z⟩, fun z => absurd y4 z⟩, fun z => absurd y3 z⟩, ?_⟩
              · unfold p_21; rw [e22]; exact ⟨p22, fun _ => ⟨c1, fun z => absurd rfl z, fun _ => c4⟩, fun _ => trivial⟩
              · rw [er, em, ec]
                rcases c6 with ⟨c6, c7⟩ | ⟨c6, c7⟩
                · rw [c6, if_neg h10]; exact .inl ⟨rfl, c7⟩
                · rw [c6, if_pos rfl]; exact .inr ⟨rfl, c7⟩
            · rcases x9 with ⟨x9, y9, l9⟩ | ⟨x9, y9⟩
              · have e22 : r_22 C = 6 := by unfold r_22; rw [x3, if_pos rfl, x4, if_pos rfl, x5, if_pos rfl, x6, if_pos rfl, x7, if_pos rfl, x8, if_pos rfl, x9, if_neg h10]
                obtain ⟨c1, c2, c3, c4, c5, c6⟩ := z_prop1 (w := 6) (X := 16) (lo := 1) (hi := 100) (wI := 6) h hD hk l9 (by omega) (by decide) (by decide) (by decide) (by decide)
                have er : r_165 m = (if r_166 (m_161 m 5 819253 0 14 + 16) 1 100 (m_161 m) = 0 then 0 else 1) := by unfold r_165; rw [y3, if_pos rfl, y4, if_pos rfl, y5, if_pos rfl, y6, if_pos rfl, y7, if_pos rfl, y8, if_pos rfl, y9, if_neg h10, c3, if_neg h10]
                have em : m_165 m = m_166 (m_161 m 5 819253 0 14 + 16) 1 100 (m_161 m) := by unfold m_165; rw [y3, if_pos rfl, y4, if_pos rfl, y5, if_pos rfl, y6, if_pos rfl, y7, if_pos rfl, y8, if_pos rfl, y9, if_neg h10, c3, if_neg h10, ite_self]
                have ec : m_21 (nI c) C = m_24 (nI c) 6 (m_10 C) := by unfold m_21; rw [e22, if_neg (by decide), if_neg (by decide), if_neg (by decide)]
                refine ⟨?_, ⟨b3, fun _ => ⟨b4, fun _ => ⟨b5, fun _ => ⟨b6, fun _ => ⟨b7, fun _ => ⟨b8, fun _ => ⟨b9, fun z => absurd z (by rw [y9]; decide), fun _ => ⟨c2, fun _ => trivial, fun _ => c5⟩⟩, fun z => absurd y8 z⟩, fun z => absurd y7 z⟩, fun z => absurd y6 z⟩, fun z => absurd y5 z⟩, fun z => absurd y4 z⟩, fun z => absurd y3 z⟩, ?_⟩
                · unfold p_21; rw [e22]; exact ⟨p22, fun _ => ⟨c1, fun _ => ⟨c4, fun _ => trivial, fun z => absurd z (by decide)⟩, fun z => absurd z (by decide)⟩, fun _ => trivial⟩
                · rw [er, em, ec]
                  rcases c6 with ⟨c6, c7⟩ | ⟨c6, c7⟩
                  · rw [c6, if_neg h10]; exact .inl ⟨rfl, c7⟩
                  · rw [c6, if_pos rfl]; exact .inr ⟨rfl, c7⟩
              · rcases x10 with ⟨x10, y10, l10⟩ | ⟨x10, y10⟩
                · have e22 : r_22 C = 7 := by unfold r_22; rw [x3, if_pos rfl, x4, if_pos rfl, x5, if_pos rfl, x6, if_pos rfl, x7, if_pos rfl, x8, if_pos rfl, x9, if_pos rfl, x10, if_neg h10]
                  obtain ⟨c1, c2, c3, c4, c5, c6⟩ := z_prop1 (w := 7) (X := 17) (lo := 1) (hi := 9) (wI := 7) h hD hk l10 (by omega) (by decide) (by decide) (by decide) (by decide)
                  have er : r_165 m = (if r_166 (m_161 m 5 819253 0 14 + 17) 1 9 (m_161 m) = 0 then 0 else (if r_166 (m_166 (m_161 m 5 819253 0 14 + 17) 1 9 (m_161 m) 5 819253 0 14 + 18) 1 1000 (m_166 (m_161 m 5 819253 0 14 + 17) 1 9 (m_161 m)) = 0 then 0 else 1)) := by unfold r_165; rw [y3, if_pos rfl, y4, if_pos rfl, y5, if_pos rfl, y6, if_pos rfl, y7, if_pos rfl, y8, if_pos rfl, y9, if_pos rfl, y10, if_neg h10, c3, if_neg h10]
                  have em : m_165 m = (if r_166 (m_161 m 5 819253 0 14 + 17) 1 9 (m_161 m) = 0 then m_166 (m_161 m 5 819253 0 14 + 17) 1 9 (m_161 m) else m_166 (m_166 (m_161 m 5 819253 0 14 + 17) 1 9 (m_161 m) 5 819253 0 14 + 18) 1 1000 (m_166 (m_161 m 5 819253 0 14 + 17) 1 9 (m_161 m))) := by unfold m_165; rw [y3, if_pos rfl, y4, if_pos rfl, y5, if_pos rfl, y6, if_pos rfl, y7, if_pos rfl, y8, if_pos rfl, y9, if_pos rfl, y10, if_neg h10, c3, if_neg h10, ite_self]
                  have ec : m_21 (nI c) C = (if (m_24 (nI c) 7 (m_10 C)) 4 671757 0 6 = 0 then m_24 (nI c) 8 (m_24 (nI c) 7 (m_10 C)) else m_24 (nI c) 7 (m_10 C)) := by unfold m_21; rw [e22, if_neg (by decide), if_neg (by decide), if_pos rfl]
                  rcases c6 with ⟨c6, p2, i2, c7, c8, c9, c10⟩ | ⟨c6, c7⟩
                  · obtain ⟨d1, d2, d3⟩ := z_value2 (w := 8) (X := 18) (lo := 1) (hi := 1000) (wI := 8) c8 c9 c10 (by omega) (by decide) (by decide) (by decide) (by decide)
                    have e0 : (m_24 (nI c) 7 (m_10 C)) 4 671757 0 6 = 0 := c8.2.2.2.2.2.1
                    have n0 : ¬ r_166 (m_161 m 5 819253 0 14 + 17) 1 9 (m_161 m) = 0 := by rw [c6]; decide
                    refine ⟨?_, ⟨b3, fun _ => ⟨b4, fun _ => ⟨b5, fun _ => ⟨b6, fun _ => ⟨b7, fun _ => ⟨b8, fun _ => ⟨b9, fun _ => ⟨b10, fun z => absurd z (by rw [y10]; decide), fun _ => ⟨c2, fun _ => trivial, fun _ => ⟨c5, fun _ => trivial, fun _ => d2⟩⟩⟩, fun z => absurd y9 z⟩, fun z => absurd y8 z⟩, fun z => absurd y7 z⟩, fun z => absurd y6 z⟩, fun z => absurd y5 z⟩, fun z => absurd y4 z⟩, fun z => absurd y3 z⟩, ?_⟩
                    · unfold p_21; rw [e22]; exact ⟨p22, fun _ => ⟨c1, fun _ => ⟨c4, fun _ => trivial, fun _ => ⟨fun _ => trivial, fun _ => d1⟩⟩, fun z => absurd z (by decide)⟩, fun _ => trivial⟩
                    · rw [er, em, ec, if_neg n0, if_neg n0, if_pos e0]
                      rcases (d3.mono c7) with ⟨g6, g7⟩ | ⟨g6, g7⟩
                      · rw [g6, if_neg h10]; exact .inl ⟨rfl, g7⟩
                      · rw [g6, if_pos rfl]; exact .inr ⟨rfl, g7⟩
                  · have e0 : ¬ (m_24 (nI c) 7 (m_10 C)) 4 671757 0 6 = 0 := c7.1
                    refine ⟨?_, ⟨b3, fun _ => ⟨b4, fun _ => ⟨b5, fun _ => ⟨b6, fun _ => ⟨b7, fun _ => ⟨b8, fun _ => ⟨b9, fun _ => ⟨b10, fun z => absurd z (by rw [y10]; decide), fun _ => ⟨c2, fun _ => trivial, fun _ => ⟨c5, fun _ => trivial, fun z => absurd c6 z⟩⟩⟩, fun z => absurd y9 z⟩, fun z => absurd y8 z⟩, fun z => absurd y7 z⟩, fun z => absurd y6 z⟩, fun z => absurd y5 z⟩, fun z => absurd y4 z⟩, fun z => absurd y3 z⟩, ?_⟩
                    · unfold p_21; rw [e22]; exact ⟨p22, fun _ => ⟨c1, fun _ => ⟨c4, fun _ => trivial, fun _ => ⟨fun _ => trivial, fun z => absurd z e0⟩⟩, fun z => absurd z (by decide)⟩, fun _ => trivial⟩
                    · rw [er, em, ec, if_pos c6, if_pos c6, if_neg e0]; exact .inr ⟨rfl, c7⟩
                · rcases x11 with ⟨x11, y11, l11⟩ | ⟨x11, y11⟩
                  · have e22 : r_22 C = 9 := by unfold r_22; rw [x3, if_pos rfl, x4, if_pos rfl, x5, if_pos rfl, x6, if_pos rfl, x7, if_pos rfl, x8, if_pos rfl, x9, if_pos rfl, x10, if_pos rfl, x11, if_neg h10]
                    obtain ⟨c1, c2, c3, c4, c5, c6⟩ := z_prop1 (w := 9) (X := 19) (lo := 0) (hi := 1000) (wI := 9) h hD hk l11 (by omega) (by decide) (by decide) (by decide) (by decide)
                    have er : r_165 m = (if r_166 (m_161 m 5 819253 0 14 + 19) 0 1000 (m_161 m) = 0 then 0 else 1) := by unfold r_165; rw [y3, if_pos rfl, y4, if_pos rfl, y5, if_pos rfl, y6, if_pos rfl, y7, if_pos rfl, y8, if_pos rfl, y9, if_pos rfl, y10, if_pos rfl, y11, if_neg h10, c3, if_neg h10]
                    have em : m_165 m = m_166 (m_161 m 5 819253 0 14 + 19) 0 1000 (m_161 m) := by unfold m_165; rw [y3, if_pos rfl, y4, if_pos rfl, y5, if_pos rfl, y6, if_pos rfl, y7, if_pos rfl, y8, if_pos rfl, y9, if_pos rfl, y10, if_pos rfl, y11, if_neg h10, c3, if_neg h10, ite_self]
                    have ec : m_21 (nI c) C = m_24 (nI c) 9 (m_10 C) := by unfold m_21; rw [e22, if_neg (by decide), if_neg (by decide), if_neg (by decide)]
                    refine ⟨?_, ⟨b3, fun _ => ⟨b4, fun _ => ⟨b5, fun _ => ⟨b6, fun _ => ⟨b7, fun _ => ⟨b8, fun _ => ⟨b9, fun _ => ⟨b10, fun _ => ⟨b11, fun z => absurd z (by rw [y11]; decide), fun _ => ⟨c2, fun _ => trivial, fun _ => c5⟩⟩, fun z => absurd y10 z⟩, fun z => absurd y9 z⟩, fun z => absurd y8 z⟩, fun z => absurd y7 z⟩, fun z => absurd y6 z⟩, fun z => absurd y5 z⟩, fun z => absurd y4 z⟩, fun z => absurd y3 z⟩, ?_⟩
                    · unfold p_21; rw [e22]; exact ⟨p22, fun _ => ⟨c1, fun _ => ⟨c4, fun _ => trivial, fun z => absurd z (by decide)⟩, fun z => absurd z (by decide)⟩, fun _ => trivial⟩
                    · rw [er, em, ec]
                      rcases c6 with ⟨c6, c7⟩ | ⟨c6, c7⟩
                      · rw [c6, if_neg h10]; exact .inl ⟨rfl, c7⟩
                      · rw [c6, if_pos rfl]; exact .inr ⟨rfl, c7⟩
                  · have e22 : r_22 C = -1 := by unfold r_22; rw [x3, if_pos rfl, x4, if_pos rfl, x5, if_pos rfl, x6, if_pos rfl, x7, if_pos rfl, x8, if_pos rfl, x9, if_pos rfl, x10, if_pos rfl, x11, if_pos rfl]
                    obtain ⟨⟨z1, z2, z3, z4, z5, z6, z7, z8, z9, z10⟩, hb⟩ := h
                    obtain ⟨f1, f2, f3⟩ := z_160 (m := m) (a := 1) z7
                    have er : r_165 m = 0 := by unfold r_165; rw [y3, if_pos rfl, y4, if_pos rfl, y5, if_pos rfl, y6, if_pos rfl, y7, if_pos rfl, y8, if_pos rfl, y9, if_pos rfl, y10, if_pos rfl, y11, if_pos rfl, f2]
                    have em : m_165 m = z_fw m 1 (nI p) := by unfold m_165; rw [y3, if_pos rfl, y4, if_pos rfl, y5, if_pos rfl, y6, if_pos rfl, y7, if_pos rfl, y8, if_pos rfl, y9, if_pos rfl, y10, if_pos rfl, y11, if_pos rfl, f3, hb]
                    have ec : m_21 (nI c) C = z_er C 1 (nI p) := by unfold m_21; rw [e22, if_pos rfl, z3]; rfl
                    refine ⟨?_, ⟨b3, fun _ => ⟨b4, fun _ => ⟨b5, fun _ => ⟨b6, fun _ => ⟨b7, fun _ => ⟨b8, fun _ => ⟨b9, fun _ => ⟨b10, fun _ => ⟨b11, fun _ => ⟨f1, .inl f2⟩, fun z => absurd y11 z⟩, fun z => absurd y10 z⟩, fun z => absurd y9 z⟩, fun z => absurd y8 z⟩, fun z => absurd y7 z⟩, fun z => absurd y6 z⟩, fun z => absurd y5 z⟩, fun z => absurd y4 z⟩, fun z => absurd y3 z⟩, ?_⟩
                    · unfold p_21; rw [e22]; exact ⟨p22, fun z => absurd rfl z, fun _ => trivial⟩
                    · rw [er, em, ec]; exact .inr ⟨rfl, z_er_NO (by decide)⟩
end ZL7
