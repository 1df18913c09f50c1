/-! LOAD, 22: the loop of statements, both sides -/
section ZLM
variable {C C' m m' : ux_M} {T : Nat → Int32} {N i p p' n c k : Nat}
/-- what the loops come to: both read c' units (the class then derives), or both refuse -/
def z_lpo (T : Nat → Int32) (N : Nat) (r : Int32) (C' : ux_M) (R : Int32) (m' : ux_M) : Prop :=
  (r = 1 ∧ R = 1 ∧ ∃ c' C1, C' = m_27 4 C1 ∧ C1 4 671757 0 6 = 0 ∧ m' 5 819253 0 12 = 0 ∧ z_rd4 C1 T N ∧ z_rd5 m' T N ∧ z_DR c' c' C1 m') ∨ (r = 0 ∧ R = 0 ∧ z_NO C' m')
theorem z_8l (hT : ∀ j, j < N → ¬ T j = -1) (p27 : ∀ X, p_27 4 X) : ∀ n p i c f f' k C m, p + n = N → n < f → n < f' → k ≤ p → z_RS T N p i C m → z_DR c c C m →
    p_8_43 f (nI k) C ∧ p_151 m ∧ (¬ r_151 m = 0 → p_150_9 f' (m_151 m)) ∧
    z_lpo T N (r_8_43 f (nI k) C) (m_8_43 f (nI k) C) (if r_151 m = 0 then 0 else r_150_9 f' (m_151 m)) (if r_151 m = 0 then m_151 m else m_150_9 f' (m_151 m)) := by
  intro n
  induction n using Nat.strongRecOn with
  | ind n ih =>
    intro p i c f f' k C m hp hf hf' hk hR hD
    obtain ⟨f, rfl⟩ : ∃ g, f = g + 1 := ⟨f - 1, by omega⟩
    obtain ⟨f', rfl⟩ : ∃ g, f' = g + 1 := ⟨f' - 1, by omega⟩
    have hle := hR.le
    have h10 : ¬ (1 : Int32) = 0 := by decide
    have h30 : ¬ (3 : Int32) = 0 := by decide
    have e2 : C 4 671757 0 2 = nI N := hR.1.2.2.1
    have kN : ¬ nI N < nI k := fun z => by have := (z_lt (by omega) (by omega)).mp z; omega
    obtain ⟨s1, s2, s3⟩ := z_stat hR hD
    rw [p_8_43, r_8_43, m_8_43, p_150_9, r_150_9, m_150_9, e2, if_neg kN, if_neg kN]
    rcases s3 with ⟨t1, p', i', c', t2, t3, t4⟩ | ⟨t1, t2⟩
    · have hle' := t3.le
      have e6 : (m_11 C) 4 671757 0 6 = 0 := t3.2.2.2.2.2.1
      have e3 : (m_11 C) 4 671757 0 3 = z_xp T N p' := t3.2.2.2.2.1
      have e4 : (m_11 C) 4 671757 0 4 = nI p' := t3.2.2.1
      obtain ⟨x1, x2, x3⟩ := z_xp3 (T := T) hle'.1
      obtain ⟨u1, u2, u3, u4⟩ := t3.see
      rw [t1, if_neg h10, if_neg h10, e6, e3, if_pos rfl, if_pos rfl, u2]
      by_cases q : N ≤ p'
      · have y0 := x1.mpr q
        have n59 : ¬ (-1 : Int32) = 59 := by decide
        have n01 : ¬ (0 : Int32) = 3 := by decide
        obtain ⟨w1, w2, w3, w4⟩ := u4.1.see
        rw [w2, if_pos q, if_neg n59, if_neg n59, if_pos rfl, if_pos rfl, y0, if_pos rfl, if_pos rfl]
        refine ⟨⟨fun _ => trivial, fun _ => ⟨s1, fun z => absurd rfl z, fun _ => ⟨fun z => absurd rfl z, fun _ => p27 _⟩⟩⟩, s2, fun _ => ⟨u1, fun _ => ⟨w1, fun _ => trivial, fun z => absurd rfl z⟩, fun z => absurd z n59⟩, .inl ⟨rfl, rfl, c', m_11 C, rfl, e6, w4.1.2.2.2.2.2.2.1, w4.1.1, w4.1.2.1, ?_⟩⟩
        rw [w3, u3, if_pos rfl]
        exact t4.cg (fun _ _ _ _ _ => rfl) (fun i => by rw [z_pnt_o (by decide), z_pnt_o (by decide)]) (by rw [z_pnt_i (by omega), z_pnt_i (by omega)])
      · have y0 : ¬ z_xp T N p' = 0 := fun z => q (x1.mp z)
        rw [if_neg q, if_neg y0, if_neg y0]
        by_cases q3 : z_xp T N p' = 3
        · have t59 := (x2.mp q3).2
          have xe := x3 q3
          obtain ⟨p'', hp''⟩ : ∃ p'', p'' = z_xn (z_xB T N) N (z_xe T N p') := ⟨_, rfl⟩
          obtain ⟨g1, g2, g3, g4, g5⟩ := t3.go hp''
          have em : ux_set (m_152 (m_151 m)) 5 819253 0 9 ((m_152 (m_151 m)) 5 819253 0 9 + (1 : Int32)) = z_pnt (m_151 m) (nI (z_xe T N p')) (nI p') := by
            rw [u3, z_pnt_9, z_pnt_s9, z_nx p', xe]
          have on := t3.on (b := nI p') g3 hp''
          have dn : z_DR c' c' (z_rm (m_11 C) (nI p'') (nI (z_xe T N p'')) (z_xp T N p'')) (z_pnt (m_151 m) (nI (z_xe T N p')) (nI p')) := t4.rd
          rw [← g2] at on dn
          obtain ⟨i1, i2, i3, i4⟩ := ih (N - p'') (by omega) p'' _ c' f f' (k + 1) (m_10 (m_11 C)) _ (by omega) (by omega) (by omega) (by omega) on dn
          rw [t59, if_pos rfl, if_pos rfl, q3, if_pos rfl, if_pos rfl, em, z_nx k]
          refine ⟨⟨fun z => absurd z kN, fun _ => ⟨s1, fun z => absurd rfl z, fun _ => ⟨fun _ => ⟨fun z => absurd rfl z, fun _ => ⟨fun _ => ⟨fun _ => ⟨g1, i1⟩, fun z => absurd rfl z⟩, fun z => absurd rfl z⟩⟩, fun z => absurd z h30⟩⟩⟩, s2, fun _ => ⟨u1, fun z => absurd rfl z, fun _ M13 e => ?_⟩, i4⟩
          rw [e]; exact ⟨i2, i3, fun _ => trivial⟩
        · have n59 : ¬ T p' = 59 := fun z => q3 (x2.mpr ⟨by omega, z⟩)
          obtain ⟨w1, w2, w3, w4⟩ := u4.1.see
          have nT := hT p' (by omega)
          have b10 : (m_152 (m_152 (m_151 m))) 5 819253 0 10 = nI p' := w4.2
          have b12 : (m_152 (m_152 (m_151 m))) 5 819253 0 12 = 0 := w4.1.2.2.2.2.2.2.1
          obtain ⟨v1, v2, v3⟩ := z_160 (a := 1) b12
          have er6 : z_er (m_11 C) 1 (nI p') 4 671757 0 6 = 1 := by unfold z_er; rw [z_si (by decide), z_ss]
          rw [w2, if_neg q, if_neg n59, if_neg n59, if_neg nT, if_neg nT, v2, if_pos rfl, if_pos rfl, v3, b10, if_neg q3, if_neg q3, e4]
          refine ⟨⟨fun z => absurd z kN, fun _ => ⟨s1, fun z => absurd rfl z, fun _ => ⟨fun _ => ⟨fun z => absurd rfl z, fun _ => ⟨fun z => absurd z q3, fun _ M3 h3 M4 h4 => ?_⟩⟩, fun z => absurd z y0⟩⟩⟩, s2, fun _ => ⟨u1, fun _ => ⟨w1, fun z => absurd z nT, fun _ => v1⟩, fun z => absurd z n59⟩, .inr ⟨?_, rfl, ?_⟩⟩
          · have : M4 4 671757 0 6 = 1 := by rw [h4, h3]; exact er6
            rw [this]; exact ⟨fun z => absurd z h10, fun _ => trivial⟩
          · show (if z_er (m_11 C) 1 (nI p') 4 671757 0 6 = 0 then _ else 0) = 0
            rw [er6, if_neg h10]
          · rw [if_pos rfl, if_pos rfl]; show z_NO (if z_er (m_11 C) 1 (nI p') 4 671757 0 6 = 0 then m_8_43 f (nI k + 1) (m_10 (z_er (m_11 C) 1 (nI p'))) else z_er (m_11 C) 1 (nI p')) _
            rw [er6, if_neg h10]; exact z_er_NO (by decide)
    · have e6 : ¬ (m_11 C) 4 671757 0 6 = 0 := t2.1
      rw [t1, if_pos rfl, if_pos rfl, if_neg e6, if_neg e6, if_neg e6, if_neg e6, if_neg e6, if_neg e6]
      exact ⟨⟨fun z => absurd z kN, fun _ => ⟨s1, fun _ => ⟨fun _ => ⟨fun z => absurd z e6, fun _ => trivial⟩, fun z => absurd z e6⟩, fun z => absurd z e6⟩⟩, s2, fun z => absurd rfl z, .inr ⟨rfl, rfl, t2⟩⟩
end ZLM
