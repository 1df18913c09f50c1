/-! LOAD, 11: readRelation -/
section ZLB
variable {C C' m m' : ux_M} {T : Nat → Int32} {N i j p p' q n u v w c d e L k s r : Nat} {V a b x : Int32}
theorem z_nneg {v : Nat} (hv : v < 2 ^ 31) : ¬ nI v = -1 := fun z => by
  have : (nI v).toInt = v := nI_toInt hv
  rw [z] at this; have : (-1 : Int32).toInt = -1 := by decide
  omega
theorem z_DR.see {a b : Int32} (h : z_DR c d C m) : z_DR c d C (z_pnt m a b) := h.cg (fun _ _ _ _ _ => rfl) (fun i => z_pnt_o (by decide)) (z_pnt_i (by omega))
theorem z_relatv (h : z_RB T N p C m) (hD : z_DR c c C m) (hl : z_xL T N p = true) (hv : v < c) (e162 : p_162 m) (er : r_162 m = nI v) : p_14_36 (nI v) C ∧ p_171 m ∧ z_sto T N p (r_171 m) (m_14_36 (nI v) C) (m_171 m) := by
  have hc : c ≤ 16 := hD.1.2.2.1
  have nv := z_nneg (v := v) (by omega)
  obtain ⟨p1, hp1⟩ : ∃ p', p' = z_xn (z_xB T N) N (z_xe T N p) := ⟨_, rfl⟩
  obtain ⟨a1, _, a3, _, _, a6, a7, a8⟩ := h.pass hl hp1
  obtain ⟨s1, _, s3, hB1⟩ := a7.see
  have hD1 : z_DR c c (m_10 C) (m_152 (m_161 m)) := by rw [s3]; exact (a8 c c hD).see
  obtain ⟨C1, eC1⟩ : ∃ y, y = m_10 C := ⟨_, rfl⟩
  obtain ⟨m1, em1⟩ : ∃ y, y = m_152 (m_161 m) := ⟨_, rfl⟩
  rw [← eC1, ← em1] at hB1 hD1
  unfold p_14_36 m_14_36 p_171 r_171 m_171
  rw [er, ← eC1, ← em1, if_neg nv, if_neg nv, if_neg nv]
  obtain ⟨g1, g2, g3⟩ := z_relw hB1
  have b12 : m1 5 819253 0 12 = 0 := hB1.1.2.2.2.2.2.2.1
  have b4 : C1 4 671757 0 4 = nI p1 := hB1.1.2.2.1
  rcases g3 with ⟨r, r6, w1, w2, l1⟩ | ⟨w1, w2⟩
  · obtain ⟨p2, hp2⟩ : ∃ p', p' = z_xn (z_xB T N) N (z_xe T N p1) := ⟨_, rfl⟩
    obtain ⟨c1, _, c3, _, _, c6, c7, c8⟩ := hB1.pass l1 hp2
    obtain ⟨t1, _, t3, hB2⟩ := c7.see
    have hD2 : z_DR c c (m_10 C1) (m_152 (m_161 m1)) := by rw [t3]; exact (c8 c c hD1).see
    obtain ⟨C2, eC2⟩ : ∃ y, y = m_10 C1 := ⟨_, rfl⟩
    obtain ⟨m2, em2⟩ : ∃ y, y = m_152 (m_161 m1) := ⟨_, rfl⟩
    rw [← eC2, ← em2] at hB2 hD2
    have n17 := z_nneg (v := r) (by omega)
    have n172 := z_nneg (v := 22 + r) (by omega)
    have d12 : m2 5 819253 0 12 = 0 := hB2.1.2.2.2.2.2.2.1
    have d4 : C2 4 671757 0 4 = nI p2 := hB2.1.2.2.1
    obtain ⟨u1, u2, u3, u4⟩ := z_readU hB2 hD2
    rw [w1, w2, ← eC2, ← em2, if_neg n17, if_neg n172, if_neg n172, hB2.2]
    rcases u4 with ⟨x0, x1, x2⟩ | ⟨x0, x1, x2, x3⟩ | ⟨x0, l2, v2, hv2, x1, x2, x3⟩
    · obtain ⟨f1, f2, f3⟩ := z_160 (m := m2) (a := 1) d12
      rw [hB2.2] at f3
      rw [x0, x1, x2, if_pos rfl, if_pos rfl, if_pos rfl, f2, f3]
      exact ⟨⟨fun _ => ⟨a1, g1, fun _ => ⟨c1, u1, fun z => absurd rfl z, fun _ => trivial⟩, fun _ => trivial⟩, fun _ => trivial⟩, ⟨e162, fun _ => ⟨a3, s1, g2, fun _ => ⟨c3, t1, u2, fun z => absurd rfl z, fun _ => ⟨f1, .inl rfl⟩⟩, fun z => absurd z n172⟩, fun z => absurd z nv⟩, .inr ⟨rfl, z_er_NO (by decide)⟩⟩
    · obtain ⟨f1, f2, f3⟩ := z_160 (m := m2) (a := 3) d12
      rw [hB2.2] at f3
      rw [x1, x2, x3, if_pos rfl, if_neg x0, if_pos rfl, if_neg x0, if_pos rfl, f2, f3]
      exact ⟨⟨fun _ => ⟨a1, g1, fun _ => ⟨c1, u1, fun z => absurd rfl z, fun _ => trivial⟩, fun _ => trivial⟩, fun _ => trivial⟩, ⟨e162, fun _ => ⟨a3, s1, g2, fun _ => ⟨c3, t1, u2, fun _ => ⟨u3, fun _ => ⟨f1, .inl rfl⟩, fun z => absurd rfl z⟩, fun z => absurd z x0⟩, fun z => absurd z n172⟩, fun z => absurd z nv⟩, .inr ⟨rfl, z_er_NO (by decide)⟩⟩
    · have nv2 := z_nneg (v := v2) (by omega)
      rw [x1, x2, x3, if_neg nv2, if_neg x0, if_neg nv2, if_neg x0, if_neg nv2]
      by_cases q : v2 = v
      · subst q
        obtain ⟨f1, f2, f3⟩ := z_160 (m := m2) (a := 3) d12
        rw [hB2.2] at f3
        rw [if_pos rfl, if_pos rfl, if_pos rfl, f2, f3]
        refine ⟨⟨fun _ => ⟨a1, g1, fun _ => ⟨c1, u1, fun _ => ⟨fun z => absurd rfl z, fun _ => trivial⟩, fun _ => trivial⟩, fun _ => trivial⟩, fun _ => trivial⟩, ⟨e162, fun _ => ⟨a3, s1, g2, fun _ => ⟨c3, t1, u2, fun _ => ⟨u3, fun z => absurd z nv2, fun _ => ⟨fun z => absurd rfl z, fun _ => ⟨f1, .inl rfl⟩⟩⟩, fun z => absurd z x0⟩, fun z => absurd z n172⟩, fun z => absurd z nv⟩, .inr ⟨rfl, ?_⟩⟩
        show z_NO (z_er C2 3 (C2 4 671757 0 4)) _
        rw [d4]; exact z_er_NO (by decide)
      · have nq : ¬ nI v2 = nI v := fun z => q ((z_eq (by omega) (by omega)).mp z)
        obtain ⟨p3, hp3⟩ : ∃ p', p' = z_xn (z_xB T N) N (z_xe T N p2) := ⟨_, rfl⟩
        have i16 : ∀ y, y < c → vp_in (nI y) 16 := fun y hy => z_i16 (by omega)
        rw [if_neg nq, if_neg nq, if_neg nq]
        by_cases q6 : r = 6
        · subst q6
          have e6 : nI 6 = (6 : Int32) := rfl
          have n27 : ¬ nI (22 + 6) ≤ (27 : Int32) := by decide
          have ix : (188 : Int32) + (56 : Int32) * nI v2 + (27 : Int32) = nI (188 + 56 * v2 + (22 + 5)) := by rw [z_ixu]; exact z_add _ 27
          have vx : vp_in (nI (188 + 56 * v2 + (22 + 5))) 1084 := vp_in_nI (by omega) (by omega)
          have hB3 : z_RB T N p2 (ux_set C2 4 475265 5 v2 (C2 4 475265 5 v2 ||| ((1 : Int32) <<< (nI v &&& 31)))) (ux_set m2 5 877025 0 (188 + 56 * v2 + (22 + 5)) (m2 5 877025 0 (188 + 56 * v2 + (22 + 5)) ||| ((1 : Int32) <<< (nI v &&& 31)))) := hB2.cg (fun s r i q => z_so (by omega)) (fun s r i q => z_so q)
          have hD3 := hD2.rw (r := 5) (by omega) hv2 hv (fun z => q z.symm)
          obtain ⟨k1, _, k3, k4, _, k6, k7, k8⟩ := hB3.pass l2 hp3
          rw [if_pos e6, if_neg n27, if_neg n27, ix, z_c5, z_cls (show v2 < 2000000000 by omega), z_cls (show 188 + 56 * v2 + (22 + 5) < 2000000000 by omega)]
          exact ⟨⟨fun _ => ⟨a1, g1, fun _ => ⟨c1, u1, fun _ => ⟨fun _ => ⟨fun z => absurd e6 z, fun _ => ⟨vp_in_nI (n := 5) (by omega) (by omega), i16 v2 hv2, i16 v2 hv2, fun M19 e => by subst e; exact k1⟩⟩, fun _ => trivial⟩, fun _ => trivial⟩, fun _ => trivial⟩, fun _ => trivial⟩, ⟨e162, fun _ => ⟨a3, s1, g2, fun _ => ⟨c3, t1, u2, fun _ => ⟨u3, fun z => absurd z nv2, fun _ => ⟨fun _ => ⟨fun z => absurd z n27, fun _ => ⟨vx, vx, fun M38 e => by subst e; exact ⟨k3, .inr k4⟩⟩⟩, fun z => absurd z nq⟩⟩, fun z => absurd z x0⟩, fun z => absurd z n172⟩, fun z => absurd z nv⟩, .inl ⟨k4, p3, _, c, by omega, k7, k8 c c hD3⟩⟩
        · have e6 : ¬ nI r = (6 : Int32) := fun z => q6 ((z_eq (b := 6) (by omega) (by omega)).mp z)
          have n27 : nI (22 + r) ≤ (27 : Int32) := (z_le (b := 27) (by omega) (by omega)).mpr (by omega)
          have ix : (188 : Int32) + (56 : Int32) * nI v + nI (22 + r) = nI (188 + 56 * v + (22 + r)) := by rw [z_ixu, z_add]
          have vx : vp_in (nI (188 + 56 * v + (22 + r))) 1084 := vp_in_nI (by omega) (by omega)
          have hB3 : z_RB T N p2 (ux_set C2 4 475265 r v (C2 4 475265 r v ||| ((1 : Int32) <<< (nI v2 &&& 31)))) (ux_set m2 5 877025 0 (188 + 56 * v + (22 + r)) (m2 5 877025 0 (188 + 56 * v + (22 + r)) ||| ((1 : Int32) <<< (nI v2 &&& 31)))) := hB2.cg (fun s r i q => z_so (by omega)) (fun s r i q => z_so q)
          have hD3 := hD2.rw (r := r) (by omega) hv hv2 q
          obtain ⟨k1, _, k3, k4, _, k6, k7, k8⟩ := hB3.pass l2 hp3
          rw [if_neg e6, if_pos n27, if_pos n27, ix, z_cls (show r < 2000000000 by omega), z_cls (show v < 2000000000 by omega), z_cls (show 188 + 56 * v + (22 + r) < 2000000000 by omega)]
          exact ⟨⟨fun _ => ⟨a1, g1, fun _ => ⟨c1, u1, fun _ => ⟨fun _ => ⟨fun _ => ⟨vp_in_nI (by omega) (by omega), i16 v hv, i16 v hv, fun M16 e => by subst e; exact k1⟩, fun z => absurd z e6⟩, fun _ => trivial⟩, fun _ => trivial⟩, fun _ => trivial⟩, fun _ => trivial⟩, ⟨e162, fun _ => ⟨a3, s1, g2, fun _ => ⟨c3, t1, u2, fun _ => ⟨u3, fun z => absurd z nv2, fun _ => ⟨fun _ => ⟨fun _ => ⟨vx, vx, fun M34 e => by subst e; exact ⟨k3, .inr k4⟩⟩, fun z => absurd n27 z⟩, fun z => absurd z nq⟩⟩, fun z => absurd z x0⟩, fun z => absurd z n172⟩, fun z => absurd z nv⟩, .inl ⟨k4, p3, _, c, by omega, k7, k8 c c hD3⟩⟩
  · obtain ⟨f1, f2, f3⟩ := z_160 (m := m1) (a := 1) b12
    rw [hB1.2] at f3
    rw [w1, w2, if_pos rfl, if_pos rfl, if_pos rfl, f2, f3]
    refine ⟨⟨fun _ => ⟨a1, g1, fun z => absurd rfl z, fun _ => trivial⟩, fun _ => trivial⟩, ⟨e162, fun _ => ⟨a3, s1, g2, fun z => absurd rfl z, fun _ => ⟨f1, .inl rfl⟩⟩, fun z => absurd z nv⟩, .inr ⟨rfl, ?_⟩⟩
    show z_NO (z_er C1 1 (C1 4 671757 0 4)) _
    rw [b4]; exact z_er_NO (by decide)
/-- readRelation -/
theorem z_relat (h : z_RB T N p C m) (hD : z_DR c c C m) : p_14 C ∧ p_171 m ∧ z_sto T N p (r_171 m) (m_14 C) (m_171 m) := by
  have hle := h.1.le
  have x1 := (z_xpe (T := T) hle.1).1
  have e3 : C 4 671757 0 3 = z_xp T N p := h.1.2.2.2.2.1
  have e1 : C 4 671757 0 1 = 1 := h.1.1.2.1
  have e4 : C 4 671757 0 4 = nI p := h.1.2.2.1
  have e12 : m 5 819253 0 12 = 0 := h.1.2.2.2.2.2.2.1
  have bad : r_162 m = -1 → p_162 m → p_14_36 (-1) C ∧ p_171 m ∧ z_sto T N p (r_171 m) (m_14_36 (-1) C) (m_171 m) := fun er ep => by
    obtain ⟨f1, f2, f3⟩ := z_160 (m := m) (a := 1) e12
    rw [h.2] at f3
    unfold p_14_36 m_14_36 p_171 r_171 m_171
    rw [er, if_pos rfl, if_pos rfl, if_pos rfl, f2, f3]
    refine ⟨⟨fun z => absurd rfl z, fun _ => trivial⟩, ⟨ep, fun z => absurd rfl z, fun _ => ⟨f1, .inl rfl⟩⟩, .inr ⟨rfl, ?_⟩⟩
    show z_NO (z_er C 1 (C 4 671757 0 4)) _
    rw [e4]; exact z_er_NO (by decide)
  by_cases q : z_xL T N p = true
  · obtain ⟨c1, c2, c3, c4, c5, c6⟩ := z_named h hD q rfl
    have px := x1.mpr q
    unfold p_14 m_14
    rw [e3, if_pos px, c2, c1, c4]
    rcases c6 with ⟨d1, d2, _⟩ | ⟨v, d1, d2, d3⟩ | ⟨z, _⟩
    · obtain ⟨b1, b2, b3⟩ := bad d2 c5
      rw [d1]
      exact ⟨⟨fun z => absurd px z, fun _ => ⟨e1, c3, b1⟩⟩, b2, b3⟩
    · obtain ⟨b1, b2, b3⟩ := z_relatv h hD q d1 c5 d3
      rw [d2]
      exact ⟨⟨fun z => absurd px z, fun _ => ⟨e1, c3, b1⟩⟩, b2, b3⟩
    · omega
  · have n1 : ¬ z_xp T N p = 1 := fun z => q (x1.mp z)
    obtain ⟨c1, c2⟩ := z_162n h hD q
    obtain ⟨b1, b2, b3⟩ := bad c2 c1
    unfold p_14 m_14
    rw [e3, if_neg n1]
    exact ⟨⟨fun _ => b1, fun z => absurd z n1⟩, b2, b3⟩
end ZLB
