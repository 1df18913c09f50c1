/-! LOAD, 15: a new unit, on both sides -/
section ZLF
variable {C C' R m m' : ux_M} {T : Nat → Int32} {N i j p p' q n u v w c d e L k s r sz : Nat} {V b x kd z0 : Int32}
/-- what comes of a new unit -/
def z_nst (T : Nat → Int32) (N p c : Nat) (kd rc rr : Int32) (C m : ux_M) : Prop := (rc = nI c ∧ rr = 1 ∧ ∃ p' i', p < p' ∧ z_RS T N p' i' C m ∧ z_DR c (c + 1) C m ∧ z_gf m 0 c = kd) ∨ (rc = -1 ∧ rr = 0 ∧ z_NO C m)
theorem z_76 (h : z_RB T N p C m) (hD : z_DR c c C m) (hl : z_xL T N p = true) (hc : c < 16) (hkd : kd = 0 ∨ kd = 1 ∨ kd = 2) (p12 : p_12 C) (hz : (z0 = 0 ∧ r_12 C = -1) ∨ (z0 = 1 ∧ ¬ r_12 C = -1)) : p_19 kd C ∧ p_159_76 kd z0 m ∧ z_nst T N p c kd (r_19 kd C) (r_159_76 kd z0 m) (m_19 kd C) (m_159_76 kd z0 m) := by
  have hle := h.1.le
  have h10 : ¬ (1 : Int32) = 0 := by decide
  obtain ⟨sz, hsz⟩ : ∃ sz, sz = z_xn (z_xL T N) N p - p := ⟨_, rfl⟩
  have szN : sz < 2000000000 := by
    have := (z_xn_b (P := z_xL T N) (N := N) (N - p) p (by omega)).2.1
    omega
  obtain ⟨c1, c2, c3, c4, c5, c6⟩ := z_named h hD hl hsz
  obtain ⟨⟨a1, a2, a3, a4, a5, a6, a7, a8, a9, a10⟩, hb⟩ := h
  obtain ⟨w1, w2, _, _⟩ := z_xn_b (P := z_xL T N) (N := N) (N - p) p (by omega)
  obtain ⟨y1, y2⟩ := (z_xpe (T := T) a8).2.1 hl
  have px := (z_xpe (T := T) a8).1.mpr hl
  obtain ⟨g1, g2⟩ := z_155 a2 a8 hb
  have gs : r_155 m - m 5 819253 0 10 = nI sz := by rw [g2, hb, z_sbn w1, hsz]
  obtain ⟨f1, f2, f3⟩ := z_160 (m := m) (a := 3) a7
  rw [hb] at f3
  have no : z_NO (ux_set (ux_set C 4 671757 0 6 3) 4 671757 0 7 (C 4 671757 0 4)) (z_fw m 3 (nI p)) := by
    show z_NO (z_er C 3 (C 4 671757 0 4)) _
    rw [a3]; exact z_er_NO (by decide)
  by_cases q8 : 8 < sz
  · have l8 : (8 : Int32) < nI sz := (z_lt (a := 8) (by decide) szN).mpr q8
    unfold p_19 r_19 m_19 p_159_76 r_159_76 m_159_76
    rw [a5, gs, c2, if_pos px, if_pos px, if_pos l8, if_pos l8, if_pos l8, if_pos l8, f2, f3]
    exact ⟨⟨fun _ => ⟨fun _ => trivial, fun z => absurd l8 z⟩, fun z => absurd px z⟩, ⟨g1, fun _ => ⟨f1, .inl rfl⟩, fun z => absurd l8 z⟩, .inr ⟨rfl, rfl, no⟩⟩
  · have l8 : ¬ (8 : Int32) < nI sz := fun z => q8 ((z_lt (a := 8) (by decide) szN).mp z)
    unfold p_19 r_19 m_19 p_159_76 r_159_76 m_159_76
    rw [a5, gs, c2, if_pos px, if_pos px, if_neg l8, if_neg l8, if_neg l8, if_neg l8, c1, c4]
    rcases hz with ⟨rfl, r12⟩ | ⟨rfl, r12⟩
    · rw [r12, if_pos rfl, if_pos rfl, if_pos rfl, if_pos rfl]
      rcases c6 with ⟨d1, d2, d3⟩ | ⟨v, d1, d2, d3⟩ | ⟨z, _⟩
      · -- the unit is added
        have ecn : m 5 877025 0 1 = nI c := hD.1.2.2.2.2.1
        have hs8 : sz ≤ 8 := by omega
        obtain ⟨R, r1, r2, r3, q1, q2, q3, q4, q5, q6, q7, qf⟩ := z_20 (kd := kd) a1 hD.1.2.2.2.1 hc hs8 (show p + sz ≤ N by omega)
        have hR : ∀ s r i, ¬ (344085 ≤ s ∧ s < 600000) → R 4 s r i = C 4 s r i := fun s r i q => qf 4 s r i (by omega)
        have R4 : z_rd4 R T N := a1.cg hR
        have R5 : R 4 671757 0 5 = nI (z_xe T N p) := (hR _ _ _ (by omega)).trans a4
        have xl := (z_xe_le (T := T) (N := N) (p := p) a8).1
        obtain ⟨o1, o2⟩ := z_goOn R4 xl R5
        obtain ⟨p2, hp2⟩ : ∃ p', p' = z_xn (z_xB T N) N (z_xe T N p) := ⟨_, rfl⟩
        rw [← hp2] at o2
        have pb := (z_xn_b (P := z_xB T N) (N := N) (N - z_xe T N p) (z_xe T N p) (by omega))
        rw [← hp2] at pb
        have ixu : (188 : Int32) + (56 : Int32) * nI c = nI (188 + 56 * c) := z_ixu c
        have i0 : (nI (188 + 56 * c) + (0 : Int32)).toNatClampNeg = 188 + 56 * c + 0 := by
          rw [show (0 : Int32) = nI 0 from rfl, z_add, z_cls (by omega)]
        have i1 : (nI (188 + 56 * c) + (1 : Int32)).toNatClampNeg = 188 + 56 * c + 1 := by
          rw [show (1 : Int32) = nI 1 from rfl, z_add, z_cls (by omega)]
        have v0 : vp_in (nI (188 + 56 * c) + (0 : Int32)) 1084 := by
          rw [show (0 : Int32) = nI 0 from rfl, z_add]; exact vp_in_nI (by omega) (by omega)
        have v1 : vp_in (nI (188 + 56 * c) + (1 : Int32)) 1084 := by
          rw [show (1 : Int32) = nI 1 from rfl, z_add]; exact vp_in_nI (by omega) (by omega)
        obtain ⟨M16, e16⟩ : ∃ M, M = ux_set m 5 819253 0 14 (nI (188 + 56 * c)) := ⟨_, rfl⟩
        obtain ⟨M17, e17⟩ : ∃ M, M = ux_set M16 5 877025 0 (188 + 56 * c + 0) kd := ⟨_, rfl⟩
        obtain ⟨M21, e21⟩ : ∃ M, M = ux_set M17 5 877025 0 (188 + 56 * c + 1) (nI sz) := ⟨_, rfl⟩
        have t16 : M16 5 819253 0 14 = nI (188 + 56 * c) := by rw [e16]; exact z_ss
        have t17 : M17 5 819253 0 14 = nI (188 + 56 * c) := by rw [e17, z_so (by decide)]; exact t16
        have t21 : M21 5 819253 0 14 = nI (188 + 56 * c) := by rw [e21, z_so (by decide)]; exact t17
        have b17 : M17 5 819253 0 10 = nI p := by rw [e17, z_so (by decide), e16, z_si (by decide)]; exact hb
        have b21 : M21 5 819253 0 10 = nI p := by rw [e21, z_so (by decide)]; exact b17
        have rd16 : z_rd5 M16 T N := ⟨a2.1, by rw [e16, z_si (by decide)]; exact a2.2.1, fun i hi => by rw [e16, z_so (by decide)]; exact a2.2.2 i hi⟩
        have rd17 : z_rd5 M17 T N := rd16.cg (fun s r i q => by rw [e17]; exact z_so q)
        have rd21 : z_rd5 M21 T N := rd17.cg (fun s r i q => by rw [e21]; exact z_so q)
        obtain ⟨k1, k2⟩ := z_155 rd17 a8 b17
        have ks : r_155 M17 - M17 5 819253 0 10 = nI sz := by rw [k2, b17, z_sbn w1, hsz]
        obtain ⟨l1, l2, l3, l4, l5⟩ := z_159l rd21 a8 b21 t21 hc hs8 hsz sz ux_fuel 0 M21 (by omega) (by have := z_fuel; omega) (fun _ _ _ _ => rfl)
        rw [Nat.add_zero p] at l1 l2 l3 l4 l5
        obtain ⟨Z, eZ⟩ : ∃ Z, Z = m_159_159 ux_fuel (nI p) M21 := ⟨_, rfl⟩
        rw [← eZ] at l3 l4 l5
        have Zm : ∀ a s r i, ¬ (a = 5 ∧ ((s = 877025 ∧ 188 + 56 * c ≤ i ∧ i < 188 + 56 * c + 56) ∨ (s = 819253 ∧ (i = 9 ∨ i = 14)))) → Z a s r i = m a s r i := fun a s r i q => by
          rw [l5 a s r i (by omega), e21, z_set, if_neg (by omega), e17, z_set, if_neg (by omega), e16, z_set, if_neg (by omega)]
        have Zg : ∀ a, a < 56 → z_gf Z a c = z_nv T p sz kd a := fun a ha => by
          show Z 5 877025 0 (188 + 56 * c + a) = _
          rw [l3 a ha]
          unfold z_nv
          by_cases g6 : z_d6 a = true
          · rw [if_pos g6, if_pos g6]
          · rw [if_neg g6, if_neg g6]
            by_cases gl : 2 ≤ a ∧ a < 2 + sz
            · rw [if_pos gl, if_pos (show 2 + 0 ≤ a ∧ a < 2 + sz by omega)]
            · rw [if_neg gl, if_neg (show ¬ (2 + 0 ≤ a ∧ a < 2 + sz) by omega), e21, z_set]
              by_cases g1 : a = 1
              · subst g1; rw [if_pos rfl, if_pos ⟨rfl, rfl, rfl, rfl⟩]
              · rw [if_neg g1, if_neg (by omega), e17, z_set]
                by_cases g0 : a = 0
                · subst g0; rw [if_pos rfl, if_pos ⟨rfl, rfl, rfl, rfl⟩]
                · rw [if_neg g0, if_neg (by omega), e16, z_so (by decide)]
                  exact hD.2.2.2.2.1 c (Nat.le_refl _) hc a ha
        have hDn : z_DR c (c + 1) R Z := hD.add hc (by omega) hs8 hkd (d3 hs8) (fun j hj => a1.2.2.2 (p + j) (by omega)) q1 q2 q3 q4 q5 q6 q7 (fun s r i q => qf 4 s r i (by omega)) Zg (fun i q => Zm _ _ _ _ (by omega)) ((l5 5 819253 0 14 (by omega)).trans t21)
        have em : (let M16 : ux_M := ux_set m 5 819253 0 14 ((188 : Int32) + (56 : Int32) * (m 5 877025 0 (1 : Int32).toNatClampNeg)); let M17 : ux_M := ux_set M16 5 877025 0 ((M16 5 819253 0 14) + (0 : Int32)).toNatClampNeg kd; let M21 : ux_M := ux_set M17 5 877025 0 ((M17 5 819253 0 14) + (1 : Int32)).toNatClampNeg ((r_155 M17) - (M17 5 819253 0 10)); m_159_159 ux_fuel (M21 5 819253 0 10) M21) = Z := by
          rw [z_c1, ecn, ixu, ← e16]
          show m_159_159 ux_fuel (ux_set (ux_set M16 5 877025 0 ((M16 5 819253 0 14) + (0 : Int32)).toNatClampNeg kd) 5 877025 0 (((ux_set M16 5 877025 0 ((M16 5 819253 0 14) + (0 : Int32)).toNatClampNeg kd) 5 819253 0 14) + (1 : Int32)).toNatClampNeg ((r_155 (ux_set M16 5 877025 0 ((M16 5 819253 0 14) + (0 : Int32)).toNatClampNeg kd)) - ((ux_set M16 5 877025 0 ((M16 5 819253 0 14) + (0 : Int32)).toNatClampNeg kd) 5 819253 0 10)) 5 819253 0 10) _ = Z
          rw [t16, i0, ← e17, t17, i1, ks, ← e21, b21]; exact eZ.symm
        have er : (let M16 : ux_M := ux_set m 5 819253 0 14 ((188 : Int32) + (56 : Int32) * (m 5 877025 0 (1 : Int32).toNatClampNeg)); let M17 : ux_M := ux_set M16 5 877025 0 ((M16 5 819253 0 14) + (0 : Int32)).toNatClampNeg kd; let M21 : ux_M := ux_set M17 5 877025 0 ((M17 5 819253 0 14) + (1 : Int32)).toNatClampNeg ((r_155 M17) - (M17 5 819253 0 10)); r_159_159 ux_fuel (M21 5 819253 0 10) M21) = 1 := by
          rw [z_c1, ecn, ixu, ← e16]
          show r_159_159 ux_fuel (ux_set (ux_set M16 5 877025 0 ((M16 5 819253 0 14) + (0 : Int32)).toNatClampNeg kd) 5 877025 0 (((ux_set M16 5 877025 0 ((M16 5 819253 0 14) + (0 : Int32)).toNatClampNeg kd) 5 819253 0 14) + (1 : Int32)).toNatClampNeg ((r_155 (ux_set M16 5 877025 0 ((M16 5 819253 0 14) + (0 : Int32)).toNatClampNeg kd)) - ((ux_set M16 5 877025 0 ((M16 5 819253 0 14) + (0 : Int32)).toNatClampNeg kd) 5 819253 0 10)) 5 819253 0 10) _ = 1
          rw [t16, i0, ← e17, t17, i1, ks, ← e21, b21]; exact l2
        have c2' : C 4 671757 0 5 - nI p = nI sz := by rw [← c1]; exact c2
        rw [d1, d2, if_pos rfl, if_pos rfl, if_pos rfl, if_pos rfl, a3, c2', r2, r3, o2, em, er]
        refine ⟨⟨fun _ => ⟨fun z => absurd z l8, fun _ => ⟨p12, fun z => absurd rfl z, fun _ => ⟨a1.2.1, c3, fun _ => ⟨a1.2.1, r1, o1⟩, fun z => absurd rfl z⟩⟩⟩, fun z => absurd px z⟩, ⟨g1, fun z => absurd z l8, fun _ => ⟨fun z => absurd rfl z, fun _ => ⟨c5, fun _ => ⟨z_v1, ?_⟩, fun z => absurd rfl z⟩⟩⟩, .inl ⟨rfl, rfl, p2, z_xe T N p, by omega, ?_, ?_, ?_⟩⟩
        · rw [z_c1, ecn, ixu, ← e16]
          intro M16' e; subst e
          rw [t16, i0, ← e17]
          refine ⟨v0, fun M17' e => ?_⟩
          subst e
          rw [t17, i1, ks, ← e21]
          refine ⟨k1, v1, fun M21' e => ?_⟩
          subst e
          rw [b21]; exact l1
        · exact ⟨R4.rm, ⟨a2.1, (Zm 5 819253 0 8 (by omega)).trans a2.2.1, fun i hi => (Zm 5 940289 0 i (by omega)).trans (a2.2.2 i hi)⟩, z_rm_4, z_rm_5, z_rm_3, by unfold z_rm; rw [z_si (by decide), z_si (by decide), z_si (by decide)]; exact (hR _ _ _ (by omega)).trans a6, (Zm _ _ _ _ (by omega)).trans a7, xl, l4.trans (by rw [y1]), hp2⟩
        · exact hDn.cg (fun s r i _ _ => z_rm_o (by omega)) (fun _ => rfl) rfl
        · rw [Zg 0 (by omega)]; unfold z_nv; rw [if_neg (by decide), if_neg (by omega), if_neg (by omega), if_pos rfl]
      · have nv := z_nneg (v := v) (by omega)
        rw [d2, d3, if_neg nv, if_neg nv, if_neg nv, if_neg nv, f2, f3]
        exact ⟨⟨fun _ => ⟨fun z => absurd z l8, fun _ => ⟨p12, fun z => absurd rfl z, fun _ => ⟨a1.2.1, c3, fun z => absurd z nv, fun _ => trivial⟩⟩⟩, fun z => absurd px z⟩, ⟨g1, fun z => absurd z l8, fun _ => ⟨fun z => absurd rfl z, fun _ => ⟨c5, fun z => absurd z nv, fun _ => ⟨f1, .inl rfl⟩⟩⟩⟩, .inr ⟨rfl, rfl, no⟩⟩
      · omega
    · rw [if_neg r12, if_neg r12, if_neg h10, if_neg h10, f2, f3]
      exact ⟨⟨fun _ => ⟨fun z => absurd z l8, fun _ => ⟨p12, fun _ => trivial, fun z => absurd z r12⟩⟩, fun z => absurd px z⟩, ⟨g1, fun z => absurd z l8, fun _ => ⟨fun _ => ⟨f1, .inl rfl⟩, fun z => absurd z h10⟩⟩, .inr ⟨rfl, rfl, z_er_NO (by decide)⟩⟩
end ZLF
