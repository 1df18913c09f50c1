/-! LOAD, 18: readSocket -/
section ZLI
variable {C C' R M0 m m' : ux_M} {T : Nat → Int32} {N i j p p' q n u v w c d e L k s r sz : Nat} {V b x kd z0 rc rr : Int32}
theorem z_socket (hr : r_159 1 M0 = 1) (hp159 : p_159 1 M0) (em : m = m_159 1 M0) (h : z_RS T N p i C m) (hD : z_DR c (c + 1) C m) (hk : z_gf m 0 c = 1) : p_26 (nI c) C ∧ p_169 M0 ∧ z_sto T N p (r_169 M0) (m_26 (nI c) C) (m_169 M0) := by
  have h10 : ¬ (1 : Int32) = 0 := by decide
  have r10 : ¬ r_159 1 M0 = 0 := by rw [hr]; decide
  have hc : c + 1 ≤ 16 := hD.1.2.2.1
  obtain ⟨s1, _, s3, hB1⟩ := h.see
  have hD1 : z_DR c (c + 1) C (m_152 m) := by rw [s3]; exact hD.see
  have hk1 : z_gf (m_152 m) 0 c = 1 := by rw [s3]; exact (z_gf_cg (fun i => z_pnt_o (by decide)) 0 c).trans hk
  obtain ⟨m1, em1⟩ : ∃ y, y = m_152 m := ⟨_, rfl⟩
  rw [← em1] at hB1 hD1 hk1
  have hle := hB1.1.le
  obtain ⟨g1, g2⟩ := z_156 (i := p) hB1.1.2.1 (by omega)
  have e1 : C 4 671757 0 1 = 1 := hB1.1.1.2.1
  have e3 : C 4 671757 0 3 = z_xp T N p := hB1.1.2.2.2.2.1
  have e4 : C 4 671757 0 4 = nI p := hB1.1.2.2.1
  have e12 : m1 5 819253 0 12 = 0 := hB1.1.2.2.2.2.2.2.1
  have x1 := (z_xpe (T := T) hle.1).1
  obtain ⟨f1, f2, f3⟩ := z_160 (m := m1) (a := 3) e12
  obtain ⟨k1, k2, k3⟩ := z_160 (m := m1) (a := 1) e12
  rw [hB1.2] at f3 k3
  unfold p_26 m_26 p_169 r_169 m_169
  rw [if_neg r10, if_neg r10, ← em, ← em1, hB1.2]
  by_cases q : z_xL T N p = true
  · have n0 : ¬ r_156 (nI p) m1 = 0 := by rw [g2, if_pos q]; decide
    have px := x1.mpr q
    obtain ⟨sz, hsz⟩ : ∃ sz, sz = z_xn (z_xL T N) N p - p := ⟨_, rfl⟩
    obtain ⟨c1, c2, c3, c4, c5, c6⟩ := z_named hB1 hD1 q hsz
    have p18 : p_18 C := by unfold p_18; rw [c2, c1]; exact ⟨fun _ => ⟨e1, c3⟩, fun _ => trivial⟩
    have u18 : (r_15 4 (nI p) (nI sz) C = -1 → r_18 C = -1 ∧ m_18 C = z_er C 3 (nI p)) ∧ (¬ r_15 4 (nI p) (nI sz) C = -1 → r_18 C = r_15 4 (nI p) (nI sz) C ∧ m_18 C = C) := by
      unfold r_18 m_18
      rw [e3, if_pos px, if_pos px, c2, c1, c4]
      refine ⟨fun z => ?_, fun z => ?_⟩
      · rw [z, if_pos rfl, if_pos rfl]
        refine ⟨rfl, ?_⟩
        show z_er C 3 (C 4 671757 0 4) = _
        rw [c1]
      · rw [if_neg z, if_neg z]; exact ⟨rfl, rfl⟩
    rw [if_neg n0, if_neg n0]
    rcases c6 with ⟨d1, d2, _⟩ | ⟨v, d1, d2, d3⟩ | ⟨_, d2, d3⟩
    · obtain ⟨u1, u2⟩ := u18.1 d1
      rw [u1, u2, if_pos rfl, d2, if_pos rfl, if_pos rfl, f2, f3]
      exact ⟨⟨p18, fun z => absurd rfl z, fun _ => trivial⟩, ⟨hp159, fun _ => ⟨s1, g1, fun _ => ⟨c5, fun _ => ⟨f1, .inl rfl⟩, fun z => absurd rfl z⟩, fun z => absurd z n0⟩, fun z => absurd z r10⟩, .inr ⟨rfl, z_er_NO (by decide)⟩⟩
    · have nv := z_nneg (v := v) (by omega)
      obtain ⟨u1, u2⟩ := u18.2 (by rw [d2]; exact nv)
      rw [d2] at u1
      have kv : C 4 360577 0 v = z_gf m1 0 v := (hD1.2.1 v (by omega)).1
      have ix0 : ((188 : Int32) + (56 : Int32) * nI v + (0 : Int32)) = nI (188 + 56 * v + 0) := by rw [z_ixu]; exact z_add _ 0
      have v0 : vp_in (nI (188 + 56 * v + 0)) 1084 := vp_in_nI (by omega) (by omega)
      have gv : m1 5 877025 0 (188 + 56 * v + 0) = z_gf m1 0 v := rfl
      rw [u1, u2, if_neg nv, d3, if_neg nv, if_neg nv, z_cl (show v < 16 by omega), kv, ix0, z_cls (show 188 + 56 * v + 0 < 2000000000 by omega), gv]
      by_cases qk : z_gf m1 0 v = 0
      · have e14 : m1 5 819253 0 14 = nI (188 + 56 * c) := (hD1.2.2.2.2.2.1 rfl).1
        have i20 : m1 5 819253 0 14 + (20 : Int32) = nI (188 + 56 * c + 20) := by rw [e14]; exact z_add _ 20
        have v20 : vp_in (nI (188 + 56 * c + 20)) 1084 := vp_in_nI (by omega) (by omega)
        obtain ⟨M20, e20⟩ : ∃ M, M = ux_set m1 5 877025 0 (188 + 56 * c + 20) (nI v) := ⟨_, rfl⟩
        have hB2 : z_RB T N p C M20 := hB1.cg (fun _ _ _ _ => rfl) (fun s r i q => by rw [e20]; exact z_so q)
        obtain ⟨p2, hp2⟩ : ∃ p', p' = z_xn (z_xB T N) N (z_xe T N p) := ⟨_, rfl⟩
        obtain ⟨o1, o2, o3, o4, o5, o6, o7, _⟩ := hB2.pass q hp2
        have i21 : m_161 M20 5 819253 0 14 + (21 : Int32) = nI (188 + 56 * c + 21) := by
          rw [o5, z_pnt_i (by omega), e20, z_so (by decide), e14]; exact z_add _ 21
        have v21 : vp_in (nI (188 + 56 * c + 21)) 1084 := vp_in_nI (by omega) (by omega)
        obtain ⟨p3, hp3⟩ : ∃ p', p' = z_xn (z_xB T N) N (z_xe T N p2) := ⟨_, rfl⟩
        obtain ⟨t1, t2, t3⟩ := z_num (lo := 1) (hi := 50) o7 v21 (by omega) (by omega) hp3
        have t1' : p_25 1 50 (m_10 C) := t1
        have t2' : p_166 (nI (188 + 56 * c + 21)) 1 50 (m_161 M20) := t2
        have n161 : ¬ r_161 M20 = 0 := by rw [o4]; decide
        rw [if_pos qk, if_pos qk, if_pos qk, i20, z_cls (show 188 + 56 * c + 20 < 2000000000 by omega), ← e20, if_neg n161, if_neg n161, i21]
        have p169 : p_159 1 M0 ∧ (¬ r_159 1 M0 = 0 → p_152 m ∧ p_156 (nI p) m1 ∧ (¬ r_156 (nI p) m1 = 0 → p_162 m1 ∧ (nI v = -1 → p_160 3 m1 ∧ (r_160 3 m1 = 0 ∨ r_160 3 m1 = 1)) ∧ (¬ nI v = -1 → vp_in (nI (188 + 56 * v + 0)) 1084 ∧ (z_gf m1 0 v = 0 → vp_in (nI (188 + 56 * c + 20)) 1084 ∧ ∀ M : ux_M, M = M20 → p_161 M ∧ (r_161 M = 0 → True) ∧ (¬ r_161 M = 0 → p_166 (m_161 M 5 819253 0 14 + 21) 1 50 (m_161 M) ∧ (¬ r_166 (m_161 M 5 819253 0 14 + 21) 1 50 (m_161 M) = 0 → vp_in 1 1084 ∧ vp_in 1 1084) ∧ (r_166 (m_161 M 5 819253 0 14 + 21) 1 50 (m_161 M) = 0 → True))) ∧ (¬ z_gf m1 0 v = 0 → p_160 3 m1 ∧ (r_160 3 m1 = 0 ∨ r_160 3 m1 = 1)))) ∧ (r_156 (nI p) m1 = 0 → p_160 1 m1 ∧ (r_160 1 m1 = 0 ∨ r_160 1 m1 = 1))) ∧ (r_159 1 M0 = 0 → True) :=
          ⟨hp159, fun _ => ⟨s1, g1, fun _ => ⟨c5, fun z => absurd z nv, fun _ => ⟨v0, fun _ => ⟨v20, fun M e => by subst e; exact ⟨o3, fun _ => trivial, fun _ => ⟨by rw [i21]; exact t2', fun _ => ⟨z_v1, z_v1⟩, fun _ => trivial⟩⟩⟩, fun z => absurd qk z⟩⟩, fun z => absurd z n0⟩, fun z => absurd z r10⟩
        refine ⟨⟨p18, fun _ => ⟨z_i16 (by omega), fun _ => ⟨o1, t1', fun _ => trivial, fun _ => ⟨z_i16 (by omega), fun _ _ => z_i16 (by omega)⟩⟩, fun z => absurd qk z⟩, fun z => absurd z nv⟩, p169, ?_⟩
        rcases t3 with ⟨W, w1, w2, w3, y1, y2, y3, y4⟩ | ⟨y1, y2, y3⟩
        · have nW := z_nneg (v := W) (by omega)
          have y1' : r_25 1 50 (m_10 C) = nI W := y1
          have y2' : m_25 1 50 (m_10 C) = _ := y2
          have y3' : r_166 (nI (188 + 56 * c + 21)) 1 50 (m_161 M20) = 1 := y3
          have y4' : m_166 (nI (188 + 56 * c + 21)) 1 50 (m_161 M20) = _ := y4
          rw [y1', if_neg nW, y2', y3', if_neg h10, if_neg h10, y4', z_cls (show 188 + 56 * c + 21 < 2000000000 by omega), z_c1, o2, o5]
          obtain ⟨_, _, l3, _, _⟩ := o7.go hp3
          refine .inl ⟨rfl, p3, z_xe T N p2, c + 1, by omega, ?_, ?_⟩
          · have on := o7.on (b := nI p2) l3 hp3
            rw [o2, o5] at on
            exact on.cg (fun s r i q => by
              show ux_set (ux_set _ 4 426113 0 _ _) 4 442497 0 _ _ 4 s r i = _
              rw [z_so (by omega), z_so (by omega)]) (fun s r i q => by
              show ux_set (ux_set _ 5 877025 0 _ _) 5 877025 0 _ _ 5 s r i = _
              rw [z_so q, z_so q])
          · refine hD1.fins (s := v) (V := nI W) hk1 d1 qk ?_ ?_ (fun s r i h1 h2 h3 => ?_) (fun i => ?_)
            · show ux_set (ux_set _ 4 426113 0 _ _) 4 442497 0 _ _ 4 426113 0 c = _
              rw [z_so (by decide), z_cl (show c < 16 by omega)]; exact z_ss
            · show ux_set (ux_set _ 4 426113 0 _ _) 4 442497 0 _ _ 4 442497 0 c = _
              rw [z_cl (show c < 16 by omega)]; exact z_ss
            · show ux_set (ux_set _ 4 426113 0 _ _) 4 442497 0 _ _ 4 s r i = _
              rw [z_cl (show c < 16 by omega), z_set, if_neg (by omega), z_set, if_neg (by omega), z_rm_o (by omega), z_rm_o (by omega)]
            · show ux_set (ux_set _ 5 877025 0 _ _) 5 877025 0 1 _ 5 877025 0 i = _
              rw [z_set]
              by_cases i1 : i = 1
              · subst i1
                rw [if_pos ⟨rfl, rfl, rfl, rfl⟩, if_pos rfl, z_si (by omega), z_pnt_o (by decide), z_pnt_o (by decide), e20, z_si (by omega), hD1.1.2.2.2.2.1, z_nx]
              · rw [if_neg (by omega), if_neg i1, z_set]
                by_cases i2 : i = 188 + 56 * c + 21
                · subst i2
                  rw [if_pos ⟨rfl, rfl, rfl, rfl⟩, if_neg (by omega), if_pos rfl]
                · rw [if_neg (by omega), z_pnt_o (by decide), z_pnt_o (by decide), e20, z_set]
                  by_cases i3 : i = 188 + 56 * c + 20
                  · subst i3
                    rw [if_pos ⟨rfl, rfl, rfl, rfl⟩, if_pos rfl]
                  · rw [if_neg (by omega), if_neg i3, if_neg i2]
        · have y1' : r_25 1 50 (m_10 C) = -1 := y1
          have y2' : r_166 (nI (188 + 56 * c + 21)) 1 50 (m_161 M20) = 0 := y2
          rw [y1', if_pos rfl, y2', if_pos rfl, if_pos rfl]
          exact .inr ⟨rfl, y3⟩
      · rw [if_neg qk, if_neg qk, if_neg qk, f2, f3]
        refine ⟨⟨p18, fun _ => ⟨z_i16 (by omega), fun z => absurd z qk, fun _ => trivial⟩, fun z => absurd z nv⟩, ⟨hp159, fun _ => ⟨s1, g1, fun _ => ⟨c5, fun z => absurd z nv, fun _ => ⟨v0, fun z => absurd z qk, fun _ => ⟨f1, .inl rfl⟩⟩⟩, fun z => absurd z n0⟩, fun z => absurd z r10⟩, .inr ⟨rfl, ?_⟩⟩
        show z_NO (z_er C 3 (C 4 671757 0 4)) _
        rw [e4]; exact z_er_NO (by decide)
    · have nv := z_nneg (v := c) (by omega)
      obtain ⟨u1, u2⟩ := u18.2 (by rw [d2]; exact nv)
      rw [d2] at u1
      have kv : C 4 360577 0 c = z_gf m1 0 c := (hD1.2.1 c (by omega)).1
      have n1 : ¬ (1 : Int32) = 0 := by decide
      rw [u1, u2, if_neg nv, d3, if_pos rfl, if_pos rfl, z_cl (show c < 16 by omega), kv, hk1, if_neg n1, f2, f3]
      refine ⟨⟨p18, fun _ => ⟨z_i16 (by omega), fun z => absurd z n1, fun _ => trivial⟩, fun z => absurd z nv⟩, ⟨hp159, fun _ => ⟨s1, g1, fun _ => ⟨c5, fun _ => ⟨f1, .inl rfl⟩, fun z => absurd rfl z⟩, fun z => absurd z n0⟩, fun z => absurd z r10⟩, .inr ⟨rfl, ?_⟩⟩
      show z_NO (z_er C 3 (C 4 671757 0 4)) _
      rw [e4]; exact z_er_NO (by decide)
  · have n0 : r_156 (nI p) m1 = 0 := by rw [g2, if_neg q]
    have n1 : ¬ z_xp T N p = 1 := fun z => q (x1.mp z)
    have u18 : p_18 C ∧ r_18 C = -1 ∧ m_18 C = z_er C 1 (nI p) := by
      unfold p_18 r_18 m_18
      rw [e3, if_neg n1, if_neg n1]
      refine ⟨⟨fun z => absurd z n1, fun _ => trivial⟩, rfl, ?_⟩
      show z_er C 1 (C 4 671757 0 4) = _
      rw [e4]
    obtain ⟨u0, u1, u2⟩ := u18
    rw [u1, u2, if_pos rfl, n0, if_pos rfl, if_pos rfl, k2, k3]
    exact ⟨⟨u0, fun z => absurd rfl z, fun _ => trivial⟩, ⟨hp159, fun _ => ⟨s1, g1, fun z => absurd rfl z, fun _ => ⟨k1, .inl rfl⟩⟩, fun z => absurd z r10⟩, .inr ⟨rfl, z_er_NO (by decide)⟩⟩
end ZLI
