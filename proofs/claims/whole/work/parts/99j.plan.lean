/-! PLANS: plan, planDepth, criticalTime -/
section ZX2
variable {k c t B B' b u n s : Nat} {M M' M1 M2 C m m' : ux_M} {x y z v j : Int32}
theorem z_275i (hc : c ≤ 16) (hm : m 5 844257 0 1 = nI c) (hu : u < c) (hy : z_rg y 1 3) : p_275 (nI u) y m ∧ r_275 (nI u) y m = 0 ∧ m_275 (nI u) y m = z_th m 0 := by
  obtain ⟨e1, e2, e3⟩ := z_235i hc hm hu
  have g := (z_i64g y 1 3 (L := Int64.ofNat 3) (by decide)).mpr hy
  obtain ⟨a1, a2, a3⟩ := z_176a (M := z_th m 0) z_th6 2
  unfold p_275 r_275 m_275 p_275_26 r_275_26 m_275_26
  rw [e3, if_pos e2, if_pos g, if_pos e2, if_pos g, a2, if_pos rfl, if_pos rfl, a3]
  exact ⟨⟨e1, fun q => absurd e2 q, fun _ => ⟨fun _ => a1, fun q => absurd g q⟩⟩, rfl, rfl⟩
theorem z_275b (hc : c ≤ 16) (hm : m 5 844257 0 1 = nI c) (hu : u < c) (hy : ¬ z_rg y 1 3) : p_275 (nI u) y m ∧ r_275 (nI u) y m = 1 ∧ m_275 (nI u) y m = z_th m 2 := by
  obtain ⟨e1, e2, e3⟩ := z_235i hc hm hu
  have g := fun q => hy ((z_i64g y 1 3 (L := Int64.ofNat 3) (by decide)).mp q)
  obtain ⟨a1, a2, a3⟩ := z_176b (M := z_th m 0) z_th6 (b := 2) (by decide)
  rw [z_thth] at a3
  have a0 : ¬ (1 : Int32) = 0 := by decide
  unfold p_275 r_275 m_275 p_275_26 r_275_26 m_275_26
  rw [e3, if_pos e2, if_neg g, if_pos e2, if_neg g, a2, if_neg a0, if_neg a0, a3]
  exact ⟨⟨e1, fun q => absurd e2 q, fun _ => ⟨fun q => absurd q g, fun _ => a1⟩⟩, rfl, rfl⟩
theorem z_275o (h : z_Q n M) (hx : ¬ z_iu M x) : p_275 x y M ∧ r_275 x y M = 1 ∧ m_275 x y M = z_th M 1 := by
  obtain ⟨e1, e2, e3⟩ := h.o hx
  have e0 : ¬ r_235 x M = 0 := by rw [e2]; decide
  unfold p_275 r_275 m_275
  rw [if_neg e0, if_neg e0]
  exact ⟨⟨e1, fun _ => trivial, fun q => absurd q e0⟩, rfl, e3⟩
theorem z_rg13 (hy : z_rg y 1 3) : y = 1 ∨ y = 2 ∨ y = 3 := by
  obtain ⟨h1, h2⟩ := hy
  have n0 : ¬ y < 0 := fun z => h1 (by
    rw [Int32.lt_iff_toInt_lt] at z ⊢
    have e0 : (0 : Int32).toInt = 0 := by decide
    have e1 : (1 : Int32).toInt = 1 := by decide
    omega)
  obtain ⟨j, hj, rfl⟩ := nI_of2 (n := 3) (M := 3) (x := y) (by decide) n0 h2
  have : j = 0 ∨ j = 1 ∨ j = 2 ∨ j = 3 := by omega
  rcases this with rfl | rfl | rfl | rfl
  · exact absurd (by decide) h1
  · exact .inl rfl
  · exact .inr (.inl rfl)
  · exact .inr (.inr rfl)
/-- the sets that a plan tells -/
theorem z_103 (hc : c ≤ 16) (hT : z_tr k c C m) (hX : z_xt k c C m) :
    r_103 k 0 C = ((m 5 950305 0 1 ||| m 5 950305 0 2) ||| m 5 950305 0 3) ∧ r_103 k 1 C = m 5 950305 0 1 ∧ r_103 k 2 C = m 5 950305 0 2 ∧ r_103 k 3 C = m 5 950305 0 3
    ∧ r_103 k 4 C = ((m 5 950305 0 1 &&& m 5 966689 0 1) ||| (m 5 950305 0 2 &&& m 5 966689 0 2)) ||| (m 5 950305 0 3 &&& m 5 966689 0 3) := by
  have hi : ∀ w, w < 32 → ¬ w < c → bt (m 5 950305 0 1) w = false ∧ bt (m 5 950305 0 2) w = false ∧ bt (m 5 950305 0 3) w = false := fun w hw q => (hT w hw).2.2.2.2.2.2 (by omega)
  unfold r_103
  refine ⟨?_, ?_, ?_, ?_, ?_⟩
  · rw [if_pos rfl]
    refine b_ext (fun w hw => ?_)
    obtain ⟨s1, s2, s3, s4, s5, s6, s7⟩ := hT w hw
    rw [b_or, b_or, b_or, s1, s3]
    by_cases q : w < c
    · simp only [q, decide_true, Bool.true_and]
      cases bt (m 5 950305 0 1) w <;> cases bt (m 5 950305 0 2) w <;> cases bt (m 5 950305 0 3) w <;> rfl
    · obtain ⟨a, b, d⟩ := hi w hw q
      rw [a, b, d]; simp
  · rw [if_neg (show ¬ (1 : Int32) = 0 by decide), if_pos rfl]
    refine b_ext (fun w hw => ?_)
    obtain ⟨s1, s2, s3, s4, s5, s6, s7⟩ := hT w hw
    rw [b_and, z_not _ hw, s1, s2]
    by_cases q : w < c
    · simp only [q, decide_true, Bool.true_and]
      cases e1 : bt (m 5 950305 0 1) w <;> cases e3 : bt (m 5 950305 0 3) w <;> simp [e1, e3] at s5 ⊢
    · obtain ⟨a, b, d⟩ := hi w hw q
      rw [a, d]; simp
  · rw [if_neg (show ¬ (2 : Int32) = 0 by decide), if_neg (show ¬ (2 : Int32) = 1 by decide), if_pos rfl]
    refine b_ext (fun w hw => ?_)
    obtain ⟨s1, s2, s3, s4, s5, s6, s7⟩ := hT w hw
    rw [s3]
    by_cases q : w < c
    · simp [q]
    · rw [(hi w hw q).2.1]; simp
  · rw [if_neg (show ¬ (3 : Int32) = 0 by decide), if_neg (show ¬ (3 : Int32) = 1 by decide), if_neg (show ¬ (3 : Int32) = 2 by decide), if_pos rfl]
    refine b_ext (fun w hw => ?_)
    obtain ⟨s1, s2, s3, s4, s5, s6, s7⟩ := hT w hw
    rw [b_and, s1, s2]
    by_cases q : w < c
    · simp only [q, decide_true, Bool.true_and]
      cases bt (m 5 950305 0 1) w <;> cases bt (m 5 950305 0 3) w <;> rfl
    · rw [(hi w hw q).2.2, (hi w hw q).1]; simp
  · rw [if_neg (show ¬ (4 : Int32) = 0 by decide), if_neg (show ¬ (4 : Int32) = 1 by decide), if_neg (show ¬ (4 : Int32) = 2 by decide), if_neg (show ¬ (4 : Int32) = 3 by decide)]
    refine b_ext (fun w hw => ?_)
    obtain ⟨s1, s2, s3, s4, s5, s6, s7⟩ := hT w hw
    rw [b_or, b_or, b_or, b_and, b_and, b_and, b_and, b_and]
    by_cases q : w < c
    · obtain ⟨_, _, _, e⟩ := z_ttp hT q hc
      have x1 := hX.1 w q
      unfold z_ess at x1
      rw [s1, s3] at x1 ⊢
      simp only [q, decide_true, Bool.true_and] at x1 ⊢
      cases e1 : bt (m 5 950305 0 1) w <;> cases e2 : bt (m 5 950305 0 2) w <;> cases e3 : bt (m 5 950305 0 3) w <;> simp [e1, e2, e3] at s4 s5 s6 e x1 ⊢
      · rw [e] at x1; exact (x1 (by decide)).symm
      · rw [e] at x1; exact (x1 (by decide)).symm
      · rw [e] at x1; exact (x1 (by decide)).symm
    · obtain ⟨a, b, d⟩ := hi w hw q
      rw [s1, s3, a, b, d]; simp
theorem z_rg04 (hz : z_rg z 0 4) : z = 0 ∨ z = 1 ∨ z = 2 ∨ z = 3 ∨ z = 4 := by
  obtain ⟨j, hj, rfl⟩ := nI_of2 (n := 4) (M := 4) (by decide) hz.1 hz.2
  have : j = 0 ∨ j = 1 ∨ j = 2 ∨ j = 3 ∨ j = 4 := by omega
  rcases this with rfl | rfl | rfl | rfl | rfl
  · exact .inl rfl
  · exact .inr (.inl rfl)
  · exact .inr (.inr (.inl rfl))
  · exact .inr (.inr (.inr (.inl rfl)))
  · exact .inr (.inr (.inr (.inr rfl)))
/-- plan -/
theorem z_f_102 (h : z_Q n M) (hx : z_iu M x) (hy : z_rg y 1 3) (hz : z_rg z 0 4) : z_op n M (p_102 x y z) (r_102 x y z) (m_102 x y z) (p_274 x y z) (r_274 x y z) (m_274 x y z) := by
  obtain ⟨c, t, B, u, ht, hB, hR, hs, hc, hu, h16, rfl⟩ := h.un hx
  have hj := z_rg13 hy
  have mc : m_102 (nI u) y z M = m_65 0 (nI u) y M := by unfold m_102; rw [ite_self]
  obtain ⟨c1, _, _, _, cf, _⟩ := z_TX2_t hR hu y hj
  have row : ∀ i, m_65 0 (nI u) y M 5 844257 0 i = M 5 844257 0 i := fun i => cf 5 844257 0 i (by omega)
  have hm : m_65 0 (nI u) y M 5 844257 0 1 = nI c := (row 1).trans hR.1.cn
  obtain ⟨e1, e2, e3⟩ := z_275i hc hm hu hy
  have hR0 : z_R 99 16 0 c t B M (z_th (m_65 0 (nI u) y M) 0) := hR.cg (fun _ _ _ _ => rfl) (fun i => (z_thI i).trans (row i))
  obtain ⟨_, t2, t3, t4, t5, t6, t7⟩ := z_TX2_t hR0 hu y hj
  have g := (z_i64g z 0 4 (L := Int64.ofNat 4) (by decide)).mpr hz
  obtain ⟨a1, a2, a3⟩ := z_176a (M := z_th (m_65 0 (nI u) y M) 0) z_th6 2
  have mr : m_274 (nI u) y z (m_65 0 (nI u) y M) = m_197 (nI u) y (z_th (m_65 0 (nI u) y M) 0) := by
    unfold m_274 m_274_27; rw [if_pos e2, if_pos g, e3, if_pos a2, a3, ite_self, ite_self, ite_self]
  refine ⟨?_, ?_, ?_, ?_, ?_⟩
  · unfold p_102 p_103; exact ⟨z_p93 hx, z_p96 hy, z_p96 hz, c1, fun _ => trivial, fun _ => trivial⟩
  · rw [mc]; unfold p_274 p_274_27; rw [e3, a2, a3]
    refine ⟨e1, fun q => absurd e2 q, fun _ => ⟨fun _ => ⟨a1, fun _ => ⟨t2, fun _ => ⟨fun _ => ⟨fun _ => ⟨z_k1, z_k1, z_k2, z_k2, z_k3, z_k3⟩, fun q => ?_⟩, fun _ => ⟨z_k1, z_k2, z_k3⟩⟩, fun _ => trivial⟩, fun q => absurd rfl q⟩, fun q => absurd g q⟩⟩
    rcases z_rg04 hz with q1 | q1 | q1 | q1 | q1 <;> subst q1
    · exact z_k0
    · exact z_k1
    · exact z_k2
    · exact z_k3
    · exact absurd (by decide) q
  · rw [mc]; unfold r_102 r_274 r_274_27; rw [if_pos e2, if_pos g, e3, if_pos a2, a3, t3]
    by_cases q : r_197 (nI u) y (z_th (m_65 0 (nI u) y M) 0) = 0
    · rw [if_pos q, if_pos q]
      obtain ⟨d0, d1, d2, d3, d4⟩ := z_103 hc (t7 q).1 (t7 q).2
      rcases z_rg04 hz with q1 | q1 | q1 | q1 | q1 <;> subst q1
      · rw [d0, if_pos rfl, z_c1, z_c2, z_c3]
      · rw [d1, if_neg (by decide), if_neg (by decide), z_c1]
      · rw [d2, if_neg (by decide), if_neg (by decide), z_c2]
      · rw [d3, if_neg (by decide), if_neg (by decide), z_c3]
      · rw [d4, if_neg (by decide), if_pos (by decide), z_c1, z_c2, z_c3]
    · rw [if_neg q, if_neg q]
  · rw [mc, mr, t6 5 819253 0 6 (by omega)]; exact z_th6
  · rw [mc, mr]; exact h.fr (by omega) (((z_fT.fC cf).tr (.th 0)).tr (.fM t6))
theorem z_g_274 (h : z_Q n M) (hx : ¬ z_iu M x) : z_thr n M (p_274 x y z) (m_274 x y z) 1 := by
  obtain ⟨e1, e2, e3⟩ := z_275o (y := y) h hx
  have e0 : ¬ r_275 x y M = 0 := by rw [e2]; decide
  refine .th h ?_ ?_
  · unfold p_274; exact ⟨e1, fun _ => trivial, fun q => absurd q e0⟩
  · unfold m_274; rw [if_neg e0, e3]
theorem z_g_274b (h : z_Q n M) (hx : z_iu M x) (hy : ¬ z_rg y 1 3) : z_thr n M (p_274 x y z) (m_274 x y z) 2 := by
  obtain ⟨c, t, B, u, ht, hB, hR, hs, hc, hu, h16, rfl⟩ := h.un hx
  obtain ⟨e1, e2, e3⟩ := z_275b hc hR.1.cn hu hy
  have e0 : ¬ r_275 (nI u) y M = 0 := by rw [e2]; decide
  refine .th h ?_ ?_
  · unfold p_274; exact ⟨e1, fun _ => trivial, fun q => absurd q e0⟩
  · unfold m_274; rw [if_neg e0, e3]
theorem z_g_274c (h : z_Q n M) (hx : z_iu M x) (hy : z_rg y 1 3) (hz : ¬ z_rg z 0 4) : z_thr n M (p_274 x y z) (m_274 x y z) 2 := by
  obtain ⟨c, t, B, u, ht, hB, hR, hs, hc, hu, h16, rfl⟩ := h.un hx
  obtain ⟨e1, e2, e3⟩ := z_275i hc hR.1.cn hu hy
  have g := fun q => hz ((z_i64g z 0 4 (L := Int64.ofNat 4) (by decide)).mp q)
  obtain ⟨a1, a2, a3⟩ := z_176b (M := z_th M 0) z_th6 (b := 2) (by decide)
  rw [z_thth] at a3
  have a0 : ¬ r_176 1 2 (z_th M 0) = 0 := by rw [a2]; decide
  refine .th h ?_ ?_
  · unfold p_274 p_274_27; rw [e3]; exact ⟨e1, fun q => absurd e2 q, fun _ => ⟨fun q => absurd q g, fun _ => ⟨a1, fun q => absurd q a0, fun _ => trivial⟩⟩⟩
  · unfold m_274 m_274_27; rw [if_pos e2, if_neg g, e3, if_neg a0, a3]
/-- planDepth -/
theorem z_f_104 (h : z_Q n M) (hx : z_iu M x) (hy : z_rg y 1 3) : z_op n M (p_104 x y) (r_104 x y) (m_104 x y) (p_277 x y) (r_277 x y) (m_277 x y) := by
  obtain ⟨c, t, B, u, ht, hB, hR, hs, hc, hu, h16, rfl⟩ := h.un hx
  have hj := z_rg13 hy
  obtain ⟨c1, c2, c3, c4, cf, c6, c7⟩ := z_TX2_t hR hu y hj
  have dp := fun q => z_depth (show 1 ≤ c by omega) (hR.fr cf c6) (c7 q).1 (c7 q).2
  have fM1 : z_fT M (m_104 (nI u) y M) := by
    unfold m_104
    by_cases q : r_65 0 (nI u) y M = 0
    · rw [if_pos q]
      obtain ⟨_, _, _, ⟨W, T1, e⟩, _⟩ := dp (c3.symm.trans q)
      rw [e]; exact ((z_fT.fC cf).tr (.t0 (.inr (.inl rfl)))).tr (.t0 (.inr (.inr rfl)))
    · rw [if_neg q]; exact z_fT.fC cf
  have row : ∀ i, m_104 (nI u) y M 5 844257 0 i = M 5 844257 0 i := fun i => fM1 5 844257 0 i (by omega)
  have hm : m_104 (nI u) y M 5 844257 0 1 = nI c := (row 1).trans hR.1.cn
  obtain ⟨e1, e2, e3⟩ := z_275i hc hm hu hy
  have hR0 : z_R 99 16 0 c t B M (z_th (m_104 (nI u) y M) 0) := hR.cg (fun _ _ _ _ => rfl) (fun i => (z_thI i).trans (row i))
  obtain ⟨_, t2, t3, t4, t5, t6, t7⟩ := z_TX2_t hR0 hu y hj
  have dp2 := fun q => z_depth (show 1 ≤ c by omega) (hR0.fr t5 t6) (t7 q).1 (t7 q).2
  have fM2 : z_fT (z_th (m_104 (nI u) y M) 0) (m_277 (nI u) y (m_104 (nI u) y M)) ∧ m_277 (nI u) y (m_104 (nI u) y M) 5 819253 0 6 = 0 := by
    unfold m_277; rw [if_pos e2, e3]
    by_cases q : r_197 (nI u) y (z_th (m_104 (nI u) y M) 0) = 0
    · rw [if_pos q]
      obtain ⟨_, _, _, _, ⟨T2, e⟩⟩ := dp2 q
      rw [e]
      exact ⟨(z_fT.fM t6).tr (.t5 (.inl rfl)), by rw [z_tt_o (by decide), t6 5 819253 0 6 (by omega)]; exact z_th6⟩
    · rw [if_neg q]; exact ⟨.fM t6, by rw [t6 5 819253 0 6 (by omega)]; exact z_th6⟩
  refine ⟨?_, ?_, ?_, fM2.2, h.fr (by omega) ((fM1.tr (.th 0)).tr fM2.1)⟩
  · unfold p_104; exact ⟨z_p93 hx, z_p96 hy, c1, fun q => (dp (c3.symm.trans q)).1, fun _ => trivial⟩
  · unfold p_277; rw [e3]; exact ⟨e1, fun _ => ⟨t2, fun q => (dp2 q).2.1, fun _ => trivial⟩, fun _ => trivial⟩
  · unfold r_104 r_277; rw [if_pos e2, e3, t3]
    by_cases q : r_197 (nI u) y (z_th (m_104 (nI u) y M) 0) = 0
    · rw [if_pos q, if_pos q]; exact (dp2 q).2.2.1
    · rw [if_neg q, if_neg q]
theorem z_g_277 (h : z_Q n M) (hx : ¬ z_iu M x) : z_thr n M (p_277 x y) (m_277 x y) 1 := by
  obtain ⟨e1, e2, e3⟩ := z_275o (y := y) h hx
  have e0 : ¬ r_275 x y M = 0 := by rw [e2]; decide
  refine .th h ?_ ?_
  · unfold p_277; exact ⟨e1, fun q => absurd q e0, fun _ => trivial⟩
  · unfold m_277; rw [if_neg e0, e3]
theorem z_g_277b (h : z_Q n M) (hx : z_iu M x) (hy : ¬ z_rg y 1 3) : z_thr n M (p_277 x y) (m_277 x y) 2 := by
  obtain ⟨c, t, B, u, ht, hB, hR, hs, hc, hu, h16, rfl⟩ := h.un hx
  obtain ⟨e1, e2, e3⟩ := z_275b hc hR.1.cn hu hy
  have e0 : ¬ r_275 (nI u) y M = 0 := by rw [e2]; decide
  refine .th h ?_ ?_
  · unfold p_277; exact ⟨e1, fun q => absurd q e0, fun _ => trivial⟩
  · unfold m_277; rw [if_neg e0, e3]
/-- criticalTime -/
theorem z_f_141 (h : z_Q n M) (hx : z_iu M x) : z_op n M (p_141 x) (r_141 x) (m_141 x) (p_280 x) (r_280 x) (m_280 x) := by
  obtain ⟨c, t, B, u, ht, hB, hR, hs, hc, hu, h16, rfl⟩ := h.un hx
  obtain ⟨c1, c2, c3, c4, cf, c6, c7⟩ := z_TX2_t hR hu 1 (.inl rfl)
  have dp := fun q => z_crit (show 1 ≤ c by omega) (hR.fr cf c6) (c7 q).1 (c7 q).2
  have fM1 : z_fT M (m_141 (nI u) M) := by
    unfold m_141
    by_cases q : r_65 0 (nI u) 1 M = 0
    · rw [if_pos q]
      obtain ⟨_, _, _, ⟨W, T1, e⟩, _⟩ := dp (c3.symm.trans q)
      rw [e]; exact ((z_fT.fC cf).tr (.t0 (.inr (.inl rfl)))).tr (.t0 (.inr (.inr rfl)))
    · rw [if_neg q]; exact z_fT.fC cf
  have row : ∀ i, m_141 (nI u) M 5 844257 0 i = M 5 844257 0 i := fun i => fM1 5 844257 0 i (by omega)
  have hm : m_141 (nI u) M 5 844257 0 1 = nI c := (row 1).trans hR.1.cn
  obtain ⟨e1, e2, e3⟩ := z_235i hc hm hu
  have hR0 : z_R 99 16 0 c t B M (z_th (m_141 (nI u) M) 0) := hR.cg (fun _ _ _ _ => rfl) (fun i => (z_thI i).trans (row i))
  obtain ⟨_, t2, t3, t4, t5, t6, t7⟩ := z_TX2_t hR0 hu 1 (.inl rfl)
  have dp2 := fun q => z_crit (show 1 ≤ c by omega) (hR0.fr t5 t6) (t7 q).1 (t7 q).2
  have fM2 : z_fT (z_th (m_141 (nI u) M) 0) (m_280 (nI u) (m_141 (nI u) M)) ∧ m_280 (nI u) (m_141 (nI u) M) 5 819253 0 6 = 0 := by
    unfold m_280; rw [if_pos e2, e3]
    by_cases q : r_197 (nI u) 1 (z_th (m_141 (nI u) M) 0) = 0
    · rw [if_pos q]
      obtain ⟨_, _, _, _, ⟨T2, e⟩⟩ := dp2 q
      rw [e]
      exact ⟨(z_fT.fM t6).tr (.t5 (.inl rfl)), by rw [z_tt_o (by decide), t6 5 819253 0 6 (by omega)]; exact z_th6⟩
    · rw [if_neg q]; exact ⟨.fM t6, by rw [t6 5 819253 0 6 (by omega)]; exact z_th6⟩
  refine ⟨?_, ?_, ?_, fM2.2, h.fr (by omega) ((fM1.tr (.th 0)).tr fM2.1)⟩
  · unfold p_141; exact ⟨z_p93 hx, c1, fun q => (dp (c3.symm.trans q)).1, fun _ => trivial⟩
  · unfold p_280; rw [e3]; exact ⟨e1, fun _ => ⟨t2, fun q => (dp2 q).2.1, fun _ => trivial⟩, fun _ => trivial⟩
  · unfold r_141 r_280; rw [if_pos e2, e3, t3]
    by_cases q : r_197 (nI u) 1 (z_th (m_141 (nI u) M) 0) = 0
    · rw [if_pos q, if_pos q]; exact (dp2 q).2.2.1
    · rw [if_neg q, if_neg q]
theorem z_g_280 (h : z_Q n M) (hx : ¬ z_iu M x) : z_thr n M (p_280 x) (m_280 x) 1 := by
  obtain ⟨e1, e2, e3⟩ := h.o hx
  have e0 : ¬ r_235 x M = 0 := by rw [e2]; decide
  refine .th h ?_ ?_
  · unfold p_280; exact ⟨e1, fun q => absurd q e0, fun _ => trivial⟩
  · unfold m_280; rw [if_neg e0, e3]
end ZX2
