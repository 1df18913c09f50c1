/-! THE CALLS THAT ONLY TELL, 2 -/
section ZU2
variable {k c t B b u n s : Nat} {M M' m m' : ux_M} {x y v : Int32}
theorem z_257 {i0 : Nat} (h : z_R i0 b k c t B M m) : p_257 m ∧ ux_bc ((M k 49197 0 0) ||| (M k 49197 0 2)) = r_257 m := by
  have hc := h.1.le
  obtain ⟨r1, N, r2, r3⟩ := z_257l h.1 c ux_fuel 0 0 (by omega) (by have := z_fuel; omega) (Nat.le_refl _)
  refine ⟨r1, ?_⟩
  have bz : ∀ w, w < 32 → bt ((M k 49197 0 0) ||| (M k 49197 0 2)) w = (decide (w < c) && decide (¬ z_Y m 29 w = 0)) := fun w hw => by
    rw [b_or, h.1.js hw, h.1.jt hw]
    by_cases q : w < c
    · rcases h.2.jb q with j | j | j | j <;> rw [j] <;> simp [q]
    · simp [q]
  have r2' : r_257 m = nI N := r2
  rw [r2', z_bc _ (fun w h1 h2 => by rw [bz w h2]; simp [show ¬ w < c by omega])]
  have pc : ∀ n, n ≤ 16 → z_pop ((M k 49197 0 0) ||| (M k 49197 0 2)) n = z_cn (fun v => decide (¬ z_Y m 29 v = 0)) (min n c) := by
    intro n
    induction n with
    | zero => intro _; rw [Nat.zero_min]; rfl
    | succ n ihn =>
      intro hn
      rw [z_pop, ihn (by omega), bz n (by omega)]
      by_cases hnc : n < c
      · rw [show min n c = n by omega, show min (n + 1) c = n + 1 by omega, z_cn]; simp [hnc]
      · rw [show min n c = c by omega, show min (n + 1) c = c by omega]; simp [hnc]
  have e := pc 16 (Nat.le_refl _)
  rw [show min 16 c = c by omega] at e
  rw [e]
  have e0 : z_cn (fun v => decide (¬ z_Y m 29 v = 0)) 0 = 0 := rfl
  congr 1
  omega
theorem z_f_34 (h : z_Q n M) : z_op n M p_34 r_34 (fun M => M) p_256 r_256 m_256 := by
  obtain ⟨c, t, B, ht, hB, hR, hs⟩ := h.w
  obtain ⟨q1, q2⟩ := z_257 (hR.th 0)
  refine .th h ?_ ?_ ?_ ?_
  · unfold p_34; trivial
  · unfold p_256; intro M1 e; subst e; exact q1
  · unfold r_34 r_256; exact q2
  · rfl
theorem z_W.nm (h : z_W k c t B M m) (hu : u < c) : ∃ N, 1 ≤ N ∧ N ≤ 8 ∧ z_Y m 1 u = nI N ∧ ∀ i, i < N → M k 394241 0 (u * 8 + i) = z_Y m (2 + i) u := by
  obtain ⟨N, a, b, e, f⟩ := (h.2.1.1 u hu).2.2.2.2.1
  refine ⟨N, a, b, e, fun i hi => ?_⟩
  have := f i hi
  simp only [show 2 + i < 28 by omega, if_true] at this
  exact this
theorem z_l8 (u j : Nat) : nI u * (8 : Int32) + nI j = nI (u * 8 + j) := by
  show Int32.ofNat u * Int32.ofNat 8 + Int32.ofNat j = Int32.ofNat _
  rw [← Int32.ofNat_mul, ← Int32.ofNat_add]
/-- nameLetter, property, related -/
theorem z_f_94 (h : z_Q n M) (hx : z_iu M x) : z_op n M (p_94 x y) (r_94 x y) (fun M => M) (p_236 x y) (r_236 x y) (m_236 x y) := by
  obtain ⟨c, t, B, u, ht, hB, hR, hs, hc, hu, h16, rfl⟩ := h.un hx
  obtain ⟨e1, e2, e3⟩ := z_235i hc hR.1.cn hu
  obtain ⟨N, n1, n8, eN, el⟩ := hR.1.nm hu
  have rg : ∀ L : Int32, L = nI N → ((¬ lg_cmp y.toInt64 (0 : Int32).toInt64 < 0 ∧ ¬ 0 < lg_cmp y.toInt64 (L - 1).toInt64) ↔ (¬ y < 0 ∧ y < nI N)) := fun L e => by
    rw [z_i64 y 0 (L - 1) rfl, e, z_cm1 (by omega)]
  have e8 : M 0 376961 0 u = nI N := (hR.1.nl hu).trans eN
  refine .th h ?_ ?_ ?_ ?_
  · unfold p_94; rw [z_cl h16, e8]
    refine ⟨z_p93 hx, fun _ => trivial, fun q => ⟨z_i16 h16, fun q2 => ?_, fun _ => trivial⟩⟩
    obtain ⟨j, hj, rfl⟩ := z_uin q q2 (by omega)
    rw [z_l8 u j]; exact vp_in_nI (by omega) (by omega)
  · unfold p_236; rw [e3, of1 _ h16, z_thY]
    refine ⟨e1, fun _ => ⟨uu1 h16, fun _ => trivial, fun q => ?_⟩, fun _ => trivial⟩
    obtain ⟨q1, q2⟩ := (rg _ eN).mp q
    obtain ⟨j, hj, rfl⟩ := z_uin q1 q2 (by omega)
    have : (2 : Int32) + nI j = nI (2 + j) := z_add 2 j
    rw [this]; exact z_uu (2 + j) u (by omega) h16
  · unfold r_94 r_236; rw [if_pos e2, e3, of1 _ h16, z_thY, z_cl h16, e8]
    by_cases q : ¬ y < 0 ∧ y < nI N
    · rw [if_neg q.1, if_pos q.2, if_pos ((rg _ eN).mpr q)]
      obtain ⟨j, hj, rfl⟩ := z_uin q.1 q.2 (by omega)
      have : (2 : Int32) + nI j = nI (2 + j) := z_add 2 j
      rw [this, z_of _ (2 + j) u (by omega) h16, z_thY, z_l8 u j, z_cls (by omega)]
      exact el j hj
    · rw [if_neg (fun z => q ((rg _ eN).mp z))]
      by_cases q1 : y < 0
      · rw [if_pos q1]
      · rw [if_neg q1, if_neg (fun z => q ⟨q1, z⟩)]
  · unfold m_236; rw [if_pos e2, e3, ite_self]
theorem z_g_236 (h : z_Q n M) (hx : ¬ z_iu M x) : z_thr n M (p_236 x y) (m_236 x y) 1 := by
  obtain ⟨e1, e2, e3⟩ := h.o hx
  have e0 : ¬ r_235 x M = 0 := by rw [e2]; decide
  refine .th h ?_ ?_
  · unfold p_236; exact ⟨e1, fun z => absurd z e0, fun _ => trivial⟩
  · unfold m_236; rw [if_neg e0, e3]
theorem z_f_95 (h : z_Q n M) (hx : z_iu M x) (hy : z_rg y 0 9) : z_op n M (p_95 x y) (r_95 x y) (fun M => M) (p_237 x y) (r_237 x y) (m_237 x y) := by
  obtain ⟨c, t, B, u, ht, hB, hR, hs, hc, hu, h16, rfl⟩ := h.un hx
  obtain ⟨e1, e2, e3⟩ := z_235i hc hR.1.cn hu
  obtain ⟨j, hj, rfl⟩ := nI_of2 (n := 9) (M := 9) (by decide) hy.1 hy.2
  have g := (z_i64g (nI j) 0 9 (L := Int64.ofNat 9) (by decide)).mpr hy
  obtain ⟨a1, a2, a3⟩ := z_176a (M := z_th M 0) z_th6 2
  obtain ⟨f1, f2, f3⟩ := z_235i (m := z_th M 0) hc ((z_thI 1).trans hR.1.cn) hu
  rw [z_thth] at f3
  have ej : (10 : Int32) + nI j = nI (10 + j) := z_add 10 j
  refine .th h ?_ ?_ ?_ ?_
  · unfold p_95; exact ⟨z_p93 hx, z_p96 hy, z_i16 h16, fun _ => trivial, fun _ => z_pv u j h16 (by omega)⟩
  · unfold p_237 p_237_26; rw [e3, a2, a3]
    refine ⟨e1, fun z => absurd e2 z, fun _ => ⟨fun _ => ⟨a1, fun _ => ?_, fun z => absurd rfl z⟩, fun z => absurd g z⟩⟩
    unfold p_238; rw [ej]; exact ⟨f1, fun _ => ⟨uu0 h16, fun _ => trivial, fun _ => z_uu (10 + j) u (by omega) h16⟩, fun _ => trivial⟩
  · unfold r_95 r_237 r_237_26; rw [if_pos e2, if_pos g, e3, if_pos a2, a3]
    unfold r_238; rw [if_pos f2, f3, ej, of0 _ h16, z_of _ (10 + j) u (by omega) h16, z_thY, z_thY, z_cl h16, z_pr u j h16 (by omega), hR.1.kd hu, hR.1.pp hu j (by omega)]
  · unfold m_237 m_237_26; rw [if_pos e2, if_pos g, e3, if_pos a2, a3]
    unfold m_238; rw [if_pos f2, ite_self, f3]
theorem z_g_237 (h : z_Q n M) (hx : ¬ z_iu M x) : z_thr n M (p_237 x y) (m_237 x y) 1 := by
  obtain ⟨e1, e2, e3⟩ := h.o hx
  have e0 : ¬ r_235 x M = 0 := by rw [e2]; decide
  refine .th h ?_ ?_
  · unfold p_237; exact ⟨e1, fun _ => trivial, fun z => absurd z e0⟩
  · unfold m_237; rw [if_neg e0, e3]
theorem z_g_237b (h : z_Q n M) (hx : z_iu M x) (hy : ¬ z_rg y 0 9) : z_thr n M (p_237 x y) (m_237 x y) 2 := by
  obtain ⟨c, t, B, u, ht, hB, hR, hs, hc, hu, h16, rfl⟩ := h.un hx
  obtain ⟨e1, e2, e3⟩ := z_235i hc hR.1.cn hu
  have g := fun z => hy ((z_i64g y 0 9 (L := Int64.ofNat 9) (by decide)).mp z)
  obtain ⟨a1, a2, a3⟩ := z_176b (M := z_th M 0) z_th6 (b := 2) (by decide)
  rw [z_thth] at a3
  have a0 : ¬ r_176 1 2 (z_th M 0) = 0 := by rw [a2]; decide
  refine .th h ?_ ?_
  · unfold p_237 p_237_26; rw [e3]; exact ⟨e1, fun z => absurd e2 z, fun _ => ⟨fun z => absurd z g, fun _ => ⟨a1, fun z => absurd z a0, fun _ => trivial⟩⟩⟩
  · unfold m_237 m_237_26; rw [if_pos e2, if_neg g, e3, if_neg a0, a3]
theorem z_f_97 (h : z_Q n M) (hx : z_iu M x) (hy : z_rg y 0 5) : z_op n M (p_97 x y) (r_97 x y) (fun M => M) (p_239 x y) (r_239 x y) (m_239 x y) := by
  obtain ⟨c, t, B, u, ht, hB, hR, hs, hc, hu, h16, rfl⟩ := h.un hx
  obtain ⟨e1, e2, e3⟩ := z_235i hc hR.1.cn hu
  obtain ⟨j, hj, rfl⟩ := nI_of2 (n := 5) (M := 5) (by decide) hy.1 hy.2
  have g := (z_i64g (nI j) 0 5 (L := Int64.ofNat 5) (by decide)).mpr hy
  obtain ⟨a1, a2, a3⟩ := z_176a (M := z_th M 0) z_th6 2
  have ej : (22 : Int32) + nI j = nI (22 + j) := z_add 22 j
  refine .th h ?_ ?_ ?_ ?_
  · unfold p_97; exact ⟨z_p93 hx, z_p96 hy, vp_in_nI (by omega) (by omega), z_i16 h16⟩
  · unfold p_239 p_239_26; rw [e3, a2, ej]
    exact ⟨e1, fun z => absurd e2 z, fun _ => ⟨fun _ => ⟨a1, fun _ => z_uu (22 + j) u (by omega) h16, fun z => absurd rfl z⟩, fun z => absurd g z⟩⟩
  · unfold r_97 r_239 r_239_26; rw [if_pos e2, if_pos g, e3, if_pos a2, a3, ej, z_of _ (22 + j) u (by omega) h16, z_thY, z_cl h16, z_cl (show j < 16 by omega)]
    exact hR.1.rl hu j (by omega)
  · unfold m_239 m_239_26; rw [if_pos e2, if_pos g, e3, if_pos a2, a3]
theorem z_g_239 (h : z_Q n M) (hx : ¬ z_iu M x) : z_thr n M (p_239 x y) (m_239 x y) 1 := by
  obtain ⟨e1, e2, e3⟩ := h.o hx
  have e0 : ¬ r_235 x M = 0 := by rw [e2]; decide
  refine .th h ?_ ?_
  · unfold p_239; exact ⟨e1, fun _ => trivial, fun z => absurd z e0⟩
  · unfold m_239; rw [if_neg e0, e3]
theorem z_g_239b (h : z_Q n M) (hx : z_iu M x) (hy : ¬ z_rg y 0 5) : z_thr n M (p_239 x y) (m_239 x y) 2 := by
  obtain ⟨c, t, B, u, ht, hB, hR, hs, hc, hu, h16, rfl⟩ := h.un hx
  obtain ⟨e1, e2, e3⟩ := z_235i hc hR.1.cn hu
  have g := fun z => hy ((z_i64g y 0 5 (L := Int64.ofNat 5) (by decide)).mp z)
  obtain ⟨a1, a2, a3⟩ := z_176b (M := z_th M 0) z_th6 (b := 2) (by decide)
  rw [z_thth] at a3
  have a0 : ¬ r_176 1 2 (z_th M 0) = 0 := by rw [a2]; decide
  refine .th h ?_ ?_
  · unfold p_239 p_239_26; rw [e3]; exact ⟨e1, fun z => absurd e2 z, fun _ => ⟨fun z => absurd z g, fun _ => ⟨a1, fun z => absurd z a0, fun _ => trivial⟩⟩⟩
  · unfold m_239 m_239_26; rw [if_pos e2, if_neg g, e3, if_neg a0, a3]
/-- inState -/
theorem z_f_123 (h : z_Q n M) (hy : z_rg y 0 5) : z_op n M (p_123 y) (r_123 y) (fun M => M) (p_258 y) (r_258 y) (m_258 y) := by
  obtain ⟨c, t, B, ht, hB, hR, hs⟩ := h.w
  have hRt := hR.th 0
  obtain ⟨j, hj, rfl⟩ := nI_of2 (n := 5) (M := 5) (by decide) hy.1 hy.2
  have g := (z_i64g (nI j) 0 5 (L := Int64.ofNat 5) (by decide)).mpr hy
  obtain ⟨a1, a2, a3⟩ := z_176a (M := z_th M 0) z_th6 1
  refine .th h ?_ ?_ ?_ ?_
  · unfold p_123; exact ⟨z_p96 hy, z_p43 hR.1 hR.2 _⟩
  · unfold p_258 p_258_23; intro M1 e; subst e
    refine ⟨fun _ => ⟨a1, fun _ => ?_, fun z => absurd a2 z⟩, fun z => absurd g z⟩
    rw [show m_176 0 1 (ux_set M 5 819253 0 6 0) = z_th M 0 from a3]; exact z_p259 hRt.1 _
  · unfold r_123 r_258 r_258_23; simp only []
    rw [if_pos g, show r_176 0 1 (ux_set M 5 819253 0 6 0) = 0 from a2, if_pos rfl, show m_176 0 1 (ux_set M 5 819253 0 6 0) = z_th M 0 from a3]
    refine b_ext (fun w hw => ?_)
    rw [z_r43 hR.1 hR.2 _ hw, z_r259 hRt.1 _ hw, z_thY]
    by_cases q : w < c
    · obtain ⟨s, s6, e⟩ := hR.2.sv q
      rw [e, z_cl (by omega), z_bit (by omega) (by omega), z_stb s6 rfl j (by omega)]
    · simp [q]
  · unfold m_258 m_258_23; simp only []
    rw [if_pos g, show r_176 0 1 (ux_set M 5 819253 0 6 0) = 0 from a2, if_pos rfl]; exact a3
theorem z_g_258 (h : z_Q n M) (hy : ¬ z_rg y 0 5) : z_thr n M (p_258 y) (m_258 y) 1 := by
  have g := fun z => hy ((z_i64g y 0 5 (L := Int64.ofNat 5) (by decide)).mp z)
  obtain ⟨a1, a2, a3⟩ := z_176b (M := z_th M 0) z_th6 (b := 1) (by decide)
  rw [z_thth] at a3
  have a0 : ¬ r_176 1 1 (ux_set M 5 819253 0 6 0) = 0 := by rw [show r_176 1 1 (ux_set M 5 819253 0 6 0) = 1 from a2]; decide
  refine .th h ?_ ?_
  · unfold p_258 p_258_23; intro M1 e; subst e; exact ⟨fun z => absurd z g, fun _ => ⟨a1, fun z => absurd z a0, fun _ => trivial⟩⟩
  · unfold m_258 m_258_23; simp only []
    rw [if_neg g, if_neg a0]; exact a3
end ZU2
