/-! THE CALLS THAT ACT: cancel, advance, connect -/
section ZX5
variable {k c t B B' b u n s x : Nat} {M M' M1 M2 C m m' : ux_M} {y z v w j : Int32} {f : Nat → Int32}
/-- cancel -/
theorem z_f_108 (h : z_Q n M) (hn : n ≤ 600) (hx : z_iu M y) : z_op n M (p_108 y) (r_108 y) (m_108 y) (p_266 y) (r_266 y) (m_266 y) := by
  obtain ⟨c, t, B, u, ht, hB, hR, hs, hc, hu, h16, rfl⟩ := h.un hx
  have fa : z_fA 0 M (m_108 (nI u) M) := by
    unfold m_108; exact z_fA.ite ((fa_109 _ _ _).tr (fa_78 _ _)) z_fA.rf
  have row : ∀ i, z_th (m_108 (nI u) M) 0 5 844257 0 i = M 5 844257 0 i := fun i => (z_thI i).trans (fa 5 844257 0 i (by omega))
  obtain ⟨e1, e2, e3⟩ := z_235i hc ((fa 5 844257 0 1 (by omega)).trans hR.1.cn) hu
  have hR0 : z_R 99 16 0 c t B M (z_th (m_108 (nI u) M) 0) := hR.cg (fun _ _ _ _ => rfl) row
  have hs0 := z_219c hR.1 hR0.1 row hs
  have enE : ∀ mm : ux_M, ux_put (ux_put (ux_put mm (nI u) 29 0) (nI u) 30 0) (nI u) 41 4 = z_en mm u 4 := fun mm => by rw [pu29 _ _ h16, pu30 _ _ h16, pu41 _ _ h16]; rfl
  obtain ⟨m0, em0⟩ : ∃ m0, m0 = z_th (m_108 (nI u) M) 0 := ⟨_, rfl⟩
  rw [← em0] at hR0 hs0
  have wait : (((((M 0 49197 0 0) ||| (M 0 49197 0 2)) &&& ((M 0 49197 0 3) ^^^ ((-1) : Int32))) &&& ((1 : Int32) <<< (nI u &&& 31))) = 0) ↔ (z_Y m0 29 u = 0 ∨ z_Y m0 30 u = 1) := by
    rw [z_andb _ (by omega), b_and, z_not _ (by omega), b_or, hR0.1.js (by omega), hR0.1.jt (by omega), hR0.1.jn (by omega)]
    have hj := hR0.2.jb hu
    have hr := hR0.2.rn hu
    rcases hj with q | q | q | q <;> rcases hr with q2 | q2 <;> rw [q, q2] <;> simp [hu]
  have mr : m_266 (nI u) (m_108 (nI u) M) = if z_Y m0 29 u = 0 then m0 else if z_Y m0 30 u = 1 then m0 else if z_Y m0 29 u = 1 ∨ z_Y m0 29 u = 3 then m_218 (m_186 (nI u) (m_189 (nI u) (z_en m0 u 4))) else m_218 (z_en m0 u 4) := by
    unfold m_266; rw [if_pos e2, e3, ← em0, of29 _ h16, of30 _ h16]
    simp only [enE]
  have fb : z_fB m0 (m_266 (nI u) (m_108 (nI u) M)) := by
    have fe : z_fB m0 (z_en m0 u 4) := by rw [← enE]; exact z_fB.pt (z_fB.pt (z_fB.pt z_fB.rf))
    rw [mr]
    exact z_fB.ite z_fB.rf (z_fB.ite z_fB.rf (z_fB.ite (((fe.tr (fb_189 _ _)).tr (fb_186 _ _)).tr (fb_218 _)) (fe.tr (fb_218 _))))
  rw [em0] at fb
  by_cases q : z_Y m0 29 u = 0 ∨ z_Y m0 30 u = 1
  · have mc : m_108 (nI u) M = M := by unfold m_108; rw [if_neg (fun z => z (wait.mpr q))]
    have mr' : m_266 (nI u) (m_108 (nI u) M) = m0 := by
      rw [mr]
      rcases q with q | q
      · rw [if_pos q]
      · rw [if_pos q, ite_self]
    have k4 : z_R 99 16 0 c t B (m_108 (nI u) M) (m_266 (nI u) (m_108 (nI u) M)) := by rw [mr']; exact mc.symm ▸ hR0
    obtain ⟨d1, d2⟩ := h.act fa fb ⟨c, t, B, ht, by omega, k4, by rw [mr']; exact hs0⟩
    refine ⟨?_, ?_, ?_, d1, d2⟩
    · unfold p_108; exact ⟨z_p93 hx, fun z => absurd (wait.mpr q) z, fun _ => trivial⟩
    · unfold p_266; rw [e3, ← em0, of29 _ h16, of30 _ h16]
      refine ⟨e1, fun _ => ⟨uu29 h16, fun _ => trivial, fun z => ⟨uu30 h16, fun z2 => absurd q (fun z3 => z3.elim z z2), fun _ => trivial⟩⟩, fun _ => trivial⟩
    · unfold r_108 r_266; rw [if_neg (fun z => z (wait.mpr q)), if_pos e2, e3, ← em0, of29 _ h16, of30 _ h16]
      rcases q with q | q
      · rw [if_pos q]
      · rw [if_pos q, ite_self]
  · have q1 : ¬ z_Y m0 29 u = 0 := fun z => q (.inl z)
    have q2 : ¬ z_Y m0 30 u = 1 := fun z => q (.inr z)
    obtain ⟨w1, w2, w3⟩ := hR0.wdr hu q1
    obtain ⟨j1, j2, j3, j4⟩ := z_R.jobs w3 (by omega)
    obtain ⟨l1, l2⟩ := z_257 j3
    have mc : m_108 (nI u) M = m_78 0 (m_109 0 (nI u) M) := by unfold m_108; rw [if_pos (fun z => q (wait.mp z))]
    have mr' : m_266 (nI u) (m_108 (nI u) M) = m_218 (if z_Y m0 29 u = 1 ∨ z_Y m0 29 u = 3 then m_186 (nI u) (m_189 (nI u) (z_en m0 u 4)) else z_en m0 u 4) := by
      rw [mr, if_neg q1, if_neg q2]; split <;> rfl
    have k4 : z_R 99 16 0 c t (B + 800) (m_108 (nI u) M) (m_266 (nI u) (m_108 (nI u) M)) := by rw [mr']; exact mc.symm ▸ j3
    obtain ⟨d1, d2⟩ := h.act fa fb ⟨c, t, B + 800, ht, by omega, k4, by rw [mr']; exact j4⟩
    refine ⟨?_, ?_, ?_, d1, d2⟩
    · unfold p_108; exact ⟨z_p93 hx, fun _ => ⟨w1, j1⟩, fun _ => trivial⟩
    · unfold p_266; rw [e3, ← em0, of29 _ h16, of30 _ h16]
      simp only [enE, forall_eq]
      refine ⟨e1, fun _ => ⟨uu29 h16, fun _ => trivial, fun _ => ⟨uu30 h16, fun _ => ⟨uu29 h16, uu29 h16, uu30 h16, uu41 h16, fun z => ?_, fun z => ?_⟩, fun _ => trivial⟩⟩, fun _ => trivial⟩
      · rw [if_neg z] at j2 l1; exact ⟨j2, l1⟩
      · rw [if_pos z] at j2 l1; exact ⟨(w2 z).1, (w2 z).2, j2, l1⟩
    · unfold r_108 r_266; rw [if_pos (fun z => q (wait.mp z)), if_pos e2, e3, ← em0, of29 _ h16, of30 _ h16, if_neg q1, if_neg q2]
      simp only [enE]
      rw [l2]
      split <;> rfl
theorem z_g_266 (h : z_Q n M) (hx : ¬ z_iu M y) : z_thr n M (p_266 y) (m_266 y) 1 := by
  obtain ⟨e1, e2, e3⟩ := h.o hx
  have e0 : ¬ r_235 y M = 0 := by rw [e2]; decide
  refine .th h ?_ ?_
  · unfold p_266; exact ⟨e1, fun q => absurd q e0, fun _ => trivial⟩
  · unfold m_266; rw [if_neg e0, e3]
/-- advance -/
theorem fb_tk : ∀ (d : Nat) (m : ux_M), z_fB m (z_tk d m)
  | 0, _ => z_fB.rf
  | d + 1, m => (fb_177 m).tr (fb_tk d (m_177 m))
theorem z_175l {d : Nat} (hd : d ≤ 1000) : ∀ (n f i : Nat) (m : ux_M), i + n = d → n < f → z_ptk n m → p_175_51 f (nI d) (nI i) m ∧ r_175_51 f (nI d) (nI i) m = z_tk n m 5 844257 0 0 ∧ m_175_51 f (nI d) (nI i) m = z_tk n m := by
  intro n
  induction n with
  | zero =>
    intro f i m hi hf _
    obtain ⟨f, rfl⟩ : ∃ g, f = g + 1 := ⟨f - 1, by omega⟩
    have hle : nI d ≤ nI i := (z_le (by omega) (by omega)).mpr (by omega)
    rw [p_175_51, r_175_51, m_175_51, if_pos hle, if_pos hle, z_c0]
    exact ⟨⟨fun _ => z_v0, fun z => absurd hle z⟩, rfl, rfl⟩
  | succ n ih =>
    intro f i m hi hf hp
    obtain ⟨f, rfl⟩ : ∃ g, f = g + 1 := ⟨f - 1, by omega⟩
    have hle : ¬ nI d ≤ nI i := fun z => by have := (z_le (by omega) (by omega)).mp z; omega
    obtain ⟨a1, a2, a3⟩ := ih f (i + 1) (m_177 m) (by omega) (by omega) hp.2
    rw [p_175_51, r_175_51, m_175_51, if_neg hle, if_neg hle, z_nx]
    exact ⟨⟨fun z => absurd z hle, fun _ => ⟨hp.1, a1⟩⟩, a2, a3⟩
theorem z_f_114 (h : z_Q n M) (hn : n ≤ 600) (hy : z_rg y 1 1000) : z_op n M (p_114 y) (r_114 y) (m_114 y) (p_175 y) (r_175 y) (m_175 y) := by
  obtain ⟨c, t, B, ht, hB, hR, hs⟩ := h.w
  have n0 : ¬ y < 0 := fun z => hy.1 (by
    rw [Int32.lt_iff_toInt_lt] at z ⊢
    have e0 : (0 : Int32).toInt = 0 := by decide
    have e1 : (1 : Int32).toInt = 1 := by decide
    omega)
  obtain ⟨d, hd, rfl⟩ := nI_of2 (n := 1000) (M := 1000) (x := y) (by decide) n0 hy.2
  have fa : z_fA 0 M (m_114 (nI d) M) := by
    unfold m_114; exact z_fA.ite (fa_50 _ _ _) z_fA.rf
  have row : ∀ i, z_th (m_114 (nI d) M) 0 5 844257 0 i = M 5 844257 0 i := fun i => (z_thI i).trans (fa 5 844257 0 i (by omega))
  have hR0 : z_R 99 16 0 c t B M (z_th (m_114 (nI d) M) 0) := hR.cg (fun _ _ _ _ => rfl) row
  have hs0 := z_219c hR.1 hR0.1 row hs
  have g := (z_i64g (nI d) 1 1000 (L := Int64.ofNat 1000) (by decide)).mpr hy
  obtain ⟨a1, a2, a3⟩ := z_176a (M := z_th (m_114 (nI d) M) 0) z_th6 1
  have le6 : nI t + nI d ≤ 1000000 ↔ t + d ≤ 1000000 := by rw [z_add]; exact z_le (b := 1000000) (by omega) (by omega)
  have now0 : z_th (m_114 (nI d) M) 0 5 844257 0 0 = nI t := hR0.1.now
  have mr : m_175 (nI d) (m_114 (nI d) M) = if nI t + nI d ≤ 1000000 then m_175_51 ux_fuel (nI d) 0 (z_th (m_114 (nI d) M) 0) else z_th (m_114 (nI d) M) 0 := by
    unfold m_175 m_175_23
    simp only []
    rw [if_pos g, show r_176 0 1 (ux_set (m_114 (nI d) M) 5 819253 0 6 0) = 0 from a2, if_pos rfl, show m_176 0 1 (ux_set (m_114 (nI d) M) 5 819253 0 6 0) = z_th (m_114 (nI d) M) 0 from a3, z_c0, now0]
  have rr : r_175 (nI d) (m_114 (nI d) M) = if nI t + nI d ≤ 1000000 then r_175_51 ux_fuel (nI d) 0 (z_th (m_114 (nI d) M) 0) else -2 := by
    unfold r_175 r_175_23
    simp only []
    rw [if_pos g, show r_176 0 1 (ux_set (m_114 (nI d) M) 5 819253 0 6 0) = 0 from a2, if_pos rfl, show m_176 0 1 (ux_set (m_114 (nI d) M) 5 819253 0 6 0) = z_th (m_114 (nI d) M) 0 from a3, z_c0, now0]
  by_cases q : t + d ≤ 1000000
  · have q' := le6.mpr q
    obtain ⟨b1, b2, b3, b4⟩ := z_passes hR0 hs0 hd (by omega) (by omega)
    obtain ⟨l1, l2, l3⟩ := z_175l hd d ux_fuel 0 (z_th (m_114 (nI d) M) 0) (by omega) (by have := z_fuel; omega) b2
    have mc : m_114 (nI d) M = m_50 0 (nI (t + d)) M := by unfold m_114; rw [hR.1.nw, if_pos q', z_add]
    have mr' : m_175 (nI d) (m_114 (nI d) M) = z_tk d (z_th (m_114 (nI d) M) 0) := by rw [mr, if_pos q']; exact l3
    have k4 : z_R 99 16 0 c (t + d) (B + 800 * d) (m_114 (nI d) M) (m_175 (nI d) (m_114 (nI d) M)) := by
      rw [mr']; rw [← mc] at b3; exact b3
    obtain ⟨d1, d2⟩ := h.act (M2 := m_175 (nI d) (m_114 (nI d) M)) fa (by rw [mr']; exact fb_tk _ _) ⟨c, t + d, B + 800 * d, q, by omega, k4, by rw [mr']; exact b4⟩
    refine ⟨?_, ?_, ?_, d1, d2⟩
    · unfold p_114; rw [hR.1.nw, z_add]; exact ⟨z_p96 hy, fun _ => b1, fun _ => trivial⟩
    · unfold p_175 p_175_23; intro M1 e; subst e
      refine ⟨fun _ => ⟨a1, fun _ => ?_, fun z => absurd a2 z⟩, fun z => absurd g z⟩
      rw [show m_176 0 1 (ux_set (m_114 (nI d) M) 5 819253 0 6 0) = z_th (m_114 (nI d) M) 0 from a3]
      exact ⟨z_v0, fun _ => l1, fun _ => trivial⟩
    · have e1 : r_114 (nI d) M = m_114 (nI d) M 0 16413 0 3 := by
        rw [mc]; unfold r_114; rw [hR.1.nw, if_pos q', z_add]
      have e2 : r_175_51 ux_fuel (nI d) 0 (z_th (m_114 (nI d) M) 0) = m_175 (nI d) (m_114 (nI d) M) 5 844257 0 0 := by rw [mr']; exact l2
      rw [e1, rr, if_pos q', e2, k4.1.nw, k4.1.now]
  · have q' := fun z => q (le6.mp z)
    have mc : m_114 (nI d) M = M := by unfold m_114; rw [hR.1.nw, if_neg q']
    have mr' : m_175 (nI d) (m_114 (nI d) M) = z_th (m_114 (nI d) M) 0 := by rw [mr, if_neg q']
    have k4 : z_R 99 16 0 c t B (m_114 (nI d) M) (m_175 (nI d) (m_114 (nI d) M)) := by rw [mr']; exact mc.symm ▸ hR0
    obtain ⟨d1, d2⟩ := h.act (M2 := m_175 (nI d) (m_114 (nI d) M)) fa (by rw [mr']; exact z_fB.rf) ⟨c, t, B, ht, by omega, k4, by rw [mr']; exact hs0⟩
    refine ⟨?_, ?_, ?_, d1, d2⟩
    · unfold p_114; rw [hR.1.nw]; exact ⟨z_p96 hy, fun z => absurd z q', fun _ => trivial⟩
    · unfold p_175 p_175_23; intro M1 e; subst e
      refine ⟨fun _ => ⟨a1, fun _ => ?_, fun z => absurd a2 z⟩, fun z => absurd g z⟩
      rw [show m_176 0 1 (ux_set (m_114 (nI d) M) 5 819253 0 6 0) = z_th (m_114 (nI d) M) 0 from a3, z_c0, now0]
      exact ⟨z_v0, fun z => absurd z q', fun _ => trivial⟩
    · rw [rr, if_neg q']; unfold r_114; rw [hR.1.nw, if_neg q']
theorem z_g_175 (h : z_Q n M) (hy : ¬ z_rg y 1 1000) : z_thr n M (p_175 y) (m_175 y) 1 := by
  have g := fun z => hy ((z_i64g y 1 1000 (L := Int64.ofNat 1000) (by decide)).mp z)
  obtain ⟨a1, a2, a3⟩ := z_176b (M := z_th M 0) z_th6 (b := 1) (by decide)
  rw [z_thth] at a3
  have a0 : ¬ r_176 1 1 (ux_set M 5 819253 0 6 0) = 0 := by rw [show r_176 1 1 (ux_set M 5 819253 0 6 0) = 1 from a2]; decide
  refine .th h ?_ ?_
  · unfold p_175 p_175_23; intro M1 e; subst e; exact ⟨fun z => absurd z g, fun _ => ⟨a1, fun z => absurd z a0, fun _ => trivial⟩⟩
  · unfold m_175 m_175_23; simp only []
    rw [if_neg g, if_neg a0]; exact a3
end ZX5
