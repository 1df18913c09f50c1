/-! THE CALLS THAT ACT: orders -/
section ZX1
variable {k c t B B' b u n s : Nat} {M M' M1 M2 m m' : ux_M} {x y v j : Int32}
/-- a call of the class that writes inside the real world, then one of the reference that writes inside its row -/
theorem z_Q.act (h : z_Q n M) (fa : z_fA 0 M M1) (fb : z_fB (z_th M1 0) M2) (hS : z_ST 0 (n + 1) M1 M2) : M2 5 819253 0 6 = 0 ∧ z_Q (n + 1) M2 := by
  have e : ∀ a s r i, ¬ (a = 5 ∧ z_bS s i) → ¬ (a = 5 ∧ s = 819253 ∧ i = 6) → M2 a s r i = M1 a s r i := fun a s r i q q2 => (fb a s r i q).trans (by unfold z_th; rw [z_set, if_neg (fun z => q2 ⟨z.1, z.2.1, z.2.2.2⟩)])
  have g : ∀ s r i, 344085 ≤ s → M2 0 s r i = M 0 s r i := fun s r i q => (e 0 s r i (by omega) (by omega)).trans (fa 0 s r i (by omega))
  refine ⟨(fb 5 819253 0 6 (by unfold z_bS; omega)).trans z_th6, h.mk (by omega) (fun a s r i q => ?_) (hS.cg (fun s r i _ => e 0 s r i (by omega) (by omega)) (fun _ => rfl)) (h.2.2.1.2.cg (g 344085 0 0 (by omega)) (fun i _ => g 376961 0 i (by omega)) (fun i _ => g 394241 0 i (by omega)))⟩
  rw [e a s r i (by unfold z_bS; omega) (by omega)]
  exact fa a s r i (by omega)
/-- nothing is to be run where all is at rest -/
theorem z_idle (h : z_W k c t B M m) (hs : z_stable c m) : p_218 m ∧ m_218 m = m := by
  have hc := h.le
  have hfu : c < ux_fuel := by have := z_fuel; omega
  obtain ⟨f, hf, hf2⟩ := z_f1 (n := 10) (by have := z_fuel; omega)
  obtain ⟨f2, rfl⟩ : ∃ g, f = g + 1 := ⟨f - 1, by omega⟩
  obtain ⟨r1, r2⟩ := z_idl' h hs (p_218_2 (f2 + 1)) (m_218_2 (f2 + 1)) c ux_fuel 0 (by omega) hfu
  have e : p_218_2 (f2 + 1) 0 m := by rw [p_218_2]; exact ⟨fun _ => trivial, fun z => absurd rfl z⟩
  have e2 : m_218_2 (f2 + 1) 0 m = m := by rw [m_218_2, if_pos rfl]
  unfold p_218 m_218
  rw [hf, p_218_2, m_218_2, if_neg z_10]
  exact ⟨⟨fun z => absurd z z_10, fun _ => r1 e⟩, r2.trans e2⟩
/-- no job, nothing is merged -/
theorem z_211n (hc : c ≤ 16) (hm : m 5 844257 0 1 = nI c) (h0 : ∀ v, v < c → r_208 (nI v) m = 0) (y : Int32) : ∀ (n f i : Nat), i + n = c → n < f → m_211_53 f y (nI i) m = m := by
  intro n
  induction n with
  | zero =>
    intro f i hi hf
    obtain ⟨f, rfl⟩ : ∃ z, f = z + 1 := ⟨f - 1, by omega⟩
    rw [m_211_53, z_c1, hm, if_pos (z_yle (show c ≤ i by omega) (by omega))]
  | succ n ih =>
    intro f i hi hf
    obtain ⟨f, rfl⟩ : ∃ z, f = z + 1 := ⟨f - 1, by omega⟩
    have e : m_213 (nI i) 0 m = m := by unfold m_213; rw [if_pos rfl]
    rw [m_211_53, z_c1, hm, if_neg (z_nle (show i < c by omega) hc), h0 i (by omega), e, z_nx]
    exact ih f (i + 1) (by omega) (by omega)
theorem z_cn0 {g : Nat → Bool} : ∀ n, z_cn g n = 0 → ∀ i, i < n → g i = false
  | 0, _, i, hi => absurd hi (by omega)
  | n + 1, h, i, hi => by
    unfold z_cn at h
    cases q : g n
    · rw [q] at h
      by_cases e : i = n
      · subst e; exact q
      · exact z_cn0 n (by simpa using h) i (by omega)
    · rw [q] at h; simp at h
/-- merging: busy, or how many -/
theorem z_211x (h : z_R 99 b k c t B M m) (hT : z_tr k c M m) (y : Int32) : (r_211 y m = -5 ∧ m_211 y m = m) ∨ ∃ N : Nat, N ≤ 16 ∧ r_211 y m = nI N ∧ (N = 0 → m_211 y m = m) := by
  have hc := h.1.le
  have hfu : c < ux_fuel := by have := z_fuel; omega
  obtain ⟨g1, g2⟩ := z_211l h hT y c ux_fuel 0 0 (by omega) hfu (Nat.le_refl _)
  by_cases qb : y = 0 ∧ ∃ v, 0 ≤ v ∧ v < c ∧ z_cl1 m v
  · obtain ⟨_, k2, k3⟩ := g1 qb
    exact .inl ⟨k2, k3⟩
  · obtain ⟨N, k1, _, k3, k4⟩ := g2 qb
    have ml := z_mgl (b := b) (k := k) (t := t) (B := B) c ux_fuel ux_fuel 0 (nI N) _ _ (by omega) hfu hfu h hT
    have e0 : z_cn (fun v => decide (¬ r_208 (nI v) m = 0)) 0 = 0 := rfl
    refine .inr ⟨N, ?_, (show r_211 y m = _ from k3).trans ml.2.2.1, fun q => (show m_211 y m = _ from k4).trans (z_211n hc h.1.cn (fun v hv => ?_) _ c ux_fuel 0 (by omega) hfu)⟩
    · have := z_cn.le (fun v => decide (¬ r_208 (nI v) m = 0)) c
      omega
    · have := z_cn0 c (show z_cn (fun v => decide (¬ r_208 (nI v) m = 0)) c = 0 by omega) v hv
      rw [decide_eq_false_iff_not] at this
      exact Classical.byContradiction this
/-- START, STOP, RESTART -/
theorem z_fcalls (h : z_Q n M) (hn : n ≤ 600) (hx : z_iu M x) (hj : j = 1 ∨ j = 2 ∨ j = 3) : p_64 0 x j y M ∧ (¬ r_64 0 x j y M ≤ 0 → p_78 0 (m_64 0 x j y M)) ∧
    ∀ M1, M1 = (if r_64 0 x j y M ≤ 0 then m_64 0 x j y M else m_78 0 (m_64 0 x j y M)) → p_263 x j y M1 ∧ r_64 0 x j y M = r_263 x j y M1 ∧ m_263 x j y M1 5 819253 0 6 = 0 ∧ z_Q (n + 1) (m_263 x j y M1) := by
  obtain ⟨c, t, B, u, ht, hB, hR, hs, hc, hu, h16, rfl⟩ := h.un hx
  have fa : ∀ M1, M1 = (if r_64 0 (nI u) j y M ≤ 0 then m_64 0 (nI u) j y M else m_78 0 (m_64 0 (nI u) j y M)) → z_fA 0 M M1 := fun M1 e => by
    rw [e]; split
    · exact fa_64 0 _ _ _ _
    · exact (fa_64 0 _ _ _ _).tr (fa_78 0 _)
  have row : ∀ M1, z_fA 0 M M1 → ∀ i, z_th M1 0 5 844257 0 i = M 5 844257 0 i := fun M1 f i => (z_thI i).trans (f 5 844257 0 i (by omega))
  -- the reference's memory at its call
  have key : ∀ m0 : ux_M, (∀ i, m0 5 844257 0 i = M 5 844257 0 i) → p_64 0 (nI u) j y M ∧ p_197 (nI u) j m0 ∧ (r_197 (nI u) j m0 = 0 → p_211 y (m_197 (nI u) j m0)) ∧ (¬ r_64 0 (nI u) j y M ≤ 0 → p_78 0 (m_64 0 (nI u) j y M))
      ∧ (r_197 (nI u) j m0 = 0 → ¬ r_211 y (m_197 (nI u) j m0) < 0 → p_218 (m_211 y (m_197 (nI u) j m0)))
      ∧ r_64 0 (nI u) j y M = (if r_197 (nI u) j m0 = 0 then (if r_211 y (m_197 (nI u) j m0) < 0 then r_211 y (m_197 (nI u) j m0) else r_211 y (m_197 (nI u) j m0)) else r_197 (nI u) j m0)
      ∧ z_ST 0 (n + 1) (if r_64 0 (nI u) j y M ≤ 0 then m_64 0 (nI u) j y M else m_78 0 (m_64 0 (nI u) j y M)) (if r_197 (nI u) j m0 = 0 then (if r_211 y (m_197 (nI u) j m0) < 0 then m_211 y (m_197 (nI u) j m0) else m_218 (m_211 y (m_197 (nI u) j m0))) else m_197 (nI u) j m0) := by
    intro m0 e0
    have hR0 : z_R 99 16 0 c t B M m0 := hR.cg (fun _ _ _ _ => rfl) e0
    have hs0 : z_stable c m0 := z_219c hR.1 hR0.1 e0 hs
    obtain ⟨o1, o2, o3, o4, o5, o6⟩ := z_order hR0 hu j hj y
    obtain ⟨_, _, t3, t4, t5, t6, t7⟩ := z_TX2_t hR0 hu j hj
    have hR1 := hR0.fr t5 t6
    have e1 : ∀ i, m_197 (nI u) j m0 5 844257 0 i = m0 5 844257 0 i := fun i => t6 5 844257 0 i (by omega)
    have hs1 : z_stable c (m_197 (nI u) j m0) := z_219c hR0.1 hR1.1 e1 hs0
    by_cases q : r_197 (nI u) j m0 = 0
    · rw [if_pos q] at o4 o5
      have hX := z_211x hR1 (t7 q).1 y
      simp only [if_pos q, ite_self]
      rcases hX with ⟨x1, x2⟩ | ⟨N, x0, x1, x2⟩
      · have r5 : r_64 0 (nI u) j y M = -5 := o4.trans x1
        have lt : r_211 y (m_197 (nI u) j m0) < 0 := by rw [x1]; decide
        have le : r_64 0 (nI u) j y M ≤ 0 := by rw [r5]; decide
        rw [if_pos lt, if_pos le]
        refine ⟨o1, o2, fun _ => o3 q, fun z => absurd le z, fun _ z => absurd lt z, o4, c, t, B, ht, by omega, o5, ?_⟩
        rw [x2]; exact hs1
      · have nlt : ¬ r_211 y (m_197 (nI u) j m0) < 0 := by rw [x1]; exact nI_pos (by omega)
        rw [if_neg nlt]
        by_cases N0 : N = 0
        · have r0 : r_64 0 (nI u) j y M ≤ 0 := by rw [o4, x1, N0]; decide
          have em := x2 N0
          have hs2 : z_stable c (m_211 y (m_197 (nI u) j m0)) := by rw [em]; exact hs1
          obtain ⟨i1, i2⟩ := z_idle o5.1 hs2
          rw [if_pos r0, i2]
          exact ⟨o1, o2, fun _ => o3 q, fun z => absurd r0 z, fun _ _ => i1, o4, c, t, B, ht, by omega, o5, hs2⟩
        · have r0 : ¬ r_64 0 (nI u) j y M ≤ 0 := by
            rw [o4, x1]; intro z
            have := (z_pos (by omega)).mp z
            exact N0 this
          obtain ⟨j1, j2, j3, j4⟩ := z_R.jobs o5 (by omega)
          rw [if_neg r0]
          exact ⟨o1, o2, fun _ => o3 q, fun _ => j1, fun _ _ => j2, o4, c, t, B + 800, ht, by omega, j3, j4⟩
    · rw [if_neg q] at o4 o5
      have neg := t4.resolve_left q
      have le : r_64 0 (nI u) j y M ≤ 0 := by
        rw [o4]; rw [Int32.lt_iff_toInt_lt] at neg; rw [Int32.le_iff_toInt_le]; omega
      simp only [if_neg q]
      rw [if_pos le]
      exact ⟨o1, o2, fun z => absurd z q, fun z => absurd le z, fun z => absurd z q, o4, c, t, B, ht, by omega, o5, hs1⟩
  obtain ⟨k1, _, _, k4, _⟩ := key M (fun _ => rfl)
  refine ⟨k1, k4, fun M1 eM => ?_⟩
  have f1 := fa M1 eM
  obtain ⟨_, k2, k3, _, k5, k6, k7⟩ := key (z_th M1 0) (row M1 f1)
  rw [← eM] at k7
  have hm : M1 5 844257 0 1 = nI c := (f1 5 844257 0 1 (by omega)).trans hR.1.cn
  obtain ⟨e1, e2, e3⟩ := z_235i hc hm hu
  have em : m_263 (nI u) j y M1 = (if r_197 (nI u) j (z_th M1 0) = 0 then (if r_211 y (m_197 (nI u) j (z_th M1 0)) < 0 then m_211 y (m_197 (nI u) j (z_th M1 0)) else m_218 (m_211 y (m_197 (nI u) j (z_th M1 0)))) else m_197 (nI u) j (z_th M1 0)) := by
    unfold m_263; rw [if_pos e2, e3]
  have fb : z_fB (z_th M1 0) (m_263 (nI u) j y M1) := by
    rw [em]; split
    · split
      · exact (fb_197 _ _ _).tr (fb_211 _ _)
      · exact ((fb_197 _ _ _).tr (fb_211 _ _)).tr (fb_218 _)
    · exact fb_197 _ _ _
  rw [← em] at k7
  obtain ⟨a1, a2⟩ := h.act f1 fb k7
  refine ⟨?_, ?_, a1, a2⟩
  · unfold p_263; rw [e3]
    exact ⟨e1, fun _ => ⟨k2, fun z => ⟨k3 z, fun _ => trivial, k5 z⟩, fun _ => trivial⟩, fun _ => trivial⟩
  · unfold r_263; rw [if_pos e2, e3]; exact k6
theorem z_gcalls (h : z_Q n M) (hx : ¬ z_iu M x) : z_thr n M (p_263 x j y) (m_263 x j y) 1 := by
  obtain ⟨e1, e2, e3⟩ := h.o hx
  have e0 : ¬ r_235 x M = 0 := by rw [e2]; decide
  refine .th h ?_ ?_
  · unfold p_263; exact ⟨e1, fun z => absurd z e0, fun _ => trivial⟩
  · unfold m_263; rw [if_neg e0, e3]
theorem z_f_99 (h : z_Q n M) (hn : n ≤ 600) (hx : z_iu M x) : z_op n M (p_99 x y) (r_99 x y) (m_99 x y) (p_262 x y) (r_262 x y) (m_262 x y) := by
  obtain ⟨a1, a2, a3⟩ := z_fcalls (y := y) h hn hx (j := 1) (by simp)
  obtain ⟨b1, b2, b3, b4⟩ := a3 (m_99 x y M) rfl
  exact ⟨⟨z_p93 hx, a1, fun _ => trivial, a2⟩, b1, (by unfold r_99; rw [ite_self]; exact b2), b3, b4⟩
theorem z_f_100 (h : z_Q n M) (hn : n ≤ 600) (hx : z_iu M x) : z_op n M (p_100 x y) (r_100 x y) (m_100 x y) (p_264 x y) (r_264 x y) (m_264 x y) := by
  obtain ⟨a1, a2, a3⟩ := z_fcalls (y := y) h hn hx (j := 2) (by simp)
  obtain ⟨b1, b2, b3, b4⟩ := a3 (m_100 x y M) rfl
  exact ⟨⟨z_p93 hx, a1, fun _ => trivial, a2⟩, b1, (by unfold r_100; rw [ite_self]; exact b2), b3, b4⟩
theorem z_f_101 (h : z_Q n M) (hn : n ≤ 600) (hx : z_iu M x) : z_op n M (p_101 x y) (r_101 x y) (m_101 x y) (p_265 x y) (r_265 x y) (m_265 x y) := by
  obtain ⟨a1, a2, a3⟩ := z_fcalls (y := y) h hn hx (j := 3) (by simp)
  obtain ⟨b1, b2, b3, b4⟩ := a3 (m_101 x y M) rfl
  exact ⟨⟨z_p93 hx, a1, fun _ => trivial, a2⟩, b1, (by unfold r_101; rw [ite_self]; exact b2), b3, b4⟩
theorem z_g_262 (h : z_Q n M) (hx : ¬ z_iu M x) : z_thr n M (p_262 x y) (m_262 x y) 1 := z_gcalls h hx
theorem z_g_264 (h : z_Q n M) (hx : ¬ z_iu M x) : z_thr n M (p_264 x y) (m_264 x y) 1 := z_gcalls h hx
theorem z_g_265 (h : z_Q n M) (hx : ¬ z_iu M x) : z_thr n M (p_265 x y) (m_265 x y) 1 := z_gcalls h hx
end ZX1
