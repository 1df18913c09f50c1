/-! events, ticks, letting time pass -/
section ZT
variable {k c t B B' u v a b b' t' s x n : Nat} {M m M' m' m'' : ux_M}
/-- a time at which something is due for a unit, if nothing happens before -/
def z_cand (m : ux_M) (u x : Nat) : Prop := (z_Y m 28 u = 1 ∧ z_Y m 34 u + z_Y m 10 u = nI x) ∨ (z_Y m 28 u = 3 ∧ z_Y m 34 u + z_Y m 11 u = nI x)
  ∨ (z_Y m 28 u = 5 ∧ z_Y m 34 u + z_Y m 16 u = nI x ∧ z_Y m 35 u = nI x)
  ∨ (z_Y m 28 u = 2 ∧ z_Y m 0 u = 0 ∧ ¬ z_Y m 12 u = 0 ∧ z_Y m 34 u + z_Y m 12 u = nI x) ∨ (z_Y m 28 u = 2 ∧ z_Y m 0 u = 0 ∧ ¬ z_Y m 19 u = 0 ∧ z_Y m 37 u + z_Y m 19 u = nI x)
theorem z_Dtr (h : z_Du b t u (z_A m u)) (hc : ∀ x, x ≤ 1005000 → z_cand m u x → z_dl b t u x → z_dl b' t' u x) (hn : ∀ x, ¬ z_dl b t u x → ¬ z_dl b' t' u x) : z_Du b' t' u (z_A m u) := by
  obtain ⟨D0, D1, D3, D5, D2⟩ := h
  simp only [z_AY _ _ (show 28 < 56 by omega), z_AY _ _ (show 35 < 56 by omega), z_AY _ _ (show 0 < 56 by omega), z_AY _ _ (show 34 < 56 by omega), z_AY _ _ (show 10 < 56 by omega), z_AY _ _ (show 11 < 56 by omega), z_AY _ _ (show 16 < 56 by omega), z_AY _ _ (show 36 < 56 by omega), z_AY _ _ (show 12 < 56 by omega), z_AY _ _ (show 19 < 56 by omega), z_AY _ _ (show 37 < 56 by omega)] at D0 D1 D3 D5 D2
  unfold z_Du
  simp only [z_AY _ _ (show 28 < 56 by omega), z_AY _ _ (show 35 < 56 by omega), z_AY _ _ (show 0 < 56 by omega), z_AY _ _ (show 34 < 56 by omega), z_AY _ _ (show 10 < 56 by omega), z_AY _ _ (show 11 < 56 by omega), z_AY _ _ (show 16 < 56 by omega), z_AY _ _ (show 36 < 56 by omega), z_AY _ _ (show 12 < 56 by omega), z_AY _ _ (show 19 < 56 by omega), z_AY _ _ (show 37 < 56 by omega)]
  refine ⟨D0, fun q => ?_, fun q => ?_, fun q => ?_, fun q => ?_⟩
  · obtain ⟨h1, h2, x, h3, h4, h5⟩ := D1 q
    exact ⟨h1, h2, x, h3, hc x h5 (Or.inl ⟨q, h3⟩) h4, h5⟩
  · obtain ⟨h1, h2, x, h3, h4, h5⟩ := D3 q
    exact ⟨h1, h2, x, h3, hc x h5 (Or.inr (Or.inl ⟨q, h3⟩)) h4, h5⟩
  · obtain ⟨h1, x, h3, h5, h4⟩ := D5 q
    refine ⟨h1, x, h3, h5, ?_⟩
    rcases h4 with ⟨h6, h7⟩ | ⟨h6, h7⟩
    · exact Or.inl ⟨h6, hc x h5 (Or.inr (Or.inr (Or.inl ⟨q, h3, h6⟩))) h7⟩
    · exact Or.inr ⟨h6, hn x h7⟩
  · obtain ⟨h1, h2⟩ := D2 q
    refine ⟨h1, fun k0 => ?_⟩
    obtain ⟨h3, h4, h5⟩ := h2 k0
    refine ⟨h3, fun z => ?_, fun z => ?_⟩
    · obtain ⟨x, h6, h7, h8⟩ := h4 z
      exact ⟨x, h6, hc x h8 (Or.inr (Or.inr (Or.inr (Or.inl ⟨q, k0, z, h6⟩)))) h7, h8⟩
    · obtain ⟨x, h6, h7, h8⟩ := h5 z
      exact ⟨x, h6, hc x h8 (Or.inr (Or.inr (Or.inr (Or.inr ⟨q, k0, z, h6⟩)))) h7, h8⟩
/-- what is due comes no later than any such time -/
theorem z_cmin (h : z_R 99 b k c t B M m) (hu : u < c) (hx : x ≤ 1005000) (hc : z_cand m u x) : ∃ y, r_178 (nI u) m = nI y ∧ y ≤ x := by
  have h16 := h.1.u16 hu
  have hcc := h.1.le
  obtain ⟨hBu, hDu⟩ := h.2 u hu
  obtain ⟨D0, D1, D3, D5, D2⟩ := hDu (by omega)
  simp only [z_AY _ _ (show 28 < 56 by omega), z_AY _ _ (show 35 < 56 by omega), z_AY _ _ (show 0 < 56 by omega), z_AY _ _ (show 34 < 56 by omega), z_AY _ _ (show 10 < 56 by omega), z_AY _ _ (show 11 < 56 by omega), z_AY _ _ (show 16 < 56 by omega), z_AY _ _ (show 36 < 56 by omega), z_AY _ _ (show 12 < 56 by omega), z_AY _ _ (show 19 < 56 by omega), z_AY _ _ (show 37 < 56 by omega)] at D0 D1 D3 D5 D2
  obtain ⟨_, _, ⟨n12, hn12, e12⟩, _, _, _, _, _, _, ⟨n19, hn19, e19⟩⟩ := h.1.rng hu
  unfold r_178
  simp only [of28 _ h16, of0 _ h16, of35 _ h16, of12 _ h16, of36 _ h16]
  have two : z_Y m 28 u = 2 → z_Y m 0 u = 0 → (¬ n12 = 0 ∧ z_Y m 34 u + nI n12 = nI x) ∨ (¬ n19 = 0 ∧ z_Y m 37 u + nI n19 = nI x) → ∃ y, (if z_Y m 12 u ≤ 0 then r_178_59 (nI u) 2147483647 m else r_178_59 (nI u) (z_Y m 36 u + z_Y m 12 u) m) = nI y ∧ y ≤ x := fun q k0 hcd => by
    obtain ⟨e35, hk⟩ := D2 q
    obtain ⟨e36, hr, hi⟩ := hk k0
    rw [e36, e12]
    unfold r_178_59 r_178_91
    simp only [of19 _ h16, of37 _ h16, e19, z_pos (show n12 < 2000000000 by omega), z_pos (show n19 < 2000000000 by omega)]
    by_cases r0 : n12 = 0
    · have hcd2 := hcd.resolve_left (fun z => z.1 r0)
      have lt2 : ¬ (2147483647 : Int32) < nI x := fun z => by have := (nI_ltI (a := 2147483647) (b := x) (by omega) (by omega)).mp z; omega
      simp only [r0, hcd2.1, hcd2.2, if_true, if_false, lt2, z_mx (show x < 2000000000 by omega)]
      exact ⟨x, rfl, Nat.le_refl _⟩
    · obtain ⟨x1, ex1, hl1, hx1⟩ := hr (by rw [e12]; exact fun z => r0 ((z_e0 (by omega)).mp z))
      rw [e12] at ex1
      by_cases i0 : n19 = 0
      · have hcd2 := hcd.resolve_right (fun z => z.1 i0)
        have lt : nI x < (2147483647 : Int32) := (nI_ltI (a := x) (b := 2147483647) (by omega) (by omega)).mpr (by omega)
        simp only [r0, i0, hcd2.2, if_true, if_false, lt, z_mx (show x < 2000000000 by omega)]
        exact ⟨x, rfl, Nat.le_refl _⟩
      · obtain ⟨x2, ex2, hl2, hx2⟩ := hi (by rw [e19]; exact fun z => i0 ((z_e0 (by omega)).mp z))
        rw [e19] at ex2
        have cx : x1 = x ∨ x2 = x := by
          rcases hcd with z | z
          · exact Or.inl ((z_eq (by omega) (by omega)).mp (ex1.symm.trans z.2))
          · exact Or.inr ((z_eq (by omega) (by omega)).mp (ex2.symm.trans z.2))
        simp only [r0, i0, ex1, ex2, if_false, z_lt (show x1 < 2000000000 by omega) (show x2 < 2000000000 by omega)]
        by_cases xy : x1 < x2
        · simp only [xy, if_true, z_mx (show x1 < 2000000000 by omega), if_false]; exact ⟨x1, rfl, by omega⟩
        · simp only [xy, if_false, z_mx (show x2 < 2000000000 by omega)]; exact ⟨x2, rfl, by omega⟩
  rcases hc with ⟨q, e⟩ | ⟨q, e⟩ | ⟨q, e, e'⟩ | ⟨q, k0, z, e⟩ | ⟨q, k0, z, e⟩
  · obtain ⟨k0, e35, _⟩ := D1 q
    simp only [q, zn_12, if_false]; rw [e35, e]; exact ⟨x, rfl, Nat.le_refl _⟩
  · obtain ⟨k0, e35, _⟩ := D3 q
    simp only [q, zn_32, if_false]; rw [e35, e]; exact ⟨x, rfl, Nat.le_refl _⟩
  · simp only [q, zn_52, if_false]; rw [e']; exact ⟨x, rfl, Nat.le_refl _⟩
  · rw [e12] at z e
    simp only [q, k0, if_true]
    exact two q k0 (Or.inl ⟨fun y => z ((z_e0 (by omega)).mpr y), e⟩)
  · rw [e19] at z e
    simp only [q, k0, if_true]
    exact two q k0 (Or.inr ⟨fun y => z ((z_e0 (by omega)).mpr y), e⟩)
/-- the unit visited: the others stand as before -/
theorem z_R.vis (h : z_R 99 u k c t B M m) : z_R u (u + 1) k c t B M m := by
  refine ⟨h.1, fun w hw => ⟨(h.2 w hw).1, fun q => ?_⟩⟩
  have hc := h.1.le
  exact z_Dtr ((h.2 w hw).2 (by omega)) (fun x _ _ z => by unfold z_dl at z ⊢; omega) (fun x z => by unfold z_dl at z ⊢; omega)
theorem z_R.nvis (h : z_R 99 u k c t B M m) (hd : ¬ r_178 (nI u) m = nI t) : z_R 99 (u + 1) k c t B M m := by
  refine ⟨h.1, fun w hw => ⟨(h.2 w hw).1, fun q => ?_⟩⟩
  have hc := h.1.le
  by_cases e : w = u
  · subst e
    refine z_Dtr ((h.2 w hw).2 (by omega)) (fun x hx hcd z => ?_) (fun x z => by unfold z_dl at z ⊢; omega)
    obtain ⟨y, ey, hy⟩ := z_cmin h hw hx hcd
    obtain ⟨_, _, _, h4⟩ := z_due h hw
    have : ¬ y = t := fun z => hd (by rw [ey, z])
    rcases h4 with h4 | ⟨y', e', hl, hy'⟩
    · rw [ey] at h4; exact absurd h4 (z_nm1 (by omega))
    · have : y = y' := (z_eq (by omega) (by omega)).mp (ey.symm.trans e')
      subst this
      unfold z_dl at hl z ⊢; omega
  · exact z_Dtr ((h.2 w hw).2 (by omega)) (fun x _ _ z => by unfold z_dl at z ⊢; omega) (fun x z => by unfold z_dl at z ⊢; omega)
/-- AN EVENT -/
theorem z_R.hap (hTX : z_TX k c) (hBC : z_BC) (h : z_R 99 u k c t B M m) (hB : B < 2000000000) (hu : u < c) (hd : r_178 (nI u) m = nI t) : p_51 k (nI u) M ∧ p_180 (nI u) m ∧ z_R 99 (u + 1) k c t B (m_51 k (nI u) M) (m_180 (nI u) m) := by
  have h16 := h.1.u16 hu
  have hc := h.1.le
  have tl := h.1.tl
  have hx := h.vis
  obtain ⟨hBu, hDu⟩ := h.2 u hu
  obtain ⟨D0, D1, D3, D5, D2⟩ := hDu (by omega)
  simp only [z_AY _ _ (show 28 < 56 by omega), z_AY _ _ (show 35 < 56 by omega), z_AY _ _ (show 0 < 56 by omega), z_AY _ _ (show 34 < 56 by omega), z_AY _ _ (show 10 < 56 by omega), z_AY _ _ (show 11 < 56 by omega), z_AY _ _ (show 16 < 56 by omega), z_AY _ _ (show 36 < 56 by omega), z_AY _ _ (show 12 < 56 by omega), z_AY _ _ (show 19 < 56 by omega), z_AY _ _ (show 37 < 56 by omega)] at D0 D1 D3 D5 D2
  have dueN : ¬ z_Y m 28 u = 2 → z_Y m 35 u = nI t := fun q => by
    rw [← hd]; unfold r_178; rw [of28 _ h16, of35 _ h16, if_neg q]
  have nm : ¬ nI t = -1 := z_nm1 (by omega)
  unfold p_51 m_51 p_180 m_180
  simp only [z_cl h16, h.1.d28 hu, h.1.d34 hu, h.1.nw, of28 _ h16, of12 _ h16, of36 _ h16, of13 _ h16, z_c0, h.1.now]
  rcases h.2.st hu with q | q | q | q | q | q
  · exact absurd ((dueN (by rw [q]; decide)).symm.trans (D0 (Or.inl q))) nm
  · obtain ⟨k0, _⟩ := D1 q
    obtain ⟨f1, f2, f3, _⟩ := hx.ea hB (Or.inl rfl) hu q (Or.inl k0) (fun _ => Or.inr trivial)
    simp only [q, if_true, not_true_eq_false, true_implies, false_implies, true_and, and_true]
    exact ⟨⟨z_i16 h16, f1⟩, ⟨uu28 h16, f2⟩, f3⟩
  · obtain ⟨e35, hk⟩ := D2 q
    have k0 : z_Y m 0 u = 0 := Classical.byContradiction (fun z => by
      have : r_178 (nI u) m = -1 := by unfold r_178; rw [of28 _ h16, of0 _ h16, of35 _ h16, if_pos q, if_neg z, e35]
      exact nm (hd.symm.trans this))
    obtain ⟨e36, _, _⟩ := hk k0
    obtain ⟨q1, q2⟩ := h.1.q2 hu
    obtain ⟨q3, q4⟩ := h.1.q3 hu
    rw [if_pos k0] at q2 q4
    obtain ⟨_, _, ⟨n12, hn12, e12⟩, _⟩ := h.1.rng hu
    -- going idle
    have y28 : z_Y (z_P m 32 u 0) 28 u = 2 := by rw [z_up1 _ _ _ _ (by omega) (by omega) (by omega)]; exact q
    obtain ⟨i1, i2, i3, i4, i5⟩ := (hx.w32 hu 0).le (Or.inl rfl) hu (Or.inr y28) 0 0 (fun z => absurd rfl z)
    obtain ⟨i6, i7⟩ := i5 y28
    obtain ⟨s1, s2, s3⟩ := i2.sb hTX hBC hu
    have c62 : p_62 k (nI u) M ∧ m_62 k (nI u) M = m_59_48 k (nI u) 0 0 (ux_set M k 98433 0 u 0) := by
      unfold p_59_48 p_59_79 at i1
      unfold p_62 m_62 m_59_48 m_59_79
      simp only [z_cl h16, forall_eq, if_true]
      exact ⟨⟨z_i16 h16, i1.1, (i1.2.1 rfl).2 rfl⟩, trivial⟩
    have r216 : p_216 (nI u) m ∧ m_216 (nI u) m = m_196 (nI u) (z_lv (z_P m 32 u 0) u t 0 0) := by
      unfold p_216 m_216
      simp only [pu32 _ _ h16, forall_eq]
      exact ⟨⟨uu32 h16, i6 s2⟩, i7⟩
    have idle : p_62 k (nI u) M ∧ p_63 k (nI u) (m_62 k (nI u) M) ∧ p_216 (nI u) m ∧ z_R 99 (u + 1) k c t B (m_63 k (nI u) (m_62 k (nI u) M)) (m_216 (nI u) m) := by
      rw [c62.2, r216.2]; exact ⟨c62.1, s1, r216.1, s3⟩
    -- an exit
    obtain ⟨x1, x2, x3, x4, x5⟩ := hx.ext (Or.inl rfl) hu (Or.inr q) (z_Y m 13 u)
    obtain ⟨x6, x7⟩ := x5 q
    obtain ⟨w1, w2, w3⟩ := x2.sb hTX hBC hu
    have exit : p_59 k (nI u) (z_Y m 13 u) M ∧ p_63 k (nI u) (m_59 k (nI u) (z_Y m 13 u) M) ∧ p_193 (nI u) (z_Y m 13 u) m ∧ z_R 99 (u + 1) k c t B (m_63 k (nI u) (m_59 k (nI u) (z_Y m 13 u) M)) (m_193 (nI u) (z_Y m 13 u) m) := by
      rw [x7]; exact ⟨x1, w1, x6 w2, w3⟩
    simp only [q, q2, q4, e36, e12, zn_21, z_e0 (show n12 < 2000000000 by omega), z_pos (show n12 < 2000000000 by omega), if_true, if_false, not_true_eq_false, not_false_eq_true, true_implies, false_implies, true_and, and_true]
    by_cases r0 : n12 = 0
    · simp only [r0, if_true, not_true_eq_false, true_implies, false_implies, true_and, and_true]
      exact ⟨⟨z_i16 h16, q1, idle.1, idle.2.1⟩, ⟨uu28 h16, uu12 h16, idle.2.2.1⟩, idle.2.2.2⟩
    · simp only [r0, if_false, not_false_eq_true, true_implies, false_implies, true_and, and_true]
      by_cases et : z_Y m 34 u + nI n12 = nI t
      · simp only [et, if_true, not_true_eq_false, true_implies, false_implies, true_and, and_true]
        exact ⟨⟨z_i16 h16, q1, z_i16 h16, q3, exit.1, exit.2.1⟩, ⟨uu28 h16, uu12 h16, uu36 h16, uu12 h16, z_v0, uu13 h16, exit.2.2.1⟩, exit.2.2.2⟩
      · simp only [et, if_false, not_false_eq_true, true_implies, false_implies, true_and, and_true]
        exact ⟨⟨z_i16 h16, q1, z_i16 h16, idle.1, idle.2.1⟩, ⟨uu28 h16, uu12 h16, uu36 h16, uu12 h16, z_v0, idle.2.2.1⟩, idle.2.2.2⟩
  · obtain ⟨f1, f2, f3⟩ := hx.es (Or.inl rfl) hu (by rw [q]; decide) 99
    simp only [q, zn_31, zn_32, if_true, if_false, not_true_eq_false, not_false_eq_true, true_implies, false_implies, true_and, and_true]
    exact ⟨⟨z_i16 h16, f1⟩, ⟨uu28 h16, f2⟩, f3⟩
  · exact absurd ((dueN (by rw [q]; decide)).symm.trans (D0 (Or.inr q))) nm
  · obtain ⟨k0, x, ex, hx5, hd5⟩ := D5 q
    have e35 := dueN (by rw [q]; decide)
    have xt : x = t := by
      rcases hd5 with ⟨z, _⟩ | ⟨z, _⟩
      · exact (z_eq (by omega) (by omega)).mp (z.symm.trans e35)
      · exact absurd (e35.symm.trans z) nm
    subst xt
    have h1 : z_R 99 (u + 1) k c x B M (z_P m 35 u (-1)) := by
      refine hx.du hu _ 99 (-1) rfl ?_
      unfold z_Du
      rw [z_upn (show ¬ 28 = 35 by decide), z_upn (show ¬ 34 = 35 by decide), z_upn (show ¬ 16 = 35 by decide), z_upn (show ¬ 0 = 35 by decide), z_upe]
      simp only [z_AY _ _ (show 28 < 56 by omega), z_AY _ _ (show 0 < 56 by omega), z_AY _ _ (show 34 < 56 by omega), z_AY _ _ (show 16 < 56 by omega), q, k0, ex]
      exact ⟨fun z => absurd z (by decide), fun z => absurd z (by decide), fun z => absurd z (by decide), fun _ => ⟨trivial, x, rfl, hx5, Or.inr ⟨trivial, by unfold z_dl; omega⟩⟩, fun z => absurd z (by decide)⟩
    have y29 : z_Y (z_P m 35 u (-1)) 29 u = z_Y m 29 u := z_up1 _ _ _ _ (by omega) (by omega) (by omega)
    have h2 := h1.put hu 1 (by simp)
    have e40 : m_76 k (nI u) 1 M k 196737 0 u = z_Y (z_P (z_P (z_P m 35 u (-1)) 29 u 1) 30 u 0) 40 u := h2.1.d40 hu
    have h3 := h2.wr (a := 40) (s := 196737) (List.mem_of_getElem? (i := 7) rfl) (by omega) hu (z_Y (z_P (z_P (z_P m 35 u (-1)) 29 u 1) 30 u 0) 40 u + 1)
    have e53 := h.1.ty h.2 hu
    simp only [q, zn_51, zn_52, zn_53, if_true, if_false, not_true_eq_false, not_false_eq_true, true_implies, false_implies, true_and, and_true]
    unfold p_77 m_77 p_217 m_217
    simp only [z_cl h16, e53, forall_eq, pu35 _ _ h16, of29 _ h16, y29, pu29 _ _ h16, pu30 _ _ h16, of40 _ h16, pu40 _ _ h16, e40]
    by_cases j0 : z_Y m 29 u = 0
    · simp only [j0, if_true, not_true_eq_false, true_implies, false_implies, true_and, and_true]
      exact ⟨⟨z_i16 h16, z_W.pty M k (nI u), z_pput M k (nI u) 1, z_i16 h16, z_i16 h16⟩, ⟨uu28 h16, uu35 h16, uu29 h16, uu29 h16, uu30 h16, uu40 h16⟩, h3⟩
    · simp only [j0, if_false, not_false_eq_true, true_implies, false_implies, true_and, and_true]
      exact ⟨⟨z_i16 h16, z_W.pty M k (nI u)⟩, ⟨uu28 h16, uu35 h16, uu29 h16⟩, h1⟩
end ZT
