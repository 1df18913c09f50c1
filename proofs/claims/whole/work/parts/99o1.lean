/-! A WORLD COPIED, A ROW COPIED (by wip/whole/gen99o.py) -/
def z_l16 : List Nat := [65665, 82049, 98433, 114817, 131201, 147585, 180353, 196737, 213121, 229505, 245889, 327809, 360577, 376961, 426113, 442497, 491649, 508033, 524417, 540801]
/-- what is read of a world, within the lengths -/
def z_rqq (s r i : Nat) : Prop := (s ∈ z_l16 ∧ r = 0 ∧ i < 16) ∨ (s = 475265 ∧ r < 6 ∧ i < 16) ∨ (r = 0 ∧ ((s = 344085 ∧ i = 0) ∨ (s = 16413 ∧ (i = 3 ∨ i = 4 ∨ i = 18)) ∨ (s = 49197 ∧ i < 4) ∨ (s = 394241 ∧ i < 128) ∨ (s = 410881 ∧ i < 160) ∨ (s = 164993 ∧ i < 144) ∨ (s = 263585 ∧ i < 180)))
section ZY1
variable {k k' k2 c t B b u n s x : Nat} {M M' X Y m m' : ux_M} {F F' : Nat → Nat → Nat → Int32} {G G' : Nat → Nat → Int32} {D : Nat → Nat → Nat → Prop}
theorem z_q16 {i : Nat} (h : s ∈ z_l16) (hi : i < 16) : z_rqq s 0 i := .inl ⟨h, rfl, hi⟩
theorem z_CF.cg (h : z_CF c F G) (hc : c ≤ 16) (e : ∀ s r i, z_rqq s r i → 344085 ≤ s → F' s r i = F s r i) (g : ∀ a u, a < 28 → u < c → G' a u = G a u) : z_CF c F' G' := by
  refine ⟨fun u hu => ?_, fun u hu h16 => ?_⟩
  · have u16 : u < 16 := by omega
    obtain ⟨a1, a2, a3, a4, ⟨n, n1, n2, n3, n4⟩, a6, a7, a8, a9, a10, a11, a12, a13, a14, a15, a16, a17, a18, a19, a20, a21, a22, a23, a24, a25, a26, a27⟩ := h.1 u hu
    have e0 := fun s (hs : s ∈ z_l16) (hl : 344085 ≤ s) => e s 0 u (z_q16 hs u16) hl
    have g0 := fun a (ha : a < 28) => g a u ha hu
    rw [e0 360577 (by decide +kernel) (by omega), e0 376961 (by decide +kernel) (by omega), e0 426113 (by decide +kernel) (by omega), e0 442497 (by decide +kernel) (by omega), e0 491649 (by decide +kernel) (by omega), e0 508033 (by decide +kernel) (by omega), e0 524417 (by decide +kernel) (by omega), e0 540801 (by decide +kernel) (by omega)]
    rw [g0 0 (by omega), g0 1 (by omega), g0 20 (by omega), g0 21 (by omega), g0 10 (by omega), g0 11 (by omega), g0 12 (by omega), g0 13 (by omega), g0 14 (by omega), g0 15 (by omega), g0 16 (by omega), g0 17 (by omega), g0 18 (by omega), g0 19 (by omega), g0 22 (by omega), g0 24 (by omega), g0 26 (by omega)]
    refine ⟨a1, a2, a3, a4, ⟨n, n1, n2, n3, fun i hi => ?_⟩, fun i hi => ?_, fun r hr => ?_, a8, a9, a10, a11, a12, a13, a14, a15, a16, a17, a18, a19, fun q => ?_, a21, fun r hr v => ?_, a23, fun v hv => ?_, fun v hv => ?_, fun v hv => ?_, a27⟩
    · rw [e 394241 0 (u * 8 + i) (.inr (.inr ⟨rfl, by omega⟩)) (by omega), g0 (2 + i) (by omega)]; exact n4 i hi
    · rw [e 410881 0 (u * 10 + i) (.inr (.inr ⟨rfl, by omega⟩)) (by omega), g0 (10 + i) (by omega)]; exact a6 i hi
    · rw [e 475265 r u (.inr (.inl ⟨rfl, hr, u16⟩)) (by omega), g0 (22 + r) (by omega)]; exact a7 r hr
    · obtain ⟨s, h1, h2, h3⟩ := a20 q
      exact ⟨s, h1, h2, (g 0 s (by omega) h1).trans h3⟩
    · rw [g0 (22 + r) (by omega)]; exact a22 r hr v
    · rw [g 26 v (by omega) hv]; exact a24 v hv
    · rw [g 22 v (by omega) hv, g 24 v (by omega) hv, g 25 v (by omega) hv]; exact a25 v hv
    · rw [g 27 v (by omega) hv]; exact a26 v hv
  · obtain ⟨a1, a2, a3, a4, a5⟩ := h.2 u hu h16
    rw [e 491649 0 u (z_q16 (by decide +kernel) h16) (by omega), e 508033 0 u (z_q16 (by decide +kernel) h16) (by omega), e 524417 0 u (z_q16 (by decide +kernel) h16) (by omega), e 540801 0 u (z_q16 (by decide +kernel) h16) (by omega)]
    exact ⟨a1, a2, a3, a4, fun r hr => by rw [e 475265 r u (.inr (.inl ⟨rfl, hr, h16⟩)) (by omega)]; exact a5 r hr⟩
/-- CONGRUENCE within the lengths; the instance may be another one -/
theorem z_W.cg2 (h : z_W k c t B M m) (h1 : ∀ s r i, z_rqq s r i → M' k' s r i = M k s r i) (h2 : ∀ i, i < 1084 → m' 5 844257 0 i = m 5 844257 0 i) : z_W k' c t B M' m' := by
  obtain ⟨hH, hC, hD, hJ, hL, hT⟩ := h
  have hc := hH.1
  have hY : ∀ a u, a < 56 → u < c → z_Y m' a u = z_Y m a u := fun a u ha hu => h2 _ (by omega)
  refine ⟨?_, ?_, fun q hq u hu => ?_, fun u hu => ?_, ?_, fun u hu => ?_⟩
  · unfold z_H; rw [h1 344085 0 0 (.inr (.inr ⟨rfl, by omega⟩)), h1 16413 0 3 (.inr (.inr ⟨rfl, by omega⟩)), h2 _ (by omega), h2 _ (by omega)]; exact hH
  · refine z_CF.cg hC hc (fun s r i q hs => ?_) (fun a u ha hu => ?_)
    · show (if _ then _ else _) = (if _ then _ else _)
      split
      · exact h1 s r i q
      · rfl
    · show (if _ then _ else _) = (if _ then _ else _)
      split
      · exact hY a u (by omega) hu
      · contradiction
  · have q2 : ∀ p ∈ z_tab, p.2 ∈ z_l16 ∧ p.1 < 56 := by decide +kernel
    rw [hY _ _ (q2 q hq).2 hu, h1 _ _ _ (z_q16 (q2 q hq).1 (by omega))]; exact hD q hq u hu
  · obtain ⟨b1, b2, b3, b4, b5⟩ := hJ u hu
    rw [h1 49197 0 0 (.inr (.inr ⟨rfl, by omega⟩)), h1 49197 0 1 (.inr (.inr ⟨rfl, by omega⟩)), h1 49197 0 2 (.inr (.inr ⟨rfl, by omega⟩)), h1 49197 0 3 (.inr (.inr ⟨rfl, by omega⟩)), h1 16413 0 4 (.inr (.inr ⟨rfl, by omega⟩))]
    by_cases q : u < c
    · rw [hY 29 u (by omega) q, hY 30 u (by omega) q, hY 31 u (by omega) q]; exact ⟨b1, b2, b3, b4, b5⟩
    · simp only [q, decide_false, Bool.false_and] at b1 b2 b3 b4 b5 ⊢
      exact ⟨b1, b2, b3, b4, b5⟩
  · obtain ⟨L, l1, l2, l3, l4⟩ := hL
    refine ⟨L, l1, (h1 16413 0 18 (.inr (.inr ⟨rfl, by omega⟩))).trans l2, (h2 2 (by omega)).trans l3, fun i hi p hp => ?_⟩
    have := Nat.mod_lt ((if L < 60 then 0 else L) + i) (show 0 < 60 by omega)
    exact (h2 _ (by omega)).trans ((l4 i hi p hp).trans (h1 263585 0 _ (.inr (.inr ⟨rfl, by omega⟩))).symm)
  · obtain ⟨a, h3, h4, h5, h6⟩ := hT u hu
    refine ⟨a, h3, (hY 38 u (by omega) hu).trans h4, (hY 45 u (by omega) hu).trans h5, fun i hi => ?_⟩
    have := Nat.mod_lt (a - min a 9 + i) (show 0 < 9 by omega)
    exact (hY (46 + i) u (by omega) hu).trans ((h6 i hi).trans (h1 164993 0 _ (.inr (.inr ⟨rfl, by omega⟩))).symm)
theorem z_R.cg2 (h : z_R x b k c t B M m) (h1 : ∀ s r i, z_rqq s r i → M' k' s r i = M k s r i) (h2 : ∀ i, i < 1084 → m' 5 844257 0 i = m 5 844257 0 i) : z_R x b k' c t B M' m' := by
  have hc := h.1.le
  refine ⟨h.1.cg2 h1 h2, fun u hu => ?_⟩
  have e : z_A m' u = z_A m u := by
    funext a; unfold z_A z_Y
    split
    · exact h2 _ (by omega)
    · rfl
  rw [e]; exact h.2 u hu
theorem z_219d {t' B' : Nat} (h : z_W k c t B M m) (h' : z_W k' c t' B' M' m') (e : ∀ i, 188 ≤ i → i < 1084 → m' 5 844257 0 i = m 5 844257 0 i) (hs : z_stable c m) : z_stable c m' := fun u hu => by
  have hc := h.le
  have h16 := h.u16 hu
  have eY : ∀ a u, a < 56 → u < c → z_Y m' a u = z_Y m a u := fun a u ha hu => e _ (by omega) (by omega)
  have e220 : r_220 (nI u) m' = r_220 (nI u) m := by
    refine b_ext (fun w hw => ?_)
    rw [z_r220 h' hu hw, z_r220 h hu hw]
    by_cases q : w < c
    · rw [eY 29 w (by omega) q, eY 29 u (by omega) hu]
      unfold z_pc; rw [eY 27 w (by omega) q, eY 27 u (by omega) hu]
    · simp [q]
  unfold z_sb
  rw [eY 29 u (by omega) hu, eY 30 u (by omega) hu]
  have e : r_219 (nI u) m' = r_219 (nI u) m := by
    unfold r_219 r_219_24; rw [of29 _ h16, of29 _ h16, of28 _ h16, of28 _ h16, eY 29 u (by omega) hu, eY 28 u (by omega) hu, e220]
  rw [e]; exact hs u hu
theorem z_ST.cg2 (h : z_ST k n M m) (h1 : ∀ s r i, z_rqq s r i → M' k' s r i = M k s r i) (h2 : ∀ i, i < 1084 → m' 5 844257 0 i = m 5 844257 0 i) : z_ST k' n M' m' := by
  obtain ⟨c, t, B, ht, hB, hR, hs⟩ := h
  have hR' : z_R 99 16 k' c t B M' m' := hR.cg2 h1 h2
  exact ⟨c, t, B, ht, hB, hR', z_219d hR.1 hR'.1 (fun i _ hi => h2 i hi) hs⟩
end ZY1
