/-! the essential jobs: rounds -/
section ZA2
variable {k c u : Nat} {M : ux_M}
theorem z_pop.mono {x y : Int32} (h : z_sub x y) : ∀ n, n ≤ 32 → z_pop x n ≤ z_pop y n
  | 0, _ => Nat.le_refl _
  | n + 1, hn => by
    have := z_pop.mono h n (by omega)
    unfold z_pop
    cases e : bt x n
    · simp only [Bool.false_eq_true, if_false]; omega
    · rw [h n (by omega) e]; simp only [if_true]; omega
theorem z_pop_lt {x y : Int32} (h : z_sub x y) {v : Nat} (hx : bt x v = false) (hy : bt y v = true) : ∀ n, n ≤ 32 → v < n → z_pop x n < z_pop y n
  | 0, _, z => absurd z (by omega)
  | n + 1, hn, z => by
    have m := z_pop.mono h n (by omega)
    unfold z_pop
    by_cases q : v = n
    · subst q; rw [hx, hy]; simp only [Bool.false_eq_true, if_false, if_true]; omega
    · have := z_pop_lt h hx hy n (by omega) (by omega)
      cases e : bt x n
      · simp only [Bool.false_eq_true, if_false]; omega
      · rw [h n (by omega) e]; simp only [if_true]; omega
theorem z_sub_ne {x y : Int32} (h : z_sub x y) (hne : ¬ y = x) : ∃ v, v < 32 ∧ bt x v = false ∧ bt y v = true := by
  apply Classical.byContradiction
  intro q
  refine hne (b_ext (fun i hi => ?_))
  cases e : bt x i
  · cases e2 : bt y i
    · rfl
    · exact absurd ⟨i, hi, e, e2⟩ q
  · exact h i hi e
/-- kept by all that is pulled -/
def z_clo (N O F : Nat → Int32) (al : Int32) (P1 P3 P2 : Nat → Prop) : Prop :=
  (∀ i, i < 16 → P1 i → ∀ v, v < 32 → (bt (N i) v = true → P1 v) ∧ (bt (O i) v = true → P2 v)) ∧ (∀ i, i < 16 → P3 i → ∀ v, v < 32 → bt (F i) v = true → bt al v = true → P3 v)
  ∧ (∀ v, P3 v → P1 v) ∧ (∀ i, i < 16 → P2 i → ∀ v, v < 32 → bt (F i) v = true → P2 v)
def z_in3 (g : Nat → Int32) (P1 P3 P2 : Nat → Prop) : Prop := (∀ v, v < 32 → bt (g 0) v = true → P1 v) ∧ (∀ v, v < 32 → bt (g 1) v = true → P3 v) ∧ (∀ v, v < 32 → bt (g 2) v = true → P2 v)
theorem z_s66 (N O F : Nat → Int32) (al : Int32) : ∀ (n i : Nat) (g : Nat → Int32), i + n ≤ 16 → z_gle g (z_g66s N O F al n i g) ∧ (∀ a, 3 ≤ a → z_g66s N O F al n i g a = g a)
    ∧ (∀ P1 P3 P2, z_clo N O F al P1 P3 P2 → z_in3 g P1 P3 P2 → z_in3 (z_g66s N O F al n i g) P1 P3 P2)
    ∧ (z_gle (z_g66s N O F al n i g) g → ∀ q, i ≤ q → q < i + n → (bt (g 0) q = true → z_sub (N q) (g 0) ∧ z_sub (O q) (g 2)) ∧ (bt (g 1) q = true → z_sub (F q &&& al) (g 1)) ∧ (bt (g 2) q = true → z_sub (F q) (g 2)))
  | 0, i, g, _ => ⟨z_gle.rf, fun _ _ => rfl, fun _ _ _ _ h => h, fun _ q h1 h2 => absurd h2 (by omega)⟩
  | n + 1, i, g, hi => by
    obtain ⟨a1, a2, a3, a4, a5⟩ := z_g66_i N O F al i g
    obtain ⟨b1, b2, b3, b4⟩ := z_s66 N O F al n (i + 1) (z_g66 N O F al i g) (by omega)
    rw [z_g66s]
    refine ⟨a1.tr b1, fun a ha => (b2 a ha).trans (a5 a ha), fun P1 P3 P2 hc hg => ?_, fun hle q h1 h2 => ?_⟩
    · obtain ⟨c1, c2, c3, c4⟩ := hc
      refine b3 P1 P3 P2 ⟨c1, c2, c3, c4⟩ ?_
      exact z_g66_p N O F al i g P1 P3 P2 hg.1 hg.2.1 hg.2.2 (by omega) (fun p v hv => (c1 i (by omega) p v hv).1) (fun p v hv => (c1 i (by omega) p v hv).2) (c2 i (by omega)) c3 (c4 i (by omega))
    · have hh : z_gle (z_g66 N O F al i g) g := b1.tr hle
      have e0 : z_g66 N O F al i g 0 = g 0 := hh.1.eq a1.1
      have e1 : z_g66 N O F al i g 1 = g 1 := hh.2.1.eq a1.2.1
      have e2 : z_g66 N O F al i g 2 = g 2 := hh.2.2.eq a1.2.2
      by_cases q0 : q = i
      · subst q0
        rw [e0, e2] at a2; rw [e1] at a3; rw [e2] at a4
        exact ⟨a2, a3, a4⟩
      · have := b4 (hle.tr a1) q (by omega) (by omega)
        rw [e0, e1, e2] at this; exact this
def z_bits (g : Nat → Int32) : Nat := z_pop (g 0) 16 + z_pop (g 1) 16 + z_pop (g 2) 16
theorem z_bits.le (g : Nat → Int32) : z_bits g ≤ 48 := by
  have := z_pop.le (g 0) 16; have := z_pop.le (g 1) 16; have := z_pop.le (g 2) 16
  unfold z_bits; omega
/-- what the end has: closed, and in everything that is closed -/
def z_end66 (N O F : Nat → Int32) (al : Int32) (g g' : Nat → Int32) : Prop := z_gle g g' ∧ (∀ a, 3 ≤ a → g' a = g a) ∧ (∀ P1 P3 P2, z_clo N O F al P1 P3 P2 → z_in3 g P1 P3 P2 → z_in3 g' P1 P3 P2)
  ∧ ∀ q, q < 16 → (bt (g' 0) q = true → z_sub (N q) (g' 0) ∧ z_sub (O q) (g' 2)) ∧ (bt (g' 1) q = true → z_sub (F q &&& al) (g' 1)) ∧ (bt (g' 2) q = true → z_sub (F q) (g' 2))
theorem z_51l (M : ux_M) (k : Nat) (al : Int32) (hz : ∀ i, i < 16 → ∀ v, 16 ≤ v → v < 32 → bt (M k 491649 0 i) v = false ∧ bt (M k 508033 0 i) v = false ∧ bt (M k 524417 0 i) v = false) :
    ∀ (d f r : Nat) (g : Nat → Int32), 48 ≤ z_bits g + d → r + d ≤ 48 → d < f → z_in3 g (fun v => v < 16) (fun v => v < 16) (fun v => v < 16) →
    p_66_51 f k al (nI r) (z_wt3 M k g) ∧ ∃ g', m_66_51 f k al (nI r) (z_wt3 M k g) = z_wt3 M k (z_up (z_up g' 3 (g' 0)) 4 (g' 2)) ∧ z_end66 (M k 491649 0) (M k 508033 0) (M k 524417 0) al g g' := by
  intro d
  induction d with
  | zero =>
    intro f r g hd hr hf hg
    obtain ⟨f, rfl⟩ : ∃ z, f = z + 1 := ⟨f - 1, by omega⟩
    obtain ⟨s1, s2, s3, s4⟩ := z_s66 (M k 491649 0) (M k 508033 0) (M k 524417 0) al 16 0 g (by omega)
    have n48 : ¬ (48 : Int32) < nI r := fun z => by have := (z_lt (a := 48) (by omega) (by omega)).mp z; omega
    obtain ⟨l1, l2⟩ := z_66l M k (p_66_51 f) (m_66_51 f) al (nI r) (g 0) (g 1) (g 2) 16 ux_fuel 0 g _ (by omega) (by have := z_fuel; omega) rfl
    have full : ∀ x y : Int32, z_sub x y → z_pop x 16 = 16 → (∀ v, v < 32 → bt y v = true → v < 16) → y = x := fun x y h hp hb => by
      apply Classical.byContradiction
      intro ne
      obtain ⟨v, hv, e1, e2⟩ := z_sub_ne h ne
      have := z_pop_lt h e1 e2 16 (by omega) (hb v hv e2)
      have := z_pop.le y 16
      omega
    have p0 := z_pop.le (g 0) 16
    have p1 := z_pop.le (g 1) 16
    have p2 := z_pop.le (g 2) 16
    unfold z_bits at hd
    have lt16 := s3 (fun v => v < 16) (fun v => v < 16) (fun v => v < 16) ⟨fun i _ _ v hv => ⟨fun q => Classical.byContradiction (fun z => by rw [(hz i (by assumption) v (by omega) hv).1] at q; cases q), fun q => Classical.byContradiction (fun z => by rw [(hz i (by assumption) v (by omega) hv).2.1] at q; cases q)⟩, fun i hi _ v hv q _ => Classical.byContradiction (fun z => by rw [(hz i hi v (by omega) hv).2.2] at q; cases q), fun _ h => h, fun i hi _ v hv q => Classical.byContradiction (fun z => by rw [(hz i hi v (by omega) hv).2.2] at q; cases q)⟩ hg
    have e0 := full _ _ s1.1 (by omega) lt16.1
    have e1 := full _ _ s1.2.1 (by omega) lt16.2.1
    have e2 := full _ _ s1.2.2 (by omega) lt16.2.2
    rw [p_66_51, m_66_51, if_neg n48]
    simp only [z_wt3_g]
    refine ⟨⟨fun z => absurd z n48, fun _ => l1 (fun z => absurd ⟨e0, e1, e2⟩ z)⟩, _, l2.trans (if_pos ⟨e0, e1, e2⟩), s1, s2, s3, fun q hq => ?_⟩
    have := s4 ⟨by rw [e0]; exact z_sub.rf, by rw [e1]; exact z_sub.rf, by rw [e2]; exact z_sub.rf⟩ q (by omega) (by omega)
    rw [e0, e1, e2]; exact this
  | succ d ih =>
    intro f r g hd hr hf hg
    obtain ⟨f, rfl⟩ : ∃ z, f = z + 1 := ⟨f - 1, by omega⟩
    obtain ⟨s1, s2, s3, s4⟩ := z_s66 (M k 491649 0) (M k 508033 0) (M k 524417 0) al 16 0 g (by omega)
    have n48 : ¬ (48 : Int32) < nI r := fun z => by have := (z_lt (a := 48) (by omega) (by omega)).mp z; omega
    obtain ⟨l1, l2⟩ := z_66l M k (p_66_51 f) (m_66_51 f) al (nI r) (g 0) (g 1) (g 2) 16 ux_fuel 0 g _ (by omega) (by have := z_fuel; omega) rfl
    have lt16 := s3 (fun v => v < 16) (fun v => v < 16) (fun v => v < 16) ⟨fun i _ _ v hv => ⟨fun q => Classical.byContradiction (fun z => by rw [(hz i (by assumption) v (by omega) hv).1] at q; cases q), fun q => Classical.byContradiction (fun z => by rw [(hz i (by assumption) v (by omega) hv).2.1] at q; cases q)⟩, fun i hi _ v hv q _ => Classical.byContradiction (fun z => by rw [(hz i hi v (by omega) hv).2.2] at q; cases q), fun _ h => h, fun i hi _ v hv q => Classical.byContradiction (fun z => by rw [(hz i hi v (by omega) hv).2.2] at q; cases q)⟩ hg
    rw [p_66_51, m_66_51, if_neg n48]
    simp only [z_wt3_g]
    by_cases eq : z_g66s (M k 491649 0) (M k 508033 0) (M k 524417 0) al 16 0 g 0 = g 0 ∧ z_g66s (M k 491649 0) (M k 508033 0) (M k 524417 0) al 16 0 g 1 = g 1 ∧ z_g66s (M k 491649 0) (M k 508033 0) (M k 524417 0) al 16 0 g 2 = g 2
    · obtain ⟨e0, e1, e2⟩ := eq
      refine ⟨⟨fun z => absurd z n48, fun _ => l1 (fun z => absurd ⟨e0, e1, e2⟩ z)⟩, _, l2.trans (if_pos ⟨e0, e1, e2⟩), s1, s2, s3, fun q hq => ?_⟩
      have := s4 ⟨by rw [e0]; exact z_sub.rf, by rw [e1]; exact z_sub.rf, by rw [e2]; exact z_sub.rf⟩ q (by omega) (by omega)
      rw [e0, e1, e2]; exact this
    · have grow : z_bits g < z_bits (z_g66s (M k 491649 0) (M k 508033 0) (M k 524417 0) al 16 0 g) := by
        have m0 := z_pop.mono s1.1 16 (by omega)
        have m1 := z_pop.mono s1.2.1 16 (by omega)
        have m2 := z_pop.mono s1.2.2 16 (by omega)
        unfold z_bits
        by_cases e0 : z_g66s (M k 491649 0) (M k 508033 0) (M k 524417 0) al 16 0 g 0 = g 0
        · by_cases e1 : z_g66s (M k 491649 0) (M k 508033 0) (M k 524417 0) al 16 0 g 1 = g 1
          · obtain ⟨v, hv, x1, x2⟩ := z_sub_ne s1.2.2 (fun e2 => eq ⟨e0, e1, e2⟩)
            have := z_pop_lt s1.2.2 x1 x2 16 (by omega) (lt16.2.2 v hv x2); omega
          · obtain ⟨v, hv, x1, x2⟩ := z_sub_ne s1.2.1 e1
            have := z_pop_lt s1.2.1 x1 x2 16 (by omega) (lt16.2.1 v hv x2); omega
        · obtain ⟨v, hv, x1, x2⟩ := z_sub_ne s1.1 e0
          have := z_pop_lt s1.1 x1 x2 16 (by omega) (lt16.1 v hv x2); omega
      obtain ⟨i1, g', i2, i3, i4, i5, i6⟩ := ih f (r + 1) _ (by omega) (by omega) (by omega) lt16
      rw [← z_nx] at i1 i2
      refine ⟨⟨fun z => absurd z n48, fun _ => l1 (fun _ => i1)⟩, g', l2.trans ((if_neg eq).trans i2), s1.tr i3, fun a ha => (i4 a ha).trans (s2 a ha), fun P1 P3 P2 hc hi => i5 P1 P3 P2 hc (s3 P1 P3 P2 hc hi), i6⟩
/-- COLLECTESSENTIAL -/
theorem z_66 (M : ux_M) (k : Nat) (al : Int32) (hz : ∀ i, i < 16 → ∀ v, 16 ≤ v → v < 32 → bt (M k 491649 0 i) v = false ∧ bt (M k 508033 0 i) v = false ∧ bt (M k 524417 0 i) v = false) (hu : u < 16) (j : Int32) (hj : j = 1 ∨ j = 2 ∨ j = 3) :
    p_66 k (nI u) j al M ∧ ∃ g0 g', (g0 0 = if j = 2 then 0 else (1 : Int32) <<< (nI u &&& 31)) ∧ (g0 1 = if j = 3 then (1 : Int32) <<< (nI u &&& 31) else 0) ∧ (g0 2 = if j = 2 then (1 : Int32) <<< (nI u &&& 31) else 0)
      ∧ (∀ a, 3 ≤ a → g0 a = M k 32805 0 a) ∧ m_66 k (nI u) j al M = z_wt3 M k (z_up (z_up g' 3 (g' 0)) 4 (g' 2)) ∧ z_end66 (M k 491649 0) (M k 508033 0) (M k 524417 0) al g0 g' := by
  have hu32 : u < 32 := by omega
  have key : ∀ z0 z1 z2 : Int32, (∀ v, v < 32 → bt z0 v = true → v < 16) → (∀ v, v < 32 → bt z1 v = true → v < 16) → (∀ v, v < 32 → bt z2 v = true → v < 16) → (1 ≤ z_pop z0 16 + z_pop z1 16 + z_pop z2 16) →
      p_66_51 ux_fuel k al (0 : Int32) (ux_set (ux_set (ux_set M k 32805 0 0 z0) k 32805 0 1 z1) k 32805 0 2 z2) ∧ ∃ g', m_66_51 ux_fuel k al (0 : Int32) (ux_set (ux_set (ux_set M k 32805 0 0 z0) k 32805 0 1 z1) k 32805 0 2 z2) = z_wt3 M k (z_up (z_up g' 3 (g' 0)) 4 (g' 2)) ∧ z_end66 (M k 491649 0) (M k 508033 0) (M k 524417 0) al (z_up (z_up (z_up (M k 32805 0) 0 z0) 1 z1) 2 z2) g' := fun z0 z1 z2 h0 h1 h2 hb => by
    have e : ux_set (ux_set (ux_set M k 32805 0 0 z0) k 32805 0 1 z1) k 32805 0 2 z2 = z_wt3 M k (z_up (z_up (z_up (M k 32805 0) 0 z0) 1 z1) 2 z2) := by
      rw [← z_wt3_set, ← z_wt3_set, ← z_wt3_set, z_wt3_self]
    have a0 : z_up (z_up (z_up (M k 32805 0) 0 z0) 1 z1) 2 z2 0 = z0 := by rw [z_upn (by decide), z_upn (by decide), z_upe]
    have a1 : z_up (z_up (z_up (M k 32805 0) 0 z0) 1 z1) 2 z2 1 = z1 := by rw [z_upn (by decide), z_upe]
    have a2 : z_up (z_up (z_up (M k 32805 0) 0 z0) 1 z1) 2 z2 2 = z2 := z_upe
    rw [e]
    exact z_51l M k al hz 48 ux_fuel 0 _ (by unfold z_bits; rw [a0, a1, a2]; omega) (by omega) (by have := z_fuel; omega) ⟨by rw [a0]; exact h0, by rw [a1]; exact h1, by rw [a2]; exact h2⟩
  have b0 : ∀ v, v < 32 → bt (0 : Int32) v = true → v < 16 := fun v _ q => by rw [b_0] at q; cases q
  have b1 : ∀ v, v < 32 → bt ((1 : Int32) <<< (nI u &&& 31)) v = true → v < 16 := fun v hv q => by rw [z_bit hu32 hv] at q; simp at q; omega
  have p1 : 1 ≤ z_pop ((1 : Int32) <<< (nI u &&& 31)) 16 := by
    have := z_pop_lt (x := 0) (y := (1 : Int32) <<< (nI u &&& 31)) (fun v _ q => by rw [b_0] at q; cases q) (v := u) (b_0 u) (by rw [z_bit hu32 hu32]; simp) 16 (by omega) hu
    omega
  have g0v : ∀ z0 z1 z2 : Int32, z_up (z_up (z_up (M k 32805 0) 0 z0) 1 z1) 2 z2 0 = z0 ∧ z_up (z_up (z_up (M k 32805 0) 0 z0) 1 z1) 2 z2 1 = z1 ∧ z_up (z_up (z_up (M k 32805 0) 0 z0) 1 z1) 2 z2 2 = z2 ∧ ∀ a, 3 ≤ a → z_up (z_up (z_up (M k 32805 0) 0 z0) 1 z1) 2 z2 a = M k 32805 0 a := fun z0 z1 z2 =>
    ⟨by rw [z_upn (by decide), z_upn (by decide), z_upe], by rw [z_upn (by decide), z_upe], z_upe, fun a ha => by rw [z_upn (by omega), z_upn (by omega), z_upn (by omega)]⟩
  rcases hj with rfl | rfl | rfl
  · obtain ⟨k1, g', k2, k3⟩ := key ((1 : Int32) <<< (nI u &&& 31)) 0 0 b1 b0 b0 (by omega)
    obtain ⟨v0, v1, v2, v3⟩ := g0v ((1 : Int32) <<< (nI u &&& 31)) 0 0
    refine ⟨?_, _, g', v0, v1, v2, v3, ?_, k3⟩
    · simp only [p_66, p_66_13, p_66_29, zn_12, zn_13, forall_eq, if_false, not_false_eq_true, true_implies, false_implies, true_and, and_true]; exact k1
    · simp only [m_66, m_66_13, m_66_29, zn_12, zn_13, if_false]; exact k2
  · obtain ⟨k1, g', k2, k3⟩ := key 0 0 ((1 : Int32) <<< (nI u &&& 31)) b0 b0 b1 (by omega)
    obtain ⟨v0, v1, v2, v3⟩ := g0v 0 0 ((1 : Int32) <<< (nI u &&& 31))
    refine ⟨?_, _, g', v0, v1, v2, v3, ?_, k3⟩
    · simp only [p_66, p_66_13, p_66_29, zn_23, forall_eq, if_true, not_true_eq_false, not_false_eq_true, true_implies, false_implies, true_and, and_true]; exact k1
    · simp only [m_66, m_66_13, m_66_29, zn_23, if_true, if_false]; exact k2
  · obtain ⟨k1, g', k2, k3⟩ := key ((1 : Int32) <<< (nI u &&& 31)) ((1 : Int32) <<< (nI u &&& 31)) 0 b1 b1 b0 (by omega)
    obtain ⟨v0, v1, v2, v3⟩ := g0v ((1 : Int32) <<< (nI u &&& 31)) ((1 : Int32) <<< (nI u &&& 31)) 0
    refine ⟨?_, _, g', v0, v1, v2, v3, ?_, k3⟩
    · simp only [p_66, p_66_13, p_66_29, zn_32, forall_eq, if_true, not_true_eq_false, not_false_eq_true, true_implies, false_implies, true_and, and_true]; exact k1
    · simp only [m_66, m_66_13, m_66_29, zn_32, if_true, if_false]; exact k2
end ZA2
