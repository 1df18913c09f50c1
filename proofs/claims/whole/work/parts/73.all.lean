/-! THE CLASS'S TRANSACTION: all jobs -/
section ZA3
variable {k c u : Nat} {M : ux_M}
def z_g67 (N O F : Nat → Int32) (i : Nat) (g : Nat → Int32) : Nat → Int32 :=
  let g1 := if bt (g 0) i = true then z_up (z_up g 0 (g 0 ||| N i)) 2 (g 2 ||| O i) else g
  if bt (g1 2) i = true then z_up g1 2 (g1 2 ||| F i) else g1
def z_g67s (N O F : Nat → Int32) : Nat → Nat → (Nat → Int32) → (Nat → Int32)
  | 0, _, g => g
  | n + 1, i, g => z_g67s N O F n (i + 1) (z_g67 N O F i g)
theorem z_upc (g : Nat → Int32) {a b : Nat} (v w : Int32) (h : ¬ a = b) : z_up (z_up g a v) b w = z_up (z_up g b w) a v := by
  funext x; unfold z_up
  by_cases q : x = b
  · subst q; rw [if_pos rfl, if_neg (fun z => h z.symm), if_pos rfl]
  · rw [if_neg q, if_neg q]
theorem z_upi (g : Nat → Int32) (a : Nat) (v w : Int32) : z_up (z_up g a v) a w = z_up g a w := by
  funext x; unfold z_up
  by_cases q : x = a
  · rw [if_pos q, if_pos q]
  · rw [if_neg q, if_neg q, if_neg q]
theorem z_upg (g : Nat → Int32) (a : Nat) : z_up g a (g a) = g := by
  funext x; unfold z_up
  by_cases q : x = a
  · rw [if_pos q, q]
  · rw [if_neg q]
/-- the same, but for restarts, which are none here -/
theorem z_67_66 (N O F : Nat → Int32) (i : Nat) (g : Nat → Int32) : z_up (z_g67 N O F i g) 1 0 = z_g66 N O F 0 i (z_up g 1 0) ∧ z_g67 N O F i g 1 = g 1 := by
  unfold z_g67 z_g66
  simp only
  rw [z_upn (show ¬ 0 = 1 by decide), z_upn (show ¬ 2 = 1 by decide)]
  by_cases b0 : bt (g 0) i = true
  · simp only [if_pos b0]
    have e1 : z_up (z_up (z_up g 1 0) 0 (g 0 ||| N i)) 2 (g 2 ||| O i) 1 = 0 := by rw [z_upn (by decide), z_upn (by decide), z_upe]
    have n1 : ¬ bt (z_up (z_up (z_up g 1 0) 0 (g 0 ||| N i)) 2 (g 2 ||| O i) 1) i = true := by rw [e1, b_0]; decide
    rw [if_neg n1, z_upe, z_upe]
    by_cases b2 : bt (g 2 ||| O i) i = true
    · rw [if_pos b2, if_pos b2]
      refine ⟨?_, by rw [z_upn (by decide), z_upn (by decide), z_upn (by decide)]⟩
      rw [z_upi, z_upi, z_upc _ _ _ (show ¬ 2 = 1 by decide), z_upc _ _ _ (show ¬ 0 = 1 by decide)]
    · rw [if_neg b2, if_neg b2]
      refine ⟨?_, by rw [z_upn (by decide), z_upn (by decide)]⟩
      rw [z_upc _ _ _ (show ¬ 2 = 1 by decide), z_upc _ _ _ (show ¬ 0 = 1 by decide)]
  · simp only [if_neg b0]
    have n1 : ¬ bt (z_up g 1 0 1) i = true := by rw [z_upe, b_0]; decide
    rw [if_neg n1, z_upn (show ¬ 2 = 1 by decide)]
    by_cases b2 : bt (g 2) i = true
    · rw [if_pos b2, if_pos b2]
      exact ⟨by rw [z_upc _ _ _ (show ¬ 2 = 1 by decide)], z_upn (by decide)⟩
    · rw [if_neg b2, if_neg b2]; exact ⟨rfl, rfl⟩
theorem z_67s_66 (N O F : Nat → Int32) : ∀ (n i : Nat) (g : Nat → Int32), z_up (z_g67s N O F n i g) 1 0 = z_g66s N O F 0 n i (z_up g 1 0) ∧ z_g67s N O F n i g 1 = g 1
  | 0, _, _ => ⟨rfl, rfl⟩
  | n + 1, i, g => by
    obtain ⟨a1, a2⟩ := z_67_66 N O F i g
    obtain ⟨b1, b2⟩ := z_67s_66 N O F n (i + 1) (z_g67 N O F i g)
    rw [z_g67s, z_g66s]
    exact ⟨b1.trans (by rw [a1]), b2.trans a2⟩
theorem z_67s_f (N O F : Nat → Int32) (n i : Nat) (g : Nat → Int32) (hi : i + n ≤ 16) (a : Nat) (ha : 3 ≤ a) : z_g67s N O F n i g a = g a := by
  have h := (z_67s_66 N O F n i g).1
  have e := congrFun h a
  rw [z_upn (by omega), (z_s66 N O F 0 n i _ hi).2.1 a ha, z_upn (by omega)] at e
  exact e
theorem z_67l (M : ux_M) (k : Nat) (L1 L2 : Int32) (kp : Nat → Int32 → ux_M → Prop) (km : Nat → Int32 → ux_M → ux_M) (x2 x3 x4 : Int32) : ∀ (n f i : Nat) (g g' : Nat → Int32), i + n = 16 → n < f → g 5 = L1 → g 6 = L2 →
    z_g67s (fun i => (M k 491649 0 i ||| M k 475265 1 i) &&& (L1 ^^^ ((-1) : Int32))) (fun i => M k 508033 0 i &&& (L2 ^^^ ((-1) : Int32))) (fun i => M k 524417 0 i &&& (L2 ^^^ ((-1) : Int32))) n i g = g' →
    (((¬ (g' 0 = x3 ∧ g' 2 = x4) → kp k (x2 + 1) (z_wt3 M k g')) → p_67_38 kp f k x2 x3 x4 (nI i) (z_wt3 M k g))
     ∧ m_67_38 km f k x2 x3 x4 (nI i) (z_wt3 M k g) = if g' 0 = x3 ∧ g' 2 = x4 then z_wt3 M k g' else km k (x2 + 1) (z_wt3 M k g')) := by
  intro n
  induction n with
  | zero =>
    intro f i g g' hi hf h5 h6 hg
    subst hg
    obtain ⟨f, rfl⟩ : ∃ z, f = z + 1 := ⟨f - 1, by omega⟩
    have hle : (16 : Int32) ≤ nI i := (z_le (a := 16) (by omega) (by omega)).mpr (by omega)
    simp only [z_g67s]
    rw [p_67_38, m_67_38, if_pos hle]
    simp only [z_wt3_g]
    by_cases q0 : g 0 = x3
    · by_cases q2 : g 2 = x4
      · simp only [q0, q2, and_self, if_true, not_true_eq_false, false_implies, true_implies, and_true, true_and, hle]
      · simp only [q0, q2, and_false, if_true, if_false, not_true_eq_false, not_false_eq_true, false_implies, true_implies, and_true, true_and, hle]
        exact fun z => z
    · simp only [q0, false_and, if_true, if_false, not_true_eq_false, not_false_eq_true, false_implies, true_implies, and_true, true_and, hle]
      exact fun z => z
  | succ n ih =>
    intro f i g g' hi hf h5 h6 hG
    obtain ⟨f, rfl⟩ : ∃ z, f = z + 1 := ⟨f - 1, by omega⟩
    have hi16 : i < 16 := by omega
    have hi32 : i < 32 := by omega
    have hle : ¬ (16 : Int32) ≤ nI i := fun z => by have := (z_le (a := 16) (by omega) (by omega)).mp z; omega
    rw [z_g67s] at hG
    rw [p_67_38, m_67_38, if_neg hle]
    simp only [z_wt3_g, z_wt3_set, z_cl hi16, z_c1, z_shr _ hi32, z_nx, hle, not_false_eq_true, false_implies, true_implies, true_and, forall_eq, z_wt3_o M k _ (show ¬ 491649 = 32805 by decide), z_wt3_o M k _ (show ¬ 508033 = 32805 by decide), z_wt3_o M k _ (show ¬ 524417 = 32805 by decide), z_wt3_o M k _ (show ¬ 475265 = 32805 by decide), h5, h6]
    unfold z_g67 at hG
    simp only at hG
    by_cases b0 : bt (g 0) i = true
    · have c2 : ∀ v, z_up g 0 v 2 = g 2 := fun v => z_upn (by decide)
      have c6 : ∀ v, z_up g 0 v 6 = L2 := fun v => by rw [z_upn (by decide)]; exact h6
      have c66 : ∀ v w, z_up (z_up g 0 v) 2 w 6 = L2 := fun v w => by rw [z_upn (by decide), z_upn (by decide)]; exact h6
      have c55 : ∀ v w, z_up (z_up g 0 v) 2 w 5 = L1 := fun v w => by rw [z_upn (by decide), z_upn (by decide)]; exact h5
      simp only [b0, if_true, Bool.true_eq_false, if_false, not_false_eq_true, false_implies, true_implies, true_and, c2, c6, c66, z_upe] at hG ⊢
      by_cases b2 : bt (g 2 ||| M k 508033 0 i &&& (L2 ^^^ -1)) i = true
      · simp only [b2, if_true, Bool.true_eq_false, if_false, not_false_eq_true, false_implies, true_implies, true_and] at hG ⊢
        have r := ih f (i + 1) _ g' (by omega) (by omega) (by rw [z_upn (by decide), c55]) (by rw [z_upn (by decide), c66]) hG
        exact ⟨fun z => ⟨z_i16 hi16, z_r1, z_i16 hi16, z_i16 hi16, z_i16 hi16, r.1 z⟩, r.2⟩
      · have b2' : bt (g 2 ||| M k 508033 0 i &&& (L2 ^^^ -1)) i = false := by simpa using b2
        simp only [b2', Bool.false_eq_true, if_true, if_false, not_true_eq_false, false_implies, true_implies, and_true] at hG ⊢
        have r := ih f (i + 1) _ g' (by omega) (by omega) (c55 _ _) (c66 _ _) hG
        exact ⟨fun z => ⟨z_i16 hi16, z_r1, z_i16 hi16, z_i16 hi16, r.1 z⟩, r.2⟩
    · have b0' : bt (g 0) i = false := by simpa using b0
      simp only [b0', Bool.false_eq_true, if_true, if_false, not_true_eq_false, false_implies, true_implies, and_true] at hG ⊢
      by_cases b2 : bt (g 2) i = true
      · simp only [b2, if_true, Bool.true_eq_false, if_false, not_false_eq_true, false_implies, true_implies, true_and] at hG ⊢
        have r := ih f (i + 1) _ g' (by omega) (by omega) (by rw [z_upn (by decide)]; exact h5) (by rw [z_upn (by decide)]; exact h6) hG
        exact ⟨fun z => ⟨z_i16 hi16, r.1 z⟩, r.2⟩
      · have b2' : bt (g 2) i = false := by simpa using b2
        simp only [b2', Bool.false_eq_true, if_true, if_false, not_true_eq_false, false_implies, true_implies, and_true] at hG ⊢
        have r := ih f (i + 1) _ g' (by omega) (by omega) h5 h6 hG
        exact ⟨fun z => r.1 z, r.2⟩
/-- rounds -/
theorem z_18l (M : ux_M) (k : Nat) (L1 L2 : Int32) (N O F : Nat → Int32) (eN : N = fun i => (M k 491649 0 i ||| M k 475265 1 i) &&& (L1 ^^^ ((-1) : Int32))) (eO : O = fun i => M k 508033 0 i &&& (L2 ^^^ ((-1) : Int32))) (eF : F = fun i => M k 524417 0 i &&& (L2 ^^^ ((-1) : Int32)))
    (hz : ∀ i, i < 16 → ∀ v, 16 ≤ v → v < 32 → bt (N i) v = false ∧ bt (O i) v = false ∧ bt (F i) v = false) :
    ∀ (d f r : Nat) (g : Nat → Int32), 32 ≤ z_pop (g 0) 16 + z_pop (g 2) 16 + d → r + d ≤ 32 → d < f → g 5 = L1 → g 6 = L2 → z_in3 (z_up g 1 0) (fun v => v < 16) (fun v => v < 16) (fun v => v < 16) →
    p_67_18 f k (nI r) (z_wt3 M k g) ∧ ∃ g', m_67_18 f k (nI r) (z_wt3 M k g) = z_wt3 M k g' ∧ g' 1 = g 1 ∧ z_end66 N O F 0 (z_up g 1 0) (z_up g' 1 0) := by
  intro d
  induction d with
  | zero =>
    intro f r g hd hr hf h5 h6 hg
    obtain ⟨f, rfl⟩ : ∃ z, f = z + 1 := ⟨f - 1, by omega⟩
    obtain ⟨s1, s2, s3, s4⟩ := z_s66 N O F 0 16 0 (z_up g 1 0) (by omega)
    obtain ⟨t1, t2⟩ := z_67s_66 N O F 16 0 g
    rw [← t1] at s1 s2 s3 s4
    have n32 : ¬ (32 : Int32) < nI r := fun z => by have := (z_lt (a := 32) (by omega) (by omega)).mp z; omega
    obtain ⟨l1, l2⟩ := z_67l M k L1 L2 (p_67_18 f) (m_67_18 f) (nI r) (g 0) (g 2) 16 ux_fuel 0 g _ (by omega) (by have := z_fuel; omega) h5 h6 rfl
    rw [← eN, ← eO, ← eF] at l1 l2
    have full : ∀ x y : Int32, z_sub x y → z_pop x 16 = 16 → (∀ v, v < 32 → bt y v = true → v < 16) → y = x := fun x y h hp hb => by
      apply Classical.byContradiction
      intro ne
      obtain ⟨v, hv, e1, e2⟩ := z_sub_ne h ne
      have := z_pop_lt h e1 e2 16 (by omega) (hb v hv e2)
      have := z_pop.le y 16
      omega
    have p0 := z_pop.le (g 0) 16
    have p2 := z_pop.le (g 2) 16
    have lt16 := s3 (fun v => v < 16) (fun v => v < 16) (fun v => v < 16) ⟨fun i _ _ v hv => ⟨fun q => Classical.byContradiction (fun z => by rw [(hz i (by assumption) v (by omega) hv).1] at q; cases q), fun q => Classical.byContradiction (fun z => by rw [(hz i (by assumption) v (by omega) hv).2.1] at q; cases q)⟩, fun i hi _ v hv q _ => Classical.byContradiction (fun z => by rw [(hz i hi v (by omega) hv).2.2] at q; cases q), fun _ h => h, fun i hi _ v hv q => Classical.byContradiction (fun z => by rw [(hz i hi v (by omega) hv).2.2] at q; cases q)⟩ hg
    have u0 : ∀ x : Nat → Int32, z_up x 1 0 0 = x 0 := fun x => z_upn (by decide)
    have u2 : ∀ x : Nat → Int32, z_up x 1 0 2 = x 2 := fun x => z_upn (by decide)
    have e0 : z_g67s N O F 16 0 g 0 = g 0 := full _ _ (by have := s1.1; rw [u0, u0] at this; exact this) (by omega) (by have := lt16.1; rw [u0] at this; exact this)
    have e2 : z_g67s N O F 16 0 g 2 = g 2 := full _ _ (by have := s1.2.2; rw [u2, u2] at this; exact this) (by omega) (by have := lt16.2.2; rw [u2] at this; exact this)
    rw [p_67_18, m_67_18, if_neg n32]
    simp only [z_wt3_g]
    refine ⟨⟨fun z => absurd z n32, fun _ => l1 (fun z => absurd ⟨e0, e2⟩ z)⟩, _, l2.trans (if_pos ⟨e0, e2⟩), t2, s1, s2, s3, fun q hq => ?_⟩
    have := s4 ⟨by rw [u0, u0, e0]; exact z_sub.rf, by rw [z_upe, z_upe]; exact z_sub.rf, by rw [u2, u2, e2]; exact z_sub.rf⟩ q (by omega) (by omega)
    rw [u0, u2, z_upe, e0, e2]; rw [u0, u2, z_upe] at this; exact this
  | succ d ih =>
    intro f r g hd hr hf h5 h6 hg
    obtain ⟨f, rfl⟩ : ∃ z, f = z + 1 := ⟨f - 1, by omega⟩
    obtain ⟨s1, s2, s3, s4⟩ := z_s66 N O F 0 16 0 (z_up g 1 0) (by omega)
    obtain ⟨t1, t2⟩ := z_67s_66 N O F 16 0 g
    rw [← t1] at s1 s2 s3 s4
    have n32 : ¬ (32 : Int32) < nI r := fun z => by have := (z_lt (a := 32) (by omega) (by omega)).mp z; omega
    obtain ⟨l1, l2⟩ := z_67l M k L1 L2 (p_67_18 f) (m_67_18 f) (nI r) (g 0) (g 2) 16 ux_fuel 0 g _ (by omega) (by have := z_fuel; omega) h5 h6 rfl
    rw [← eN, ← eO, ← eF] at l1 l2
    have lt16 := s3 (fun v => v < 16) (fun v => v < 16) (fun v => v < 16) ⟨fun i _ _ v hv => ⟨fun q => Classical.byContradiction (fun z => by rw [(hz i (by assumption) v (by omega) hv).1] at q; cases q), fun q => Classical.byContradiction (fun z => by rw [(hz i (by assumption) v (by omega) hv).2.1] at q; cases q)⟩, fun i hi _ v hv q _ => Classical.byContradiction (fun z => by rw [(hz i hi v (by omega) hv).2.2] at q; cases q), fun _ h => h, fun i hi _ v hv q => Classical.byContradiction (fun z => by rw [(hz i hi v (by omega) hv).2.2] at q; cases q)⟩ hg
    have u0 : ∀ x : Nat → Int32, z_up x 1 0 0 = x 0 := fun x => z_upn (by decide)
    have u2 : ∀ x : Nat → Int32, z_up x 1 0 2 = x 2 := fun x => z_upn (by decide)
    rw [p_67_18, m_67_18, if_neg n32]
    simp only [z_wt3_g]
    by_cases eq : z_g67s N O F 16 0 g 0 = g 0 ∧ z_g67s N O F 16 0 g 2 = g 2
    · obtain ⟨e0, e2⟩ := eq
      refine ⟨⟨fun z => absurd z n32, fun _ => l1 (fun z => absurd ⟨e0, e2⟩ z)⟩, _, l2.trans (if_pos ⟨e0, e2⟩), t2, s1, s2, s3, fun q hq => ?_⟩
      have := s4 ⟨by rw [u0, u0, e0]; exact z_sub.rf, by rw [z_upe, z_upe]; exact z_sub.rf, by rw [u2, u2, e2]; exact z_sub.rf⟩ q (by omega) (by omega)
      rw [u0, u2, z_upe, e0, e2]; rw [u0, u2, z_upe] at this; exact this
    · have w0 : z_sub (g 0) (z_g67s N O F 16 0 g 0) := by have := s1.1; rw [u0, u0] at this; exact this
      have w2 : z_sub (g 2) (z_g67s N O F 16 0 g 2) := by have := s1.2.2; rw [u2, u2] at this; exact this
      have k0 := lt16.1
      have k2 := lt16.2.2
      rw [u0] at k0; rw [u2] at k2
      have grow : z_pop (g 0) 16 + z_pop (g 2) 16 < z_pop (z_g67s N O F 16 0 g 0) 16 + z_pop (z_g67s N O F 16 0 g 2) 16 := by
        have m0 := z_pop.mono w0 16 (by omega)
        have m2 := z_pop.mono w2 16 (by omega)
        by_cases e0 : z_g67s N O F 16 0 g 0 = g 0
        · obtain ⟨v, hv, x1, x2⟩ := z_sub_ne w2 (fun e2 => eq ⟨e0, e2⟩)
          have := z_pop_lt w2 x1 x2 16 (by omega) (k2 v hv x2); omega
        · obtain ⟨v, hv, x1, x2⟩ := z_sub_ne w0 e0
          have := z_pop_lt w0 x1 x2 16 (by omega) (k0 v hv x2); omega
      obtain ⟨i1, g', i2, i0, i3, i4, i5, i6⟩ := ih f (r + 1) (z_g67s N O F 16 0 g) (by omega) (by omega) (by omega) ((z_67s_f N O F 16 0 g (by omega) 5 (by omega)).trans h5) ((z_67s_f N O F 16 0 g (by omega) 6 (by omega)).trans h6) lt16
      rw [← z_nx] at i1 i2
      refine ⟨⟨fun z => absurd z n32, fun _ => l1 (fun _ => i1)⟩, g', l2.trans ((if_neg eq).trans i2), i0.trans t2, s1.tr i3, fun a ha => (i4 a ha).trans (s2 a ha), fun P1 P3 P2 hc hi => i5 P1 P3 P2 hc (s3 P1 P3 P2 hc hi), i6⟩
/-- COLLECTALL -/
theorem z_67 (M : ux_M) (k : Nat) (g : Nat → Int32) (N O F : Nat → Int32) (eN : N = fun i => (M k 491649 0 i ||| M k 475265 1 i) &&& (g 5 ^^^ ((-1) : Int32))) (eO : O = fun i => M k 508033 0 i &&& (g 6 ^^^ ((-1) : Int32))) (eF : F = fun i => M k 524417 0 i &&& (g 6 ^^^ ((-1) : Int32)))
    (hz : ∀ i, i < 16 → ∀ v, 16 ≤ v → v < 32 → bt (N i) v = false ∧ bt (O i) v = false ∧ bt (F i) v = false) (h3 : ∀ v, v < 32 → bt (g 3) v = true → v < 16) (h4 : ∀ v, v < 32 → bt (g 4) v = true → v < 16) :
    p_67 k (z_wt3 M k g) ∧ ∃ g', m_67 k (z_wt3 M k g) = z_wt3 M k g' ∧ g' 1 = g 1 ∧ z_end66 N O F 0 (z_up (z_up (z_up g 0 (g 3)) 2 (g 4)) 1 0) (z_up g' 1 0) := by
  have e4 : z_up g 0 (g 3) 4 = g 4 := z_upn (by decide)
  have u0 : ∀ x : Nat → Int32, z_up x 1 0 0 = x 0 := fun x => z_upn (by decide)
  have u2 : ∀ x : Nat → Int32, z_up x 1 0 2 = x 2 := fun x => z_upn (by decide)
  have a0 : z_up (z_up g 0 (g 3)) 2 (g 4) 0 = g 3 := by rw [z_upn (by decide), z_upe]
  have a2 : z_up (z_up g 0 (g 3)) 2 (g 4) 2 = g 4 := z_upe
  have a1 : z_up (z_up g 0 (g 3)) 2 (g 4) 1 = g 1 := by rw [z_upn (by decide), z_upn (by decide)]
  have a5 : z_up (z_up g 0 (g 3)) 2 (g 4) 5 = g 5 := by rw [z_upn (by decide), z_upn (by decide)]
  have a6 : z_up (z_up g 0 (g 3)) 2 (g 4) 6 = g 6 := by rw [z_upn (by decide), z_upn (by decide)]
  have hin : z_in3 (z_up (z_up (z_up g 0 (g 3)) 2 (g 4)) 1 0) (fun v => v < 16) (fun v => v < 16) (fun v => v < 16) := by
    unfold z_in3
    refine ⟨?_, ?_, ?_⟩
    · rw [u0, a0]; exact h3
    · intro v hv q; first | (rw [z_upe, b_0] at q; cases q) | (rw [u2, a2] at q; exact h4 v hv q)
    · intro v hv q; first | (rw [z_upe, b_0] at q; cases q) | (rw [u2, a2] at q; exact h4 v hv q)
  have r := z_18l M k (g 5) (g 6) N O F eN eO eF hz 32 ux_fuel 0 (z_up (z_up g 0 (g 3)) 2 (g 4)) (by omega) (by omega) (by have := z_fuel; omega) a5 a6 hin
  rw [a1] at r
  unfold p_67 m_67
  simp only [z_wt3_g, z_wt3_set, e4, forall_eq]
  exact r
end ZA3
