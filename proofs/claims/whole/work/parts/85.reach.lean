/-! CIRCLES: the reference's -/
def z_f9 (m m' : ux_M) : Prop := ∀ a s r i, ¬ (a = 5 ∧ s = 999553) → m' a s r i = m a s r i
def z_G (m : ux_M) (x y : Nat) : Prop := bt (m 5 999553 0 x) y = true
/-- x precedes y in the transaction -/
noncomputable def z_fe (m : ux_M) (x y : Nat) : Bool := decide (¬ y = x) && decide (¬ r_208 (nI x) m = 0) && decide (¬ r_208 (nI y) m = 0) && z_pc m x (r_208 (nI x) m) y (r_208 (nI y) m)
section ZC3
variable {k c x n : Nat} {m m' m'' : ux_M}
theorem z_f9.rf : z_f9 m m := fun _ _ _ _ _ => rfl
theorem z_f9.tr (h : z_f9 m m') (h' : z_f9 m' m'') : z_f9 m m'' := fun a s r i q => (h' a s r i q).trans (h a s r i q)
theorem z_f9.st (m : ux_M) (i : Nat) (v : Int32) : z_f9 m (ux_set m 5 999553 0 i v) := fun a s r j q => by
  rw [z_set, if_neg (fun z => q ⟨z.1, z.2.1⟩)]
theorem z_f9.fM (h : z_f9 m m') : z_fM m m' := fun a s r i q => h a s r i (fun z => q ⟨z.1, by omega⟩)
theorem z_f9.t8 (h : z_f9 m m') (u : Int32) : r_208 u m' = r_208 u m := by
  unfold r_208; rw [h 5 950305 0 _ (by omega), h 5 950305 0 _ (by omega), h 5 950305 0 _ (by omega)]
theorem z_f9.Y (h : z_f9 m m') (a w : Nat) : z_Y m' a w = z_Y m a w := h.fM.Y a w
theorem z_f9.pc (h : z_f9 m m') (v : Nat) (j' : Int32) (u : Nat) (j : Int32) : z_pc m' v j' u j = z_pc m v j' u j := by unfold z_pc; simp only [h.Y]
theorem z_f9.fe (h : z_f9 m m') (x y : Nat) : z_fe m' x y = z_fe m x y := by unfold z_fe; rw [h.t8, h.t8, h.pc]
theorem z_p208 (u : Int32) (m : ux_M) : p_208 u m := by
  unfold p_208; exact ⟨z_k2, fun _ => ⟨z_k3, fun _ => z_k1, fun _ => trivial⟩, fun _ => trivial⟩
/-- one row is laid -/
theorem z_l207 (hx : x < c) (hc : c ≤ 16) (kp : Int32 → ux_M → Prop) (km : Int32 → ux_M → ux_M) : ∀ (n f i : Nat) (m : ux_M), i + n = c → n < f → m 5 844257 0 1 = nI c →
    ∃ m', z_f9 m m' ∧ (∀ y, ¬ y = x → m' 5 999553 0 y = m 5 999553 0 y) ∧ (∀ w, w < 32 → bt (m' 5 999553 0 x) w = (bt (m 5 999553 0 x) w || (decide (i ≤ w) && decide (w < c) && z_fe m x w)))
      ∧ (kp (nI (x + 1)) m' → p_207_21 kp f (nI x) (nI i) m) ∧ m_207_21 km f (nI x) (nI i) m = km (nI (x + 1)) m' := by
  have x16 : x < 16 := by omega
  intro n
  induction n with
  | zero =>
    intro f i m hi hf hm
    obtain ⟨f, rfl⟩ : ∃ g, f = g + 1 := ⟨f - 1, by omega⟩
    have hle := z_yle (show c ≤ i by omega) (by omega)
    rw [p_207_21, m_207_21, z_c1, hm, if_pos hle, z_nx]
    refine ⟨m, z_f9.rf, fun _ _ => rfl, fun w _ => ?_, fun q => ⟨z_v1, fun _ => q, fun y => absurd hle y⟩, rfl⟩
    have : (decide (i ≤ w) && decide (w < c)) = false := by
      by_cases q : i ≤ w
      · have : ¬ w < c := by omega
        simp [this]
      · simp [q]
    rw [this, Bool.false_and, Bool.or_false]
  | succ n ih =>
    intro f i m hi hf hm
    obtain ⟨f, rfl⟩ : ∃ g, f = g + 1 := ⟨f - 1, by omega⟩
    have hic : i < c := by omega
    have i16 : i < 16 := by omega
    have i32 : i < 32 := by omega
    have hle := z_nle hic hc
    obtain ⟨pp, pr⟩ := z_209 m i16 x16 (r_208 (nI x) m) (r_208 (nI i) m)
    rw [p_207_21, m_207_21, z_c1, hm, if_neg hle]
    simp only [z_nx]
    have same : z_fe m x i = false → (∃ m', z_f9 m m' ∧ (∀ y, ¬ y = x → m' 5 999553 0 y = m 5 999553 0 y) ∧ (∀ w, w < 32 → bt (m' 5 999553 0 x) w = (bt (m 5 999553 0 x) w || (decide (i ≤ w) && decide (w < c) && z_fe m x w)))
      ∧ (kp (nI (x + 1)) m' → p_207_21 kp f (nI x) (nI (i + 1)) m) ∧ m_207_21 km f (nI x) (nI (i + 1)) m = km (nI (x + 1)) m') := fun e => by
      obtain ⟨m', a1, a2, a3, a4, a5⟩ := ih f (i + 1) m (by omega) (by omega) hm
      refine ⟨m', a1, a2, fun w hw => ?_, a4, a5⟩
      rw [a3 w hw]
      by_cases q : w = i
      · subst q; rw [e]; simp
      · rw [z_lei _ _ q]
    have e1 : nI i = nI x ↔ i = x := z_eq (by omega) (by omega)
    by_cases q1 : i = x
    · obtain ⟨m', a1, a2, a3, a4, a5⟩ := same (by simp [z_fe, q1])
      rw [if_pos (e1.mpr q1)]
      exact ⟨m', a1, a2, a3, fun y => ⟨z_v1, fun z => absurd z hle, fun _ => ⟨fun _ => a4 y, fun z => absurd (e1.mpr q1) z⟩⟩, a5⟩
    · have n1 : ¬ nI i = nI x := fun z => q1 (e1.mp z)
      rw [if_neg n1]
      by_cases q2 : r_208 (nI x) m = 0
      · obtain ⟨m', a1, a2, a3, a4, a5⟩ := same (by simp [z_fe, q2])
        rw [if_pos q2]
        exact ⟨m', a1, a2, a3, fun y => ⟨z_v1, fun z => absurd z hle, fun _ => ⟨fun z => absurd z n1, fun _ => ⟨z_p208 _ _, fun _ => a4 y, fun z => absurd q2 z⟩⟩⟩, a5⟩
      · rw [if_neg q2]
        by_cases q3 : r_208 (nI i) m = 0
        · obtain ⟨m', a1, a2, a3, a4, a5⟩ := same (by simp [z_fe, q3])
          rw [if_pos q3]
          exact ⟨m', a1, a2, a3, fun y => ⟨z_v1, fun z => absurd z hle, fun _ => ⟨fun z => absurd z n1, fun _ => ⟨z_p208 _ _, fun z => absurd z q2, fun _ => ⟨z_p208 _ _, fun _ => a4 y, fun z => absurd q3 z⟩⟩⟩⟩, a5⟩
        · rw [if_neg q3, pr]
          cases e : z_pc m x (r_208 (nI x) m) i (r_208 (nI i) m)
          · obtain ⟨m', a1, a2, a3, a4, a5⟩ := same (by simp [z_fe, e])
            rw [e] at pr
            have z0 : (if (false : Bool) = true then (1 : Int32) else 0) = 0 := rfl
            rw [z0, if_pos rfl]
            exact ⟨m', a1, a2, a3, fun y => ⟨z_v1, fun z => absurd z hle, fun _ => ⟨fun z => absurd z n1, fun _ => ⟨z_p208 _ _, fun z => absurd z q2, fun _ => ⟨z_p208 _ _, fun z => absurd z q3, fun _ => ⟨z_p208 _ _, z_p208 _ _, pp, fun _ => a4 y, fun z => absurd rfl z⟩⟩⟩⟩⟩, a5⟩
          · rw [e] at pr
            have z0 : (if (true : Bool) = true then (1 : Int32) else 0) = 1 := rfl
            have fe : z_fe m x i = true := by simp [z_fe, e, q1, q2, q3]
            rw [z0, if_neg (by decide)]
            simp only [z_cl x16]
            have f9 := z_f9.st m x (m 5 999553 0 x ||| ((1 : Int32) <<< (nI i &&& 31)))
            obtain ⟨m', a1, a2, a3, a4, a5⟩ := ih f (i + 1) _ (by omega) (by omega) ((f9.fM.row 1).trans hm)
            refine ⟨m', f9.tr a1, fun y hy => (a2 y hy).trans (z_si hy), fun w hw => ?_, fun y => ⟨z_v1, fun z => absurd z hle, fun _ => ⟨fun z => absurd z n1, fun _ => ⟨z_p208 _ _, fun z => absurd z q2, fun _ => ⟨z_p208 _ _, fun z => absurd z q3, fun _ => ⟨z_p208 _ _, z_p208 _ _, pp, fun z => absurd z (by decide), fun _ => ⟨z_i16 x16, z_i16 x16, fun M21 eM => by subst eM; exact a4 y⟩⟩⟩⟩⟩⟩, a5⟩
            rw [a3 w hw, z_ss, b_or, z_bit i32 hw, f9.fe]
            by_cases q : w = i
            · subst q; rw [fe]; simp [hic]
            · rw [z_lei _ _ q]; simp [q]
/-- one unit between -/
theorem z_l210 (hk : k < c) (hc : c ≤ 16) (kp : Int32 → ux_M → Prop) (km : Int32 → ux_M → ux_M) : ∀ (n f i : Nat) (m : ux_M), i + n = c → n < f → m 5 844257 0 1 = nI c →
    ∃ m', z_f9 m m' ∧ (∀ y, ¬ (i ≤ y ∧ y < c) → m' 5 999553 0 y = m 5 999553 0 y) ∧ (∀ y, i ≤ y → y < c → ∀ w, w < 32 → bt (m' 5 999553 0 y) w = (bt (m 5 999553 0 y) w || (bt (m 5 999553 0 y) k && bt (m 5 999553 0 k) w)))
      ∧ (kp (nI (k + 1)) m' → p_210_14 kp f (nI k) (nI i) m) ∧ m_210_14 km f (nI k) (nI i) m = km (nI (k + 1)) m' := by
  have k16 : k < 16 := by omega
  have k32 : k < 32 := by omega
  intro n
  induction n with
  | zero =>
    intro f i m hi hf hm
    obtain ⟨f, rfl⟩ : ∃ g, f = g + 1 := ⟨f - 1, by omega⟩
    have hle := z_yle (show c ≤ i by omega) (by omega)
    rw [p_210_14, m_210_14, z_c1, hm, if_pos hle, z_nx]
    exact ⟨m, z_f9.rf, fun _ _ => rfl, fun y h1 h2 => by omega, fun q => ⟨z_v1, fun _ => q, fun y => absurd hle y⟩, rfl⟩
  | succ n ih =>
    intro f i m hi hf hm
    obtain ⟨f, rfl⟩ : ∃ g, f = g + 1 := ⟨f - 1, by omega⟩
    have hic : i < c := by omega
    have i16 : i < 16 := by omega
    have hle := z_nle hic hc
    rw [p_210_14, m_210_14, z_c1, hm, if_neg hle]
    simp only [z_cl i16, z_cl k16, z_shr1 _ k32, z_nx]
    cases e : bt (m 5 999553 0 i) k
    · obtain ⟨m', a1, a2, a3, a4, a5⟩ := ih f (i + 1) m (by omega) (by omega) hm
      rw [if_neg (by decide)]
      refine ⟨m', a1, fun y hy => a2 y (by omega), fun y h1 h2 w hw => ?_, fun y => ⟨z_v1, fun z => absurd z hle, fun _ => ⟨z_i16 i16, fun _ => a4 y, fun z => absurd z (by decide)⟩⟩, a5⟩
      by_cases q : y = i
      · subst q; rw [a2 y (by omega), e]; simp
      · exact a3 y (by omega) h2 w hw
    · have f9 := z_f9.st m i (m 5 999553 0 i ||| m 5 999553 0 k)
      obtain ⟨m', a1, a2, a3, a4, a5⟩ := ih f (i + 1) _ (by omega) (by omega) ((f9.fM.row 1).trans hm)
      have rk : ∀ w, bt (ux_set m 5 999553 0 i (m 5 999553 0 i ||| m 5 999553 0 k) 5 999553 0 k) w = bt (m 5 999553 0 k) w := fun w => by
        by_cases q : k = i
        · subst q; rw [z_ss, b_or, Bool.or_self]
        · rw [z_si q]
      rw [if_pos rfl]
      refine ⟨m', f9.tr a1, fun y hy => (a2 y (by omega)).trans (z_si (by omega)), fun y h1 h2 w hw => ?_, fun y => ⟨z_v1, fun z => absurd z hle, fun _ => ⟨z_i16 i16, fun z => absurd rfl z, fun _ => ⟨z_i16 i16, z_i16 k16, z_i16 i16, fun M3 eM => by subst eM; exact a4 y⟩⟩⟩, a5⟩
      by_cases q : y = i
      · subst q; rw [a2 y (by omega), z_ss, b_or, e]; simp
      · rw [a3 y (by omega) h2 w hw, rk, z_si q]
/-- CLOSES -/
theorem z_m210 (hc : c ≤ 16) : ∀ (n f k : Nat) (m : ux_M), k + n = c → n < f → m 5 844257 0 1 = nI c →
    p_210_2 f (nI k) m ∧ z_f9 m (m_210_2 f (nI k) m) ∧ (∀ x y, x < c → y < 32 → z_G m x y → z_G (m_210_2 f (nI k) m) x y)
    ∧ (∀ T : Nat → Nat → Prop, (∀ x y z, T x y → T y z → T x z) → (∀ x y, x < c → y < 32 → z_G m x y → T x y) → ∀ x y, x < c → y < 32 → z_G (m_210_2 f (nI k) m) x y → T x y)
    ∧ ((∀ x z y, x < c → z < k → y < 32 → z_G m x z → z_G m z y → z_G m x y) → ∀ x z y, x < c → z < c → y < 32 → z_G (m_210_2 f (nI k) m) x z → z_G (m_210_2 f (nI k) m) z y → z_G (m_210_2 f (nI k) m) x y) := by
  intro n
  induction n with
  | zero =>
    intro f k m hk hf hm
    obtain ⟨f, rfl⟩ : ∃ g, f = g + 1 := ⟨f - 1, by omega⟩
    have hle := z_yle (show c ≤ k by omega) (by omega)
    rw [p_210_2, m_210_2, z_c1, hm, if_pos hle]
    exact ⟨⟨z_v1, fun _ => trivial, fun y => absurd hle y⟩, z_f9.rf, fun _ _ _ _ h => h, fun T _ h => h, fun h x z y h1 h2 => h x z y h1 (by omega)⟩
  | succ n ih =>
    intro f k m hk hf hm
    obtain ⟨f, rfl⟩ : ∃ g, f = g + 1 := ⟨f - 1, by omega⟩
    have hkc : k < c := by omega
    have k32 : k < 32 := by omega
    have hle := z_nle hkc hc
    obtain ⟨m1, a1, a2, a3, a4, a5⟩ := z_l210 hkc hc (fun a0 a1 => p_210_2 f a0 a1) (fun a0 a1 => m_210_2 f a0 a1) c ux_fuel 0 m (by omega) (by have := z_fuel; omega) hm
    obtain ⟨b1, b2, b3, b4, b5⟩ := ih f (k + 1) m1 (by omega) (by omega) ((a1.fM.row 1).trans hm)
    have a5' : m_210_14 (fun a0 a1 => m_210_2 f a0 a1) ux_fuel (nI k) 0 m = m_210_2 f (nI (k + 1)) m1 := a5
    have g1 : ∀ x y, x < c → y < 32 → (z_G m1 x y ↔ z_G m x y ∨ (z_G m x k ∧ z_G m k y)) := fun x y hx hy => by
      unfold z_G
      rw [a3 x (by omega) hx y hy, Bool.or_eq_true, Bool.and_eq_true]
    rw [p_210_2, m_210_2, z_c1, hm, if_neg hle, a5']
    refine ⟨⟨z_v1, fun y => absurd y hle, fun _ => a4 b1⟩, a1.tr b2, fun x y hx hy h => b3 x y hx hy ((g1 x y hx hy).mpr (.inl h)), fun T tt h => b4 T tt (fun x y hx hy q => ?_), fun h => b5 (fun x z y hx hz hy q1 q2 => ?_)⟩
    · rcases (g1 x y hx hy).mp q with q | ⟨q, q'⟩
      · exact h x y hx hy q
      · exact tt x k y (h x k hx k32 q) (h k y hkc hy q')
    · rw [g1 x y hx hy]
      rw [g1 x z hx (by omega)] at q1
      rw [g1 z y (by omega) hy] at q2
      by_cases zk : z = k
      · subst zk
        have l : z_G m x z := q1.elim id (fun q => q.1)
        have r : z_G m z y := q2.elim id (fun q => q.2)
        exact .inr ⟨l, r⟩
      · have zk' : z < k := by omega
        rcases q1 with q1 | ⟨q1, q1'⟩
        · rcases q2 with q2 | ⟨q2, q2'⟩
          · exact .inl (h x z y hx zk' hy q1 q2)
          · exact .inr ⟨h x z k hx zk' k32 q1 q2, q2'⟩
        · rcases q2 with q2 | ⟨q2, q2'⟩
          · exact .inr ⟨q1, h k z y hkc zk' hy q1' q2⟩
          · exact .inr ⟨q1, q2'⟩
end ZC3
