/-! CIRCLES: the reference's, cut -/
/-- the last job of a set, or none -/
def z_lj (f : Nat → Bool) : Nat → Nat → Int32 → Int32
  | 0, _, x => x
  | n + 1, i, x => z_lj f n (i + 1) (if f i = true then nI i else x)
/-- in a circle -/
noncomputable def z_cir (m : ux_M) (w : Nat) : Bool := bt (m 5 999553 0 w) w
/-- its job is essential -/
noncomputable def z_ess (m : ux_M) (w : Nat) : Bool := bt (m 5 966689 0 (r_208 (nI w) m).toNatClampNeg) w
section ZC4
variable {k c x n : Nat} {m m' m'' : ux_M}
theorem z_o207 (hc : c ≤ 16) : ∀ (n f x : Nat) (m : ux_M), x + n = c → n < f → m 5 844257 0 1 = nI c →
    ∃ m', z_f9 m m' ∧ (∀ y, x ≤ y → y < c → ∀ w, w < 32 → bt (m' 5 999553 0 y) w = (decide (w < c) && z_fe m y w)) ∧ (∀ y, ¬ (x ≤ y ∧ y < c) → m' 5 999553 0 y = m 5 999553 0 y)
      ∧ (p_210 m' → p_207_2 f (nI x) m) ∧ m_207_2 f (nI x) m = m_210 m' := by
  intro n
  induction n with
  | zero =>
    intro f x m hx hf hm
    obtain ⟨f, rfl⟩ : ∃ g, f = g + 1 := ⟨f - 1, by omega⟩
    have hle := z_yle (show c ≤ x by omega) (by omega)
    rw [p_207_2, m_207_2, z_c1, hm, if_pos hle]
    exact ⟨m, z_f9.rf, fun y h1 h2 => by omega, fun _ _ => rfl, fun q => ⟨z_v1, fun _ => q, fun y => absurd hle y⟩, rfl⟩
  | succ n ih =>
    intro f x m hx hf hm
    obtain ⟨f, rfl⟩ : ∃ g, f = g + 1 := ⟨f - 1, by omega⟩
    have hxc : x < c := by omega
    have x16 : x < 16 := by omega
    have hle := z_nle hxc hc
    have f9 := z_f9.st m x 0
    obtain ⟨m1, a1, a2, a3, a4, a5⟩ := z_l207 hxc hc (fun a0 a1 => p_207_2 f a0 a1) (fun a0 a1 => m_207_2 f a0 a1) c ux_fuel 0 _ (by omega) (by have := z_fuel; omega) ((f9.fM.row 1).trans hm)
    have f1 := f9.tr a1
    obtain ⟨m2, b1, b2, b3, b4, b5⟩ := ih f (x + 1) m1 (by omega) (by omega) ((f1.fM.row 1).trans hm)
    have a5' : m_207_21 (fun a0 a1 => m_207_2 f a0 a1) ux_fuel (nI x) 0 (ux_set m 5 999553 0 x 0) = m_207_2 f (nI (x + 1)) m1 := a5
    rw [p_207_2, m_207_2, z_c1, hm, if_neg hle]
    simp only [z_cl x16]
    refine ⟨m2, f1.tr b1, fun y h1 h2 w hw => ?_, fun y hy => ?_, fun q => ⟨z_v1, fun y => absurd y hle, fun _ => ⟨z_i16 x16, fun M4 e => by subst e; exact a4 (b4 q)⟩⟩, a5'.trans b5⟩
    · by_cases q : y = x
      · subst q
        rw [b3 y (by omega), a3 w hw, z_ss, b_0, f9.fe]; simp
      · rw [b2 y (by omega) h2 w hw, f1.fe]
    · rw [b3 y (by omega), a2 y (by omega), z_si (by omega)]
/-- LAYSREACH -/
theorem z_207 (hc : c ≤ 16) (hm : m 5 844257 0 1 = nI c) : p_207 m ∧ z_f9 m (m_207 m) ∧ ∀ x w, x < c → w < 32 → (z_G (m_207 m) x w ↔ z_tc (fun x y => x < c ∧ y < c ∧ z_fe m x y = true) x w) := by
  obtain ⟨m1, a1, a2, a3, a4, a5⟩ := z_o207 hc c ux_fuel 0 m (by omega) (by have := z_fuel; omega) hm
  obtain ⟨b1, b2, b3, b4, b5⟩ := z_m210 hc c ux_fuel 0 m1 (by omega) (by have := z_fuel; omega) ((a1.fM.row 1).trans hm)
  have e : m_207 m = m_210_2 ux_fuel (nI 0) m1 := a5
  have g1 : ∀ x y, x < c → y < 32 → (z_G m1 x y ↔ x < c ∧ y < c ∧ z_fe m x y = true) := fun x y hx hy => by
    unfold z_G
    rw [a2 x (by omega) hx y hy, Bool.and_eq_true, decide_eq_true_eq]
    exact ⟨fun h => ⟨hx, h⟩, fun h => h.2⟩
  refine ⟨a4 b1, by rw [e]; exact a1.tr b2, fun x w hx hw => ?_⟩
  rw [e]
  constructor
  · exact b4 (z_tc (fun x y => x < c ∧ y < c ∧ z_fe m x y = true)) (fun _ _ _ h h' => h.tr h') (fun x y hx hy h => z_tc.one ((g1 x y hx hy).mp h)) x w hx hw
  · intro h
    have cl := b5 (fun _ _ _ _ z => absurd z (by omega))
    have mo := fun x y hx hy h => b3 x y hx hy ((g1 x y hx hy).mpr h)
    exact (z_tc.lst (P := fun v => v < c ∧ z_G (m_210_2 ux_fuel (nI 0) m1) x v) (fun y z p q => ⟨q.2.1, cl x y z hx p.1 (by have := q.2.1; omega) p.2 (mo y z p.1 (by have := q.2.1; omega) q)⟩) (fun v q => ⟨q.2.1, mo x v hx (by have := q.2.1; omega) q⟩) h).2
/-- the search for the job to cut -/
theorem z_l206 (hc : c ≤ 16) (hm : m 5 844257 0 1 = nI c) (ht : ∀ w, w < c → z_cir m w = true → r_208 (nI w) m = 1 ∨ r_208 (nI w) m = 2 ∨ r_208 (nI w) m = 3) : ∀ (n f i : Nat) (x1 x2 : Int32), i + n = c → n < f → (x1 = -1 ∨ ∃ v, v < i ∧ x1 = nI v ∧ z_cir m v = true) → (x2 = 0 ∨ x2 = 1) →
    p_206_10 f x1 x2 (nI i) m ∧
    ∃ x1' x2' : Int32, x1' = z_lj (fun w => z_cir m w && !z_ess m w) n i x1 ∧ (x2' = 0 ↔ x2 = 0 ∧ ∀ w, i ≤ w → w < c → z_cir m w = false)
      ∧ r_206_10 f x1 x2 (nI i) m = (if x2' = 0 then 0 else if x1' = -1 then (-4) else 1)
      ∧ m_206_10 f x1 x2 (nI i) m = (if x2' = 0 then m else if x1' = -1 then m else ux_set m 5 983073 0 (r_208 x1' m).toNatClampNeg (m 5 983073 0 (r_208 x1' m).toNatClampNeg ||| ((1 : Int32) <<< (x1' &&& 31)))) := by
  have v4 : ∀ w, w < c → z_cir m w = true → vp_in (r_208 (nI w) m) 4 := fun w h q => by
    rcases ht w h q with e | e | e
    · rw [e]; exact z_k1
    · rw [e]; exact z_k2
    · rw [e]; exact z_k3
  intro n
  induction n with
  | zero =>
    intro f i x1 x2 hi hf hx1 hx2
    obtain ⟨f, rfl⟩ : ∃ g, f = g + 1 := ⟨f - 1, by omega⟩
    have hle := z_yle (show c ≤ i by omega) (by omega)
    rw [p_206_10, r_206_10, m_206_10, z_c1, hm, if_pos hle, if_pos hle]
    refine ⟨⟨z_v1, fun _ => ⟨fun _ => ⟨fun y => ?_, fun _ => trivial⟩, fun _ => trivial⟩, fun y => absurd hle y⟩, x1, x2, rfl, ⟨fun h => ⟨h, fun w _ _ => by omega⟩, fun h => h.1⟩, rfl, rfl⟩
    rcases hx1 with e | ⟨v, hv, e, q⟩
    · exact absurd e y
    · subst e; exact ⟨z_p208 _ _, v4 v (by omega) q, v4 v (by omega) q⟩
  | succ n ih =>
    intro f i x1 x2 hi hf hx1 hx2
    obtain ⟨f, rfl⟩ : ∃ g, f = g + 1 := ⟨f - 1, by omega⟩
    have hic : i < c := by omega
    have i16 : i < 16 := by omega
    have i32 : i < 32 := by omega
    have hle := z_nle hic hc
    have ec : bt (m 5 999553 0 i) i = z_cir m i := rfl
    have ee : bt (m 5 966689 0 (r_208 (nI i) m).toNatClampNeg) i = z_ess m i := rfl
    have hx1' : x1 = -1 ∨ ∃ v, v < i + 1 ∧ x1 = nI v ∧ z_cir m v = true := hx1.imp id (fun ⟨v, h, q⟩ => ⟨v, by omega, q⟩)
    rw [p_206_10, r_206_10, m_206_10, z_c1, hm, if_neg hle, if_neg hle]
    simp only [z_cl i16, z_shr1 _ i32, ec, ee, z_nx]
    cases e : z_cir m i
    · obtain ⟨r1, y1, y2, r2, r3, r4, r5⟩ := ih f (i + 1) x1 x2 (by omega) (by omega) hx1' hx2
      rw [if_neg (show ¬ (false = true) by decide), if_neg (show ¬ (false = true) by decide)]
      refine ⟨⟨z_v1, fun y => absurd y hle, fun _ => ⟨z_i16 i16, fun y => absurd y (by decide), fun _ => r1⟩⟩, y1, y2, ?_, r3.trans ?_, r4, r5⟩
      · rw [r2, z_lj, e]; simp
      · constructor
        · rintro ⟨a, b⟩
          refine ⟨a, fun w h1 h2 => ?_⟩
          by_cases q : w = i
          · subst q; exact e
          · exact b w (by omega) h2
        · rintro ⟨a, b⟩; exact ⟨a, fun w h1 h2 => b w (by omega) h2⟩
    · have p4 := v4 i hic e
      have key : ∀ x1n, (x1n = -1 ∨ ∃ v, v < i + 1 ∧ x1n = nI v ∧ z_cir m v = true) → x1n = (if (z_cir m i && !z_ess m i) = true then nI i else x1) → p_206_10 f x1n 1 (nI (i + 1)) m ∧
          ∃ x1' x2' : Int32, x1' = z_lj (fun w => z_cir m w && !z_ess m w) (n + 1) i x1 ∧ (x2' = 0 ↔ x2 = 0 ∧ ∀ w, i ≤ w → w < c → z_cir m w = false)
            ∧ r_206_10 f x1n 1 (nI (i + 1)) m = (if x2' = 0 then 0 else if x1' = -1 then (-4) else 1)
            ∧ m_206_10 f x1n 1 (nI (i + 1)) m = (if x2' = 0 then m else if x1' = -1 then m else ux_set m 5 983073 0 (r_208 x1' m).toNatClampNeg (m 5 983073 0 (r_208 x1' m).toNatClampNeg ||| ((1 : Int32) <<< (x1' &&& 31)))) := fun x1n hn en => by
        obtain ⟨r1, y1, y2, r2, r3, r4, r5⟩ := ih f (i + 1) x1n 1 (by omega) (by omega) hn (.inr rfl)
        refine ⟨r1, y1, y2, ?_, r3.trans ?_, r4, r5⟩
        · rw [r2, z_lj, ← en]
        · constructor
          · rintro ⟨a, _⟩; exact absurd a (by decide)
          · rintro ⟨_, b⟩
            have := b i (Nat.le_refl _) hic
            rw [e] at this; cases this
      rw [if_pos rfl, if_pos rfl]
      cases e2 : z_ess m i
      · obtain ⟨s1, s2⟩ := key (nI i) (.inr ⟨i, by omega, rfl, e⟩) (by rw [e, e2]; rfl)
        rw [if_neg (show ¬ (false = true) by decide), if_neg (show ¬ (false = true) by decide)]
        exact ⟨⟨z_v1, fun y => absurd y hle, fun _ => ⟨z_i16 i16, fun _ => ⟨z_p208 _ _, p4, fun _ => s1, fun y => absurd y (by decide)⟩, fun y => absurd rfl y⟩⟩, s2⟩
      · obtain ⟨s1, s2⟩ := key x1 hx1' (by rw [e, e2]; rfl)
        rw [if_pos rfl, if_pos rfl]
        exact ⟨⟨z_v1, fun y => absurd y hle, fun _ => ⟨z_i16 i16, fun _ => ⟨z_p208 _ _, p4, fun y => absurd rfl y, fun _ => s1⟩, fun y => absurd rfl y⟩⟩, s2⟩
theorem z_lj.of {f : Nat → Bool} : ∀ (n i : Nat) (x : Int32), i + n ≤ 16 → (z_lj f n i x = x ∧ ∀ w, i ≤ w → w < i + n → f w = false) ∨ ∃ v, i ≤ v ∧ v < i + n ∧ z_lj f n i x = nI v ∧ f v = true ∧ ∀ w, v < w → w < i + n → f w = false
  | 0, i, x, _ => .inl ⟨rfl, fun w h1 h2 => absurd h2 (by omega)⟩
  | n + 1, i, x, h => by
    rw [z_lj]
    cases e : f i
    · rw [if_neg (by decide)]
      rcases z_lj.of n (i + 1) x (by omega) with ⟨a, b⟩ | ⟨v, a1, a2, a3, a4, a5⟩
      · refine .inl ⟨a, fun w h1 h2 => ?_⟩
        by_cases q : w = i
        · subst q; exact e
        · exact b w (by omega) (by omega)
      · exact .inr ⟨v, by omega, by omega, a3, a4, fun w h1 h2 => a5 w h1 (by omega)⟩
    · rw [if_pos rfl]
      rcases z_lj.of n (i + 1) (nI i) (by omega) with ⟨a, b⟩ | ⟨v, a1, a2, a3, a4, a5⟩
      · exact .inr ⟨i, by omega, by omega, a, e, fun w h1 h2 => b w (by omega) (by omega)⟩
      · exact .inr ⟨v, by omega, by omega, a3, a4, fun w h1 h2 => a5 w h1 (by omega)⟩
theorem z_nm3 {v : Nat} (h : v < 16) : ¬ nI v = (-1 : Int32) := by
  revert v; decide
/-- CUTS -/
theorem z_206 (hc : c ≤ 16) (hm : m 5 844257 0 1 = nI c) (ht : ∀ w, w < c → z_cir (m_207 m) w = true → r_208 (nI w) m = 1 ∨ r_208 (nI w) m = 2 ∨ r_208 (nI w) m = 3) : p_206 m ∧
    (((∀ w, w < c → z_cir (m_207 m) w = false) ∧ r_206 m = 0 ∧ z_f9 m (m_206 m))
     ∨ ((∃ w, w < c ∧ z_cir (m_207 m) w = true) ∧ (∀ w, w < c → z_cir (m_207 m) w = true → z_ess m w = true) ∧ r_206 m = -4 ∧ z_f9 m (m_206 m))
     ∨ ∃ v, v < c ∧ z_cir (m_207 m) v = true ∧ z_ess m v = false ∧ (∀ w, v < w → w < c → z_cir (m_207 m) w = true → z_ess m w = true) ∧ r_206 m = 1
        ∧ ∃ m', z_f9 m m' ∧ m_206 m = ux_set m' 5 983073 0 (r_208 (nI v) m).toNatClampNeg (m' 5 983073 0 (r_208 (nI v) m).toNatClampNeg ||| ((1 : Int32) <<< (nI v &&& 31)))) := by
  obtain ⟨a1, a2, a3⟩ := z_207 hc hm
  have es : ∀ w, z_ess (m_207 m) w = z_ess m w := fun w => by unfold z_ess; rw [a2.t8, a2 5 966689 0 _ (by omega)]
  obtain ⟨r1, y1, y2, r2, r3, r4, r5⟩ := z_l206 hc ((a2.fM.row 1).trans hm) (fun w h q => by rw [a2.t8]; exact ht w h q) c ux_fuel 0 (-1) 0 (by omega) (by have := z_fuel; omega) (.inl rfl) (.inl rfl)
  have r4' : r_206 m = (if y2 = 0 then 0 else if y1 = -1 then (-4) else 1) := r4
  have r5' : m_206 m = (if y2 = 0 then m_207 m else if y1 = -1 then m_207 m else ux_set (m_207 m) 5 983073 0 (r_208 y1 (m_207 m)).toNatClampNeg (m_207 m 5 983073 0 (r_208 y1 (m_207 m)).toNatClampNeg ||| ((1 : Int32) <<< (y1 &&& 31)))) := r5
  refine ⟨⟨a1, r1⟩, ?_⟩
  by_cases q : y2 = 0
  · rw [if_pos q] at r4' r5'
    exact .inl ⟨fun w h => (r3.mp q).2 w (by omega) h, r4', by rw [r5']; exact a2⟩
  · rw [if_neg q] at r4' r5'
    have ex : ∃ w, w < c ∧ z_cir (m_207 m) w = true := by
      apply Classical.byContradiction
      intro y
      refine q (r3.mpr ⟨rfl, fun w _ h => ?_⟩)
      cases e : z_cir (m_207 m) w
      · rfl
      · exact absurd ⟨w, h, e⟩ y
    rcases z_lj.of (f := fun w => z_cir (m_207 m) w && !z_ess (m_207 m) w) c 0 (-1) (by omega) with ⟨b1, b2⟩ | ⟨v, b1, b2, b3, b4, b5⟩
    · rw [← r2] at b1
      rw [if_pos b1] at r4' r5'
      refine .inr (.inl ⟨ex, fun w h1 h2 => ?_, r4', by rw [r5']; exact a2⟩)
      have := b2 w (by omega) (by omega)
      simp only [h2, Bool.true_and, Bool.not_eq_false'] at this
      rw [← es]; exact this
    · rw [← r2] at b3
      have n1 : ¬ y1 = -1 := by rw [b3]; exact z_nm3 (by omega)
      rw [if_neg n1] at r4' r5'
      simp only [Bool.and_eq_true, Bool.not_eq_true'] at b4
      refine .inr (.inr ⟨v, by omega, b4.1, by rw [← es]; exact b4.2, fun w h1 h2 h3 => ?_, r4', m_207 m, a2, ?_⟩)
      · have := b5 w h1 (by omega)
        simp only [h3, Bool.true_and, Bool.not_eq_false'] at this
        rw [← es]; exact this
      · rw [r5', b3, a2.t8]
end ZC4
