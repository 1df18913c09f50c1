/-! WHICH JOBS PRECEDE: both sides -/
section ZD1
variable {k c t B x b u T n : Nat} {m m' : ux_M} {M C : ux_M}
theorem z_fC.rf : z_fC k M M := fun _ _ _ _ _ => rfl
theorem z_fC.tr {M' M'' : ux_M} (h : z_fC k M M') (h' : z_fC k M' M'') : z_fC k M M'' := fun a s r i q => (h' a s r i q).trans (h a s r i q)
theorem z_fC.st {M' : ux_M} (h : z_fC k M M') (s i : Nat) (v : Int32) (hs : s = 32805 ∨ s = 278657) : z_fC k M (ux_set M' k s 0 i v) := fun a s' r i' q => by
  rw [z_set, if_neg (fun z => q ⟨z.1, by obtain ⟨_, z2, _⟩ := z; subst z2; exact hs⟩)]
  exact h a s' r i' q
theorem z_p70 {i : Nat} (hi : i < 16) (S U : Int32) (M : ux_M) : p_70 k (nI i) S U M := by
  unfold p_70; exact ⟨z_r5, z_i16 hi, fun _ => ⟨fun _ => trivial, fun _ => z_i16 hi⟩, fun _ => z_i16 hi⟩
theorem z_r70f {i : Nat} (S U : Int32) (M : ux_M) (s : Nat) (j : Nat) (v : Int32) (hs : s = 278657) : r_70 k (nI i) S U (ux_set M k s 0 j v) = r_70 k (nI i) S U M := by
  subst hs
  unfold r_70; simp only [z_so (show ¬ 540801 = 278657 by decide), z_so (show ¬ 475265 = 278657 by decide)]
theorem z_l69 : ∀ (n f i : Nat) (M : ux_M), i + n = 16 → n < f → p_69_2 f k (nI i) M ∧ (∀ a s r j, ¬ (a = k ∧ s = 278657) → m_69_2 f k (nI i) M a s r j = M a s r j)
    ∧ ∀ y, y < 16 → m_69_2 f k (nI i) M k 278657 0 y = if i ≤ y then r_70 k (nI y) (M k 32805 0 0) (M k 32805 0 2) M else M k 278657 0 y := by
  intro n
  induction n with
  | zero =>
    intro f i M hi hf
    obtain ⟨f, rfl⟩ : ∃ z, f = z + 1 := ⟨f - 1, by omega⟩
    have hle : (16 : Int32) ≤ nI i := (z_le (a := 16) (by omega) (by omega)).mpr (by omega)
    rw [p_69_2, m_69_2, if_pos hle]
    exact ⟨⟨fun _ => trivial, fun z => absurd hle z⟩, fun _ _ _ _ _ => rfl, fun y hy => (if_neg (by omega)).symm⟩
  | succ n ih =>
    intro f i M hi hf
    obtain ⟨f, rfl⟩ : ∃ z, f = z + 1 := ⟨f - 1, by omega⟩
    have i16 : i < 16 := by omega
    have hle : ¬ (16 : Int32) ≤ nI i := fun z => by have := (z_le (a := 16) (by omega) (by omega)).mp z; omega
    rw [p_69_2, m_69_2, if_neg hle]
    simp only [z_cl i16, z_nx]
    obtain ⟨r1, r2, r3⟩ := ih f (i + 1) (ux_set M k 278657 0 i (r_70 k (nI i) (M k 32805 0 0) (M k 32805 0 2) M)) (by omega) (by omega)
    refine ⟨⟨fun z => absurd z hle, fun _ => ⟨z_p70 i16 _ _ M, z_i16 i16, fun M5 e => by subst e; exact r1⟩⟩, fun a s r j q => (r2 a s r j q).trans (by rw [z_set, if_neg (fun z => q ⟨z.1, z.2.1⟩)]), fun y hy => ?_⟩
    rw [r3 y hy, z_so (show ¬ 32805 = 278657 by decide), z_so (show ¬ 32805 = 278657 by decide), z_r70f _ _ _ _ _ _ rfl]
    by_cases q : y = i
    · subst q; rw [if_neg (by omega), if_pos (Nat.le_refl _), z_ss]
    · by_cases q2 : i + 1 ≤ y
      · rw [if_pos q2, if_pos (by omega)]
      · rw [if_neg q2, if_neg (by omega), z_si q]
theorem z_b11 (p q : Bool) : (p = true ↔ q = true) → p = q := fun h => by
  cases p
  · cases q
    · rfl
    · exact absurd (h.mpr rfl) (by decide)
  · exact (h.mp rfl).symm
/-- NOTEBEFORE -/
theorem z_69 (h : z_R x b k c t B C m) (hT : z_tr k c C m) : p_69 k C ∧ (∀ a s r j, ¬ (a = k ∧ s = 278657) → m_69 k C a s r j = C a s r j)
    ∧ ∀ v, v < 16 → ∀ w, w < 32 → bt (m_69 k C k 278657 0 v) w = (decide (v < c) && decide (w < c) && z_fe m w v) := by
  obtain ⟨r1, r2, r3⟩ := z_l69 (k := k) 16 ux_fuel 0 C (by omega) (by have := z_fuel; omega)
  refine ⟨r1, r2, fun v hv w hw => ?_⟩
  have e : m_69 k C k 278657 0 v = r_70 k (nI v) (C k 32805 0 0) (C k 32805 0 2) C := (r3 v hv).trans (if_pos (Nat.zero_le _))
  rw [e]
  by_cases vc : v < c
  · rw [(z_70 h.1 vc _ _).2 w hw]
    have hcv := h.1.u16 vc
    obtain ⟨s1, s2, s3, s4, s5, s6, s7⟩ := hT v (by omega)
    obtain ⟨t1, t2, t3, t4, t5, t6, t7⟩ := hT w hw
    by_cases wc : w < c
    · obtain ⟨_, _, _, ev⟩ := z_ttp hT vc h.1.le
      obtain ⟨_, _, _, ew⟩ := z_ttp hT wc h.1.le
      have self : ∀ y, y < c → bt (z_Y m 27 y) y = false := fun y yc => by
        cases e : bt (z_Y m 27 y) y
        · rfl
        · exact absurd rfl (h.1.rb yc 5 (by omega) y e).2
      have sv := self v vc
      unfold z_fe z_pc
      rw [ev, ew, s1, s3, t1, t3]
      simp only [vc, wc, decide_true, Bool.true_and]
      by_cases vw : v = w
      · subst vw
        rw [sv]
        simp
      · simp only [vw, not_false_eq_true, decide_true, Bool.true_and]
        cases a1 : bt (m 5 950305 0 1) v <;> cases a2 : bt (m 5 950305 0 2) v <;> cases a3 : bt (m 5 950305 0 3) v <;>
          cases b1 : bt (m 5 950305 0 1) w <;> cases b2 : bt (m 5 950305 0 2) w <;> cases b3 : bt (m 5 950305 0 3) w <;>
          first
            | (rw [a1, a2] at s4; exact absurd s4 (by decide))
            | (rw [a1, a3] at s5; exact absurd s5 (by decide))
            | (rw [a2, a3] at s6; exact absurd s6 (by decide))
            | (rw [b1, b2] at t4; exact absurd t4 (by decide))
            | (rw [b1, b3] at t5; exact absurd t5 (by decide))
            | (rw [b2, b3] at t6; exact absurd t6 (by decide))
            | (simp; done)
            | (cases bt (z_Y m 27 v) w <;> cases bt (z_Y m 27 w) v <;> simp <;> decide)
    · have wz : bt (z_Y m 27 v) w = false := by
        cases e : bt (z_Y m 27 v) w
        · rfl
        · exact absurd (h.1.rb vc 5 (by omega) w e).1 wc
      rw [wz]
      simp [wc]
  · obtain ⟨s1, s2, s3, _⟩ := hT v (by omega)
    have f0 : bt (C k 32805 0 0) v = false := by rw [s1]; simp [vc]
    have f2 : bt (C k 32805 0 2) v = false := by rw [s3]; simp [vc]
    have : r_70 k (nI v) (C k 32805 0 0) (C k 32805 0 2) C = 0 := by
      unfold r_70
      simp only [z_shr _ (show v < 32 by omega), f0, f2, if_true]
    rw [this, b_0]; simp [vc]
end ZD1
