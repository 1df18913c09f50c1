/-! THE REFERENCE'S TRANSACTION: needless jobs -/
def z_f8 (m m' : ux_M) : Prop := ∀ a s r i, ¬ (a = 5 ∧ s = 950305) → m' a s r i = m a s r i
def z_nl1 (m : ux_M) (c w : Nat) : Bool := decide (w < c) && decide (z_Y m 29 w = 0) && decide (z_Y m 28 w = 2)
def z_nl2 (m : ux_M) (c w : Nat) : Bool := decide (w < c) && decide (z_Y m 29 w = 0) && (decide (z_Y m 28 w = 0) || decide (z_Y m 28 w = 4))
section ZC6
variable {k c x n : Nat} {m m' m'' : ux_M}
theorem z_f8.rf : z_f8 m m := fun _ _ _ _ _ => rfl
theorem z_f8.tr (h : z_f8 m m') (h' : z_f8 m' m'') : z_f8 m m'' := fun a s r i q => (h' a s r i q).trans (h a s r i q)
theorem z_f8.st (m : ux_M) (i : Nat) (v : Int32) : z_f8 m (ux_set m 5 950305 0 i v) := fun a s r j q => by
  rw [z_set, if_neg (fun z => q ⟨z.1, z.2.1⟩)]
theorem z_f8.fM (h : z_f8 m m') : z_fM m m' := fun a s r i q => h a s r i (fun z => q ⟨z.1, by omega⟩)
theorem z_f8.n1 (h : z_f8 m m') (w : Nat) : z_nl1 m' c w = z_nl1 m c w := by unfold z_nl1; rw [h.fM.Y, h.fM.Y]
theorem z_f8.n2 (h : z_f8 m m') (w : Nat) : z_nl2 m' c w = z_nl2 m c w := by unfold z_nl2; rw [h.fM.Y, h.fM.Y]
/-- a bit is cleared in a row -/
theorem z_cbt (hx : x < 32) (T : Nat) {X w : Nat} (hw : w < 32) : z_j (ux_set m 5 950305 0 T (m 5 950305 0 T &&& (((1 : Int32) <<< (nI x &&& 31)) ^^^ ((-1) : Int32)))) X w = (z_j m X w && !(decide (X = T) && decide (w = x))) := by
  unfold z_j
  by_cases q : X = T
  · subst q; rw [z_ss, b_and, z_not _ hw, z_bit hx hw]; simp
  · rw [z_si q]; simp [q]
/-- DROPSNEEDLESS, from the i-th unit -/
theorem z_l205 (hc : c ≤ 16) : ∀ (n f i : Nat) (m : ux_M), i + n = c → n < f → m 5 844257 0 1 = nI c →
    p_205_2 f (nI i) m ∧ z_f8 m (m_205_2 f (nI i) m) ∧ ∀ X w, w < 32 → z_j (m_205_2 f (nI i) m) X w = (z_j m X w && !(decide (i ≤ w) && ((decide (X = 1) && z_nl1 m c w) || (decide (X = 2) && z_nl2 m c w)))) := by
  intro n
  induction n with
  | zero =>
    intro f i m hi hf hm
    obtain ⟨f, rfl⟩ : ∃ g, f = g + 1 := ⟨f - 1, by omega⟩
    have hle := z_yle (show c ≤ i by omega) (by omega)
    rw [p_205_2, m_205_2, z_c1, hm, if_pos hle]
    refine ⟨⟨z_v1, fun _ => trivial, fun y => absurd hle y⟩, z_f8.rf, fun X w _ => ?_⟩
    by_cases q : i ≤ w
    · have : ¬ w < c := by omega
      simp [z_nl1, z_nl2, this]
    · simp [q]
  | succ n ih =>
    intro f i m hi hf hm
    obtain ⟨f, rfl⟩ : ∃ g, f = g + 1 := ⟨f - 1, by omega⟩
    have hic : i < c := by omega
    have i16 : i < 16 := by omega
    have i32 : i < 32 := by omega
    have hle := z_nle hic hc
    -- after a step
    have step : ∀ m1, z_f8 m m1 → (∀ X w, w < 32 → z_j m1 X w = (z_j m X w && !(decide (w = i) && ((decide (X = 1) && z_nl1 m c w) || (decide (X = 2) && z_nl2 m c w))))) →
        p_205_2 f (nI (i + 1)) m1 ∧ z_f8 m (m_205_2 f (nI (i + 1)) m1) ∧ ∀ X w, w < 32 → z_j (m_205_2 f (nI (i + 1)) m1) X w = (z_j m X w && !(decide (i ≤ w) && ((decide (X = 1) && z_nl1 m c w) || (decide (X = 2) && z_nl2 m c w)))) := fun m1 h1 h2 => by
      obtain ⟨r1, r2, r3⟩ := ih f (i + 1) m1 (by omega) (by omega) ((h1.fM.row 1).trans hm)
      refine ⟨r1, h1.tr r2, fun X w hw => ?_⟩
      rw [r3 X w hw, h2 X w hw, h1.n1, h1.n2]
      by_cases q : w = i
      · subst q
        have : ¬ w + 1 ≤ w := by omega
        simp [this]
      · rw [z_lei _ _ q]; simp [q]
    rw [p_205_2, m_205_2, z_c1, hm, if_neg hle]
    simp only [of29 _ i16, of28 _ i16, z_nx, z_c1, z_c2]
    by_cases q0 : z_Y m 29 i = 0
    · rw [if_pos q0]
      by_cases q2 : z_Y m 28 i = 2
      · have s := step _ (z_f8.st m 1 _) (fun X w hw => by
          rw [z_cbt i32 1 hw]
          by_cases q : w = i
          · subst q
            have : z_nl1 m c w = true := by simp [z_nl1, hic, q0, q2]
            have t : z_nl2 m c w = false := by simp [z_nl2, q2]
            simp [this, t]
          · simp [q])
        have n0 : ¬ z_Y m 28 i = 0 := by rw [q2]; decide
        have n4 : ¬ z_Y m 28 i = 4 := by rw [q2]; decide
        rw [if_pos q2, if_neg n0, if_neg n4]
        exact ⟨⟨z_v1, fun y => absurd y hle, fun _ => ⟨uu29 i16, fun _ => ⟨uu28 i16, fun y => absurd q2 y, fun _ => ⟨z_k1, z_k1, fun M4 e => by subst e; exact ⟨fun y => absurd y n0, fun _ => ⟨fun _ => s.1, fun y => absurd y n4⟩⟩⟩⟩, fun y => absurd q0 y⟩⟩, s.2⟩
      · have t1 : z_nl1 m c i = false := by simp [z_nl1, q2]
        rw [if_neg q2]
        by_cases q3 : z_Y m 28 i = 0
        · have s := step _ (z_f8.st m 2 _) (fun X w hw => by
            rw [z_cbt i32 2 hw]
            by_cases q : w = i
            · subst q
              have t : z_nl2 m c w = true := by simp [z_nl2, hic, q0, q3]
              simp [t1, t]
            · simp [q])
          rw [if_pos q3]
          exact ⟨⟨z_v1, fun y => absurd y hle, fun _ => ⟨uu29 i16, fun _ => ⟨uu28 i16, fun _ => ⟨fun _ => ⟨z_k2, z_k2, fun M1 e => by subst e; exact s.1⟩, fun y => absurd q3 y⟩, fun y => absurd y q2⟩, fun y => absurd q0 y⟩⟩, s.2⟩
        · rw [if_neg q3]
          by_cases q4 : z_Y m 28 i = 4
          · have s := step _ (z_f8.st m 2 _) (fun X w hw => by
              rw [z_cbt i32 2 hw]
              by_cases q : w = i
              · subst q
                have t : z_nl2 m c w = true := by simp [z_nl2, hic, q0, q4]
                simp [t1, t]
              · simp [q])
            rw [if_pos q4]
            exact ⟨⟨z_v1, fun y => absurd y hle, fun _ => ⟨uu29 i16, fun _ => ⟨uu28 i16, fun _ => ⟨fun y => absurd y q3, fun _ => ⟨fun y => absurd q4 y, fun _ => ⟨z_k2, z_k2, fun M1 e => by subst e; exact s.1⟩⟩⟩, fun y => absurd y q2⟩, fun y => absurd q0 y⟩⟩, s.2⟩
          · have s := step m z_f8.rf (fun X w hw => by
              by_cases q : w = i
              · subst q
                have t : z_nl2 m c w = false := by simp [z_nl2, q3, q4]
                simp [t1, t]
              · simp [q])
            rw [if_neg q4]
            exact ⟨⟨z_v1, fun y => absurd y hle, fun _ => ⟨uu29 i16, fun _ => ⟨uu28 i16, fun _ => ⟨fun y => absurd y q3, fun _ => ⟨fun _ => s.1, fun y => absurd y q4⟩⟩, fun y => absurd y q2⟩, fun y => absurd q0 y⟩⟩, s.2⟩
    · have s := step m z_f8.rf (fun X w hw => by
        by_cases q : w = i
        · subst q; simp [z_nl1, z_nl2, q0]
        · simp [q])
      rw [if_neg q0]
      exact ⟨⟨z_v1, fun y => absurd y hle, fun _ => ⟨uu29 i16, fun y => absurd y q0, fun _ => s.1⟩⟩, s.2⟩
/-- DROPSNEEDLESS -/
theorem z_205 (hc : c ≤ 16) (hm : m 5 844257 0 1 = nI c) : p_205 m ∧ z_f8 m (m_205 m) ∧ ∀ X w, w < 32 → z_j (m_205 m) X w = (z_j m X w && !((decide (X = 1) && z_nl1 m c w) || (decide (X = 2) && z_nl2 m c w))) := by
  obtain ⟨r1, r2, r3⟩ := z_l205 hc c ux_fuel 0 m (by omega) (by have := z_fuel; omega) hm
  exact ⟨r1, r2, fun X w hw => (r3 X w hw).trans (by simp)⟩
end ZC6
