/-! THE REFERENCE'S TRANSACTION: adding a job -/
def z_j (m : ux_M) (T w : Nat) : Bool := bt (m 5 950305 0 T) w
def z_e (m : ux_M) (T w : Nat) : Bool := bt (m 5 966689 0 T) w
def z_bw (m : ux_M) (T w : Nat) : Bool := bt (m 5 983073 0 T) w
def z_ch (m : ux_M) : Int32 := m 5 819253 0 18
def z_ht (m : ux_M) : Int32 := m 5 819253 0 19
/-- the sets that grow: jobs that start, restarts, stops, essential starts, essential stops -/
def z_V (m : ux_M) : Nat → Nat → Bool
  | 0, w => z_j m 1 w || z_j m 3 w
  | 1, w => z_j m 3 w
  | 2, w => z_j m 2 w
  | 3, w => z_e m 1 w || z_e m 3 w
  | 4, w => z_e m 2 w
  | _, _ => false
/-- the sets that a job of type T goes into -/
def z_ad (T : Nat) (z : Bool) (X : Nat) : Bool := (decide (T = 1) && (decide (X = 0) || (decide (X = 3) && z))) || (decide (T = 2) && (decide (X = 2) || (decide (X = 4) && z))) || (decide (T = 3) && (decide (X = 0) || decide (X = 1) || decide (X = 3)))
/-- what holds at each step -/
def z_tv (m : ux_M) : Prop := ∀ w, w < 32 → (z_j m 1 w && z_j m 3 w) = false ∧ z_e m 3 w = z_j m 3 w ∧ (z_e m 1 w = true → z_j m 1 w = true) ∧ (z_e m 2 w = true → z_j m 2 w = true) ∧ (16 ≤ w → z_j m 1 w = false ∧ z_j m 2 w = false ∧ z_j m 3 w = false)
section ZB1
variable {k c u T : Nat} {m m' m'' : ux_M}
theorem z_fM.rf : z_fM m m := fun _ _ _ _ _ => rfl
theorem z_fM.tr (h : z_fM m m') (h' : z_fM m' m'') : z_fM m m'' := fun a s r i q => (h' a s r i q).trans (h a s r i q)
theorem z_fM.st (h : z_fM m m') (s i : Nat) (v : Int32) (hs : (s = 819253 ∧ (i = 18 ∨ i = 19)) ∨ s = 950305 ∨ s = 966689 ∨ s = 983073 ∨ s = 999553) : z_fM m (ux_set m' 5 s 0 i v) := fun a s' r i' q => by
  rw [z_set, if_neg (fun z => q ⟨z.1, by obtain ⟨_, z2, _, z4⟩ := z; subst z2; subst z4; exact hs⟩)]
  exact h a s' r i' q
theorem z_fM.Y (h : z_fM m m') (a w : Nat) : z_Y m' a w = z_Y m a w := h 5 844257 0 _ (by omega)
theorem z_fM.row (h : z_fM m m') (i : Nat) : m' 5 844257 0 i = m 5 844257 0 i := h 5 844257 0 _ (by omega)
theorem z_k4 (h : T < 4) : vp_in (nI T) 4 := z_in h (by omega)
theorem z_b197 (hT : T < 4) (hu : u < 16) (z z0 : Int32) (h0 : z0 = 0 ∨ z0 = 1) (m : ux_M) : p_199_197 (nI u) (nI T) z z0 m
    ∧ z_fM m (m_199_197 (nI u) (nI T) z z0 m) ∧ (∀ X, m_199_197 (nI u) (nI T) z z0 m 5 983073 0 X = m 5 983073 0 X) ∧ z_ht (m_199_197 (nI u) (nI T) z z0 m) = z_ht m ∧ z_ch (m_199_197 (nI u) (nI T) z z0 m) = z0
    ∧ ∀ X w, w < 32 → z_j (m_199_197 (nI u) (nI T) z z0 m) X w = (z_j m X w || (decide (X = T) && decide (w = u))) ∧ z_e (m_199_197 (nI u) (nI T) z z0 m) X w = (z_e m X w || (decide (X = T) && decide (w = u) && decide (¬ z = 0))) := by
  have k4 := z_k4 hT
  have hu32 : u < 32 := by omega
  have eT : (nI T).toNatClampNeg = T := z_cl (by omega)
  refine ⟨⟨h0, fun _ _ => ⟨k4, k4, fun _ _ => ⟨k4, fun _ => k4, fun _ => k4⟩⟩⟩, ?_⟩
  unfold m_199_197
  simp only [eT]
  split
  · rename_i hz
    refine ⟨((z_fM.rf.st _ _ _ (by omega)).st _ _ _ (by omega)).st _ _ _ (by omega), fun X => ?_, ?_, ?_, fun X w hw => ⟨?_, ?_⟩⟩
    · simp [z_set]
    · unfold z_ht; simp [z_set]
    · unfold z_ch; simp [z_set]
    · unfold z_j
      by_cases q : X = T
      · subst q; simp [z_set, b_or, z_bit hu32 hw]
      · simp [z_set, q]
    · unfold z_e
      by_cases q : X = T
      · subst q; simp [z_set, b_or, b_0, hz]
      · simp [z_set, q]
  · rename_i hz
    refine ⟨((z_fM.rf.st _ _ _ (by omega)).st _ _ _ (by omega)).st _ _ _ (by omega), fun X => ?_, ?_, ?_, fun X w hw => ⟨?_, ?_⟩⟩
    · simp [z_set]
    · unfold z_ht; simp [z_set]
    · unfold z_ch; simp [z_set]
    · unfold z_j
      by_cases q : X = T
      · subst q; simp [z_set, b_or, z_bit hu32 hw]
      · simp [z_set, q]
    · unfold z_e
      by_cases q : X = T
      · subst q; simp [z_set, b_or, z_bit hu32 hw, hz]
      · simp [z_set, q]
/-- the flag of changes -/
theorem z_b151 (hT : T < 4) (hu : u < 16) (z : Int32) (m : ux_M) : p_199_151 (nI u) (nI T) z m
    ∧ z_fM m (m_199_151 (nI u) (nI T) z m) ∧ (∀ X, m_199_151 (nI u) (nI T) z m 5 983073 0 X = m 5 983073 0 X) ∧ z_ht (m_199_151 (nI u) (nI T) z m) = z_ht m
    ∧ (z_ch (m_199_151 (nI u) (nI T) z m) = if z_ch m = 0 ∧ z_j m T u = true ∧ (z = 0 ∨ z_e m T u = true) then 0 else 1)
    ∧ ∀ X w, w < 32 → z_j (m_199_151 (nI u) (nI T) z m) X w = (z_j m X w || (decide (X = T) && decide (w = u))) ∧ z_e (m_199_151 (nI u) (nI T) z m) X w = (z_e m X w || (decide (X = T) && decide (w = u) && decide (¬ z = 0))) := by
  have k4 := z_k4 hT
  have hu32 : u < 32 := by omega
  have eT : (nI T).toNatClampNeg = T := z_cl (by omega)
  obtain ⟨y0, y1, y2, y3, y4, y5⟩ := z_b197 hT hu z 1 (by simp) m
  obtain ⟨n0, n1, n2, n3, n4, n5⟩ := z_b197 hT hu z 0 (by simp) m
  have e18 : m 5 819253 0 18 = z_ch m := rfl
  have ej : bt (m 5 950305 0 T) u = z_j m T u := rfl
  have ee : bt (m 5 966689 0 T) u = z_e m T u := rfl
  unfold p_199_151 m_199_151 p_199_192 p_199_196 m_199_192 m_199_196
  simp only [eT, z_shr1 _ hu32, e18, ej, ee]
  refine ⟨⟨fun _ => y0, fun _ => ⟨k4, fun _ => y0, fun _ => ⟨fun _ => n0, fun _ => ⟨k4, fun _ => n0, fun _ => y0⟩⟩⟩⟩, ?_⟩
  by_cases q1 : z_ch m = 0
  · by_cases q2 : z_j m T u = true
    · by_cases q3 : z = 0
      · rw [if_pos q1, if_pos q2, if_pos q3, if_pos ⟨q1, q2, .inl q3⟩]; exact ⟨n1, n2, n3, n4, n5⟩
      · by_cases q4 : z_e m T u = true
        · rw [if_pos q1, if_pos q2, if_neg q3, if_pos q4, if_pos ⟨q1, q2, .inr q4⟩]; exact ⟨n1, n2, n3, n4, n5⟩
        · rw [if_pos q1, if_pos q2, if_neg q3, if_neg q4, if_neg (fun h => h.2.2.elim q3 q4)]; exact ⟨y1, y2, y3, y4, y5⟩
    · rw [if_pos q1, if_neg q2, if_neg (fun h => q2 h.2.1)]; exact ⟨y1, y2, y3, y4, y5⟩
  · rw [if_neg q1, if_neg (fun h => q1 h.1)]; exact ⟨y1, y2, y3, y4, y5⟩
end ZB1
