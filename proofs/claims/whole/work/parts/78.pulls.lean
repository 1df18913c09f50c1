/-! THE REFERENCE'S TRANSACTION: what a job pulls -/
def z_Fo (m : ux_M) (c u w : Nat) : Bool := decide (w < c) && (bt (z_Y m 22 w) u || bt (z_Y m 24 w) u || bt (z_Y m 25 w) u)
def z_Op (m : ux_M) (c u w : Nat) : Bool := bt (z_Y m 26 u) w || (decide (w < c) && bt (z_Y m 26 w) u)
def z_Ac (m : ux_M) (c w : Nat) : Bool := decide (w < c) && !decide (z_Y m 28 w = 0) && !decide (z_Y m 28 w = 4)
section ZB5
variable {k c u T n : Nat} {m m' m'' : ux_M} {R R' : Nat → Nat → Bool} {H H' : Prop}
theorem z_lei (i w : Nat) (h : ¬ w = i) : decide (i + 1 ≤ w) = decide (i ≤ w) := by
  by_cases y : i ≤ w
  · have : i + 1 ≤ w := by omega
    simp [y, this]
  · have : ¬ i + 1 ≤ w := by omega
    simp [y, this]
theorem z_l201 (hc : c ≤ 16) (hu : u < 16) (hm : m 5 844257 0 1 = nI c) : ∀ (n f i : Nat) (x : Int32), i + n = c → n < f →
    p_201_4 f (nI u) x (nI i) m ∧ ∀ w, w < 32 → bt (r_201_4 f (nI u) x (nI i) m) w = (bt x w || (decide (i ≤ w) && z_Fo m c u w)) := by
  intro n
  induction n with
  | zero =>
    intro f i x hi hf
    obtain ⟨f, rfl⟩ : ∃ g, f = g + 1 := ⟨f - 1, by omega⟩
    have hle := z_yle (show c ≤ i by omega) (by omega)
    rw [p_201_4, r_201_4, z_c1, hm, if_pos hle]
    refine ⟨⟨z_v1, fun _ => trivial, fun q => absurd hle q⟩, fun w hw => ?_⟩
    have : (decide (i ≤ w) && z_Fo m c u w) = false := by
      unfold z_Fo
      by_cases q : i ≤ w
      · have : ¬ w < c := by omega
        simp [this]
      · simp [q]
    rw [this, Bool.or_false]
  | succ n ih =>
    intro f i x hi hf
    obtain ⟨f, rfl⟩ : ∃ g, f = g + 1 := ⟨f - 1, by omega⟩
    have hic : i < c := by omega
    have i16 : i < 16 := by omega
    have hle := z_nle hic hc
    have i32 : i < 32 := by omega
    have u32 : u < 32 := by omega
    rw [p_201_4, r_201_4, z_c1, hm, if_neg hle]
    simp only [of22 _ i16, of24 _ i16, of25 _ i16, z_shr1 _ u32, z_nx, b_or]
    have a := ih f (i + 1) (x ||| (0 : Int32)) (by omega) (by omega)
    have b := ih f (i + 1) (x ||| ((1 : Int32) <<< (nI i &&& 31))) (by omega) (by omega)
    refine ⟨⟨z_v1, fun q => absurd q hle, fun _ => ⟨uu22 i16, uu24 i16, uu25 i16, fun _ => a.1, fun _ => b.1⟩⟩, fun w hw => ?_⟩
    cases e : (bt (z_Y m 22 i) u || bt (z_Y m 24 i) u || bt (z_Y m 25 i) u)
    · rw [if_neg (by decide), a.2 w hw, b_or, b_0, Bool.or_false]
      by_cases q : w = i
      · subst q; have : z_Fo m c u w = false := by unfold z_Fo; rw [e, Bool.and_false]
        rw [this, Bool.and_false, Bool.and_false]
      · rw [z_lei _ _ q]
    · rw [if_pos rfl, b.2 w hw, b_or, z_bit i32 hw]
      by_cases q : w = i
      · subst q; have : z_Fo m c u w = true := by unfold z_Fo; rw [e]; simp [hic]
        rw [this]; simp
      · rw [z_lei _ _ q]; simp [q]
theorem z_201 (hc : c ≤ 16) (hu : u < 16) (hm : m 5 844257 0 1 = nI c) : p_201 (nI u) m ∧ ∀ w, w < 32 → bt (r_201 (nI u) m) w = z_Fo m c u w := by
  obtain ⟨a, b⟩ := z_l201 hc hu hm c ux_fuel 0 0 (by omega) (by have := z_fuel; omega)
  exact ⟨a, fun w hw => (b w hw).trans (by rw [b_0]; simp)⟩
theorem z_l203 (hc : c ≤ 16) (hu : u < 16) (hm : m 5 844257 0 1 = nI c) : ∀ (n f i : Nat) (x : Int32), i + n = c → n < f →
    p_203_10 f (nI u) x (nI i) m ∧ ∀ w, w < 32 → bt (r_203_10 f (nI u) x (nI i) m) w = (bt x w || (decide (i ≤ w) && (decide (w < c) && bt (z_Y m 26 w) u))) := by
  intro n
  induction n with
  | zero =>
    intro f i x hi hf
    obtain ⟨f, rfl⟩ : ∃ g, f = g + 1 := ⟨f - 1, by omega⟩
    have hle := z_yle (show c ≤ i by omega) (by omega)
    rw [p_203_10, r_203_10, z_c1, hm, if_pos hle]
    refine ⟨⟨z_v1, fun _ => trivial, fun q => absurd hle q⟩, fun w hw => ?_⟩
    have : (decide (i ≤ w) && (decide (w < c) && bt (z_Y m 26 w) u)) = false := by
      by_cases q : i ≤ w
      · have : ¬ w < c := by omega
        simp [this]
      · simp [q]
    rw [this, Bool.or_false]
  | succ n ih =>
    intro f i x hi hf
    obtain ⟨f, rfl⟩ : ∃ g, f = g + 1 := ⟨f - 1, by omega⟩
    have hic : i < c := by omega
    have i16 : i < 16 := by omega
    have hle := z_nle hic hc
    have i32 : i < 32 := by omega
    have u32 : u < 32 := by omega
    rw [p_203_10, r_203_10, z_c1, hm, if_neg hle]
    simp only [of26 _ i16, z_shr1 _ u32, z_nx]
    have a := ih f (i + 1) (x ||| (0 : Int32)) (by omega) (by omega)
    have b := ih f (i + 1) (x ||| ((1 : Int32) <<< (nI i &&& 31))) (by omega) (by omega)
    refine ⟨⟨z_v1, fun q => absurd q hle, fun _ => ⟨uu26 i16, fun _ => a.1, fun _ => b.1⟩⟩, fun w hw => ?_⟩
    cases e : bt (z_Y m 26 i) u
    · rw [if_neg (by decide), a.2 w hw, b_or, b_0, Bool.or_false]
      by_cases q : w = i
      · subst q; rw [e, Bool.and_false, Bool.and_false, Bool.and_false]
      · rw [z_lei _ _ q]
    · rw [if_pos rfl, b.2 w hw, b_or, z_bit i32 hw]
      by_cases q : w = i
      · subst q; rw [e]; simp [hic]
      · rw [z_lei _ _ q]; simp [q]
theorem z_203 (hc : c ≤ 16) (hu : u < 16) (hm : m 5 844257 0 1 = nI c) : p_203 (nI u) m ∧ ∀ w, w < 32 → bt (r_203 (nI u) m) w = z_Op m c u w := by
  unfold p_203 r_203
  rw [of26 _ hu]
  obtain ⟨a, b⟩ := z_l203 hc hu hm c ux_fuel 0 (z_Y m 26 u) (by omega) (by have := z_fuel; omega)
  exact ⟨⟨uu26 hu, a⟩, fun w hw => (b w hw).trans (by unfold z_Op; simp)⟩
/-- the restarts that a restart pulls -/
theorem z_l200 (hc : c ≤ 16) (hu : u < 16) (z : Int32) (hz : ¬ z = 0) (hm : m 5 844257 0 1 = nI c) (hv : z_tv m) : ∀ (n f i : Nat) (x : Int32), i + n = c → n < f → (∀ w, w < 32 → bt x w = (decide (w < i) && z_Ac m c w)) →
    p_200_75 f (nI u) z x (nI i) m ∧ z_dG m (m_200_75 f (nI u) z x (nI i) m) (fun X w => decide (w < c) && (z_Fo m c u w && z_Ac m c w) && !z_bl m 3 w && z_ad 3 true X) (∃ w, w < c ∧ (z_Fo m c u w && z_Ac m c w) = true ∧ z_hm m 3 w z) := by
  intro n
  induction n with
  | zero =>
    intro f i x hi hf hx
    obtain ⟨f, rfl⟩ : ∃ g, f = g + 1 := ⟨f - 1, by omega⟩
    have hle := z_yle (show c ≤ i by omega) (by omega)
    rw [p_200_75, m_200_75, z_c1, hm, if_pos hle]
    obtain ⟨a1, a2⟩ := z_201 hc hu hm
    have b := z_a202 (T := 3) (by omega) ((r_201 (nI u) m) &&& x) z (fun _ => hz) hc hm hv
    rw [z_n3] at b
    have e : ∀ w, w < 32 → bt ((r_201 (nI u) m) &&& x) w = (z_Fo m c u w && z_Ac m c w) := fun w hw => by
      rw [b_and, a2 w hw, hx w hw]
      by_cases q : w < c
      · have : w < i := by omega
        simp [this]
      · simp [z_Fo, q]
    refine ⟨⟨z_v1, fun _ => ⟨a1, b.1⟩, fun q => absurd hle q⟩, b.2.eqv (fun X w => ?_) ⟨fun ⟨w, q1, q2, q3⟩ => ⟨w, q1, (e w (by omega)).symm.trans q2, q3⟩, fun ⟨w, q1, q2, q3⟩ => ⟨w, q1, (e w (by omega)).trans q2, q3⟩⟩⟩
    by_cases q : w < c
    · rw [e w (by omega)]; simp [hz]
    · simp [q]
  | succ n ih =>
    intro f i x hi hf hx
    obtain ⟨f, rfl⟩ : ∃ g, f = g + 1 := ⟨f - 1, by omega⟩
    have hic : i < c := by omega
    have i16 : i < 16 := by omega
    have hle := z_nle hic hc
    have i32 : i < 32 := by omega
    rw [p_200_75, m_200_75, z_c1, hm, if_neg hle]
    simp only [of28 _ i16, z_nx]
    have nx : ∀ w, w < 32 → ¬ w = i → decide (w < i + 1) = decide (w < i) := fun w _ h => by
      by_cases y : w < i
      · have : w < i + 1 := by omega
        simp [y, this]
      · have : ¬ w < i + 1 := by omega
        simp [y, this]
    have off : z_Ac m c i = false → ∀ w, w < 32 → bt (x ||| (0 : Int32)) w = (decide (w < i + 1) && z_Ac m c w) := fun h w hw => by
      rw [b_or, b_0, Bool.or_false, hx w hw]
      by_cases q : w = i
      · subst q; rw [h, Bool.and_false, Bool.and_false]
      · rw [nx w hw q]
    have on : z_Ac m c i = true → ∀ w, w < 32 → bt (x ||| ((1 : Int32) <<< (nI i &&& 31))) w = (decide (w < i + 1) && z_Ac m c w) := fun h w hw => by
      rw [b_or, z_bit i32 hw, hx w hw]
      by_cases q : w = i
      · subst q; rw [h]; simp
      · rw [nx w hw q]; simp [q]
    by_cases q0 : z_Y m 28 i = 0
    · have r := ih f (i + 1) _ (by omega) (by omega) (off (by simp [z_Ac, q0]))
      rw [if_pos q0]
      exact ⟨⟨z_v1, fun y => absurd y hle, fun _ => ⟨uu28 i16, fun _ => r.1, fun y => absurd q0 y⟩⟩, r.2⟩
    · rw [if_neg q0]
      by_cases q4 : z_Y m 28 i = 4
      · have r := ih f (i + 1) _ (by omega) (by omega) (off (by simp [z_Ac, q4]))
        rw [if_pos q4]
        exact ⟨⟨z_v1, fun y => absurd y hle, fun _ => ⟨uu28 i16, fun y => absurd y q0, fun _ => ⟨uu28 i16, fun y => absurd q4 y, fun _ => r.1⟩⟩⟩, r.2⟩
      · have r := ih f (i + 1) _ (by omega) (by omega) (on (by simp [z_Ac, q0, q4, hic]))
        rw [if_neg q4]
        exact ⟨⟨z_v1, fun y => absurd y hle, fun _ => ⟨uu28 i16, fun y => absurd y q0, fun _ => ⟨uu28 i16, fun _ => r.1, fun y => absurd y q4⟩⟩⟩, r.2⟩
end ZB5
