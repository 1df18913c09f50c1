/-! LOAD, 23: the closed masks of the draft -/
section ZLN
variable {M M' X Y : ux_M} {n f x y v w s : Nat}
/-- where the masks are written -/
def z_gE (M M' : ux_M) : Prop := ∀ a s r i, ¬ (a = 4 ∧ (s = 491649 ∨ s = 508033 ∨ s = 524417 ∨ s = 540801)) → M' a s r i = M a s r i
theorem z_gE.rf : z_gE M M := fun _ _ _ _ _ => rfl
theorem z_gE.tr (h : z_gE M X) (h' : z_gE X Y) : z_gE M Y := fun a s r i q => (h' a s r i q).trans (h a s r i q)
theorem z_gE.st {r i : Nat} {a : Int32} (hs : s = 491649 ∨ s = 508033 ∨ s = 524417 ∨ s = 540801) : z_gE M (ux_set M 4 s r i a) := fun a' s' r' i' q => by
  rw [z_set, if_neg (fun z => q ⟨z.1, by rw [z.2.1]; exact hs⟩)]
/-- bit x of word y of row s -/
def z_o1 (b : Bool) (s x y : Nat) (M : ux_M) : ux_M := if b = true then ux_set M 4 s 0 y (M 4 s 0 y ||| ((1 : Int32) <<< (nI x &&& 31))) else M
theorem z_o1_b {b : Bool} (hx : x < 16) (hw : w < 32) : bt (z_o1 b s x y M 4 s 0 v) w = (bt (M 4 s 0 v) w || (decide (v = y) && decide (w = x) && b)) := by
  unfold z_o1
  cases b
  · rw [if_neg (by decide), Bool.and_false, Bool.or_false]
  · rw [if_pos rfl, z_set, Bool.and_true]
    by_cases q : v = y
    · subst q
      rw [if_pos ⟨rfl, rfl, rfl, rfl⟩, b_or, z_bit (by omega) hw, decide_eq_true (rfl : v = v), Bool.true_and]
    · rw [if_neg (fun z => q z.2.2.2), decide_eq_false q, Bool.false_and, Bool.or_false]
theorem z_o1_o {b : Bool} {a s' r i : Nat} (h : ¬ s' = s) : z_o1 b s x y M a s' r i = M a s' r i := by
  unfold z_o1; cases b
  · rw [if_neg (by decide)]
  · rw [if_pos rfl, z_so h]
theorem z_o1_f {b : Bool} (hs : s = 491649 ∨ s = 508033 ∨ s = 524417 ∨ s = 540801) : z_gE M (z_o1 b s x y M) := by
  unfold z_o1; cases b
  · rw [if_neg (by decide)]; exact .rf
  · rw [if_pos rfl]; exact .st hs
/-- one pair -/
def z_d3 (x y : Nat) (M : ux_M) : ux_M := z_o1 (bt (M 4 475265 5 x) y) 540801 x y (z_o1 (bt (M 4 491649 0 x ||| M 4 475265 3 x) y) 524417 x y (z_o1 (bt (M 4 475265 4 x) y) 508033 x y M))
theorem z_275m (km : Nat → Int32 → ux_M → ux_M) (hx : x < 16) (hy : y < 16) : m_27_75 km (f + 1) 4 (nI x) (nI y) M = m_27_75 km f 4 (nI x) (nI (y + 1)) (z_d3 x y M) := by
  have hle : ¬ (16 : Int32) ≤ nI y := fun z => by have := (z_le (a := 16) (by omega) (by omega)).mp z; omega
  have n1 : ¬ (475265 : Nat) = 508033 := by decide
  have n2 : ¬ (475265 : Nat) = 524417 := by decide
  have n3 : ¬ (491649 : Nat) = 508033 := by decide
  have n4 : ¬ (524417 : Nat) = 508033 := by decide
  have n5 : ¬ (540801 : Nat) = 508033 := by decide
  have n6 : ¬ (540801 : Nat) = 524417 := by decide
  have y32 : y < 32 := by omega
  rw [m_27_75, if_neg hle]
  unfold z_d3 z_o1
  cases h4 : bt (M 4 475265 4 x) y <;> cases h3 : bt (M 4 491649 0 x ||| M 4 475265 3 x) y <;> cases h5 : bt (M 4 475265 5 x) y <;>
    simp only [z_cl hx, z_cl hy, z_c3, z_c4, z_c5, z_nx, z_andb _ y32, z_so n1, z_so n2, z_so n3, z_so n4, z_so n5, z_so n6, h4, h3, h5, Bool.false_eq_true, Bool.true_eq_false, if_true, if_false, if_pos, if_neg, reduceCtorEq]
theorem z_275p (kp : Nat → Int32 → ux_M → Prop) (hx : x < 16) (hy : y < 16) (H : p_27_75 kp f 4 (nI x) (nI (y + 1)) (z_d3 x y M)) : p_27_75 kp (f + 1) 4 (nI x) (nI y) M := by
  have hle : ¬ (16 : Int32) ≤ nI y := fun z => by have := (z_le (a := 16) (by omega) (by omega)).mp z; omega
  have n1 : ¬ (475265 : Nat) = 508033 := by decide
  have n2 : ¬ (475265 : Nat) = 524417 := by decide
  have n3 : ¬ (491649 : Nat) = 508033 := by decide
  have n4 : ¬ (524417 : Nat) = 508033 := by decide
  have n5 : ¬ (540801 : Nat) = 508033 := by decide
  have n6 : ¬ (540801 : Nat) = 524417 := by decide
  have y32 : y < 32 := by omega
  have vx : vp_in (nI x) 16 := z_i16 hx
  have vy : vp_in (nI y) 16 := z_i16 hy
  rw [p_27_75]
  unfold z_d3 z_o1 at H
  refine ⟨fun z => absurd z hle, fun _ => ?_⟩
  cases h4 : bt (M 4 475265 4 x) y <;> cases h3 : bt (M 4 491649 0 x ||| M 4 475265 3 x) y <;> cases h5 : bt (M 4 475265 5 x) y <;>
    simp only [h4, h3, h5, z_so n4, z_so n5, z_so n6, Bool.false_eq_true, Bool.true_eq_false, if_true, if_false, reduceCtorEq] at H <;>
    simp only [z_cl hx, z_cl hy, z_c3, z_c4, z_c5, z_nx, z_andb _ y32, z_so n1, z_so n2, z_so n3, z_so n4, z_so n5, z_so n6, h4, h3, h5, Bool.false_eq_true, Bool.true_eq_false, reduceCtorEq, forall_eq, vx, vy, z_r3, z_r4, z_r5, true_and, and_true, not_true_eq_false, not_false_eq_true, false_implies, true_implies, implies_true, H]
/-- the pairs behind (x, y) are noted -/
def z_d2 (x y w v : Nat) : Bool := decide (w < x) || (decide (w = x) && decide (v < y))
def z_d4 (x y : Nat) (M X : ux_M) : Prop := z_gE M X ∧ (∀ i, X 4 491649 0 i = M 4 491649 0 i) ∧ ∀ v w, v < 16 → w < 32 →
  bt (X 4 508033 0 v) w = (bt (M 4 508033 0 v) w || (z_d2 x y w v && bt (M 4 475265 4 w) v)) ∧
  bt (X 4 524417 0 v) w = (bt (M 4 524417 0 v) w || (z_d2 x y w v && bt (M 4 491649 0 w ||| M 4 475265 3 w) v)) ∧
  bt (X 4 540801 0 v) w = (bt (M 4 540801 0 v) w || (z_d2 x y w v && bt (M 4 475265 5 w) v))
theorem z_dds (x y w v : Nat) (b : Nat → Nat → Bool) : (z_d2 x y w v && b w v || (decide (v = y) && decide (w = x) && b x y)) = (z_d2 x (y + 1) w v && b w v) := by
  unfold z_d2
  by_cases q1 : w = x
  · subst q1
    by_cases q2 : v = y
    · subst q2
      simp [show ¬ v < v by omega, show v < v + 1 by omega]
    · by_cases q3 : v < y
      · simp [q2, q3, show v < y + 1 by omega]
      · simp [q2, q3, show ¬ v < y + 1 by omega]
  · simp [q1]
theorem z_d3_f : z_gE M (z_d3 x y M) := ((z_o1_f (.inr (.inl rfl))).tr (z_o1_f (.inr (.inr (.inl rfl))))).tr (z_o1_f (.inr (.inr (.inr rfl))))
theorem z_d4.st (h : z_d4 x y M X) (hx : x < 16) : z_d4 x (y + 1) M (z_d3 x y X) := by
  obtain ⟨h1, h2, h3⟩ := h
  have r : ∀ q u, X 4 475265 q u = M 4 475265 q u := fun q u => h1 _ _ _ _ (by omega)
  refine ⟨h1.tr z_d3_f, fun i => ?_, fun v w hv hw => ?_⟩
  · unfold z_d3; rw [z_o1_o (by decide), z_o1_o (by decide), z_o1_o (by decide)]; exact h2 i
  · obtain ⟨a1, a2, a3⟩ := h3 v w hv hw
    unfold z_d3
    rw [r, r, r, h2]
    refine ⟨?_, ?_, ?_⟩
    · rw [z_o1_o (by decide), z_o1_o (by decide), z_o1_b hx hw, a1, Bool.or_assoc, z_dds x y w v (fun w v => bt (M 4 475265 4 w) v)]
    · rw [z_o1_o (by decide), z_o1_b hx hw, z_o1_o (by decide), a2, Bool.or_assoc, z_dds x y w v (fun w v => bt (M 4 491649 0 w ||| M 4 475265 3 w) v)]
    · rw [z_o1_b hx hw, z_o1_o (by decide), z_o1_o (by decide), a3, Bool.or_assoc, z_dds x y w v (fun w v => bt (M 4 475265 5 w) v)]
theorem z_d4.nx (h : z_d4 x 16 M X) : z_d4 (x + 1) 0 M X := by
  obtain ⟨h1, h2, h3⟩ := h
  refine ⟨h1, h2, fun v w hv hw => ?_⟩
  have e : z_d2 (x + 1) 0 w v = z_d2 x 16 w v := by
    unfold z_d2
    by_cases q : w = x
    · subst q; simp [show w < w + 1 by omega, hv]
    · by_cases q2 : w < x
      · simp [q2, show w < x + 1 by omega]
      · simp [q, q2, show ¬ w < x + 1 by omega]
  rw [e]; exact h3 v w hv hw
theorem z_275 (kp : Nat → Int32 → ux_M → Prop) (km : Nat → Int32 → ux_M → ux_M) (hx : x < 16) : ∀ n f y X, y + n = 16 → n < f → z_d4 x y M X → ∃ Y, z_d4 (x + 1) 0 M Y ∧ (kp 4 (nI (x + 1)) Y → p_27_75 kp f 4 (nI x) (nI y) X) ∧ m_27_75 km f 4 (nI x) (nI y) X = km 4 (nI (x + 1)) Y := by
  intro n
  induction n with
  | zero =>
    intro f y X hy hf h
    obtain ⟨f, rfl⟩ : ∃ z, f = z + 1 := ⟨f - 1, by omega⟩
    have y16 : y = 16 := by omega
    subst y16
    have hle : (16 : Int32) ≤ nI 16 := (z_le (a := 16) (by omega) (by omega)).mpr (by omega)
    rw [p_27_75, m_27_75, if_pos hle, z_nx x]
    exact ⟨X, h.nx, fun z => ⟨fun _ => z, fun q => absurd hle q⟩, rfl⟩
  | succ n ih =>
    intro f y X hy hf h
    obtain ⟨f, rfl⟩ : ∃ z, f = z + 1 := ⟨f - 1, by omega⟩
    obtain ⟨Y, i1, i2, i3⟩ := ih f (y + 1) _ (by omega) (by omega) (h.st hx)
    exact ⟨Y, i1, fun z => z_275p kp hx (by omega) (i2 z), (z_275m km hx (by omega)).trans i3⟩
theorem z_267 : ∀ n f x X, x + n = 16 → n < f → z_d4 x 0 M X → p_27_67 f 4 (nI x) X ∧ z_d4 16 0 M (m_27_67 f 4 (nI x) X) := by
  intro n
  induction n with
  | zero =>
    intro f x X hx hf h
    obtain ⟨f, rfl⟩ : ∃ z, f = z + 1 := ⟨f - 1, by omega⟩
    have x16 : x = 16 := by omega
    subst x16
    have hle : (16 : Int32) ≤ nI 16 := (z_le (a := 16) (by omega) (by omega)).mpr (by omega)
    rw [p_27_67, m_27_67, if_pos hle]
    exact ⟨⟨fun _ => trivial, fun q => absurd hle q⟩, h⟩
  | succ n ih =>
    intro f x X hx hf h
    obtain ⟨f, rfl⟩ : ∃ z, f = z + 1 := ⟨f - 1, by omega⟩
    have hle : ¬ (16 : Int32) ≤ nI x := fun z => by have := (z_le (a := 16) (by omega) (by omega)).mp z; omega
    obtain ⟨Y, i1, i2, i3⟩ := z_275 (fun a0 a1 a2 => p_27_67 f a0 a1 a2) (fun a0 a1 a2 => m_27_67 f a0 a1 a2) (show x < 16 by omega) 16 ux_fuel 0 X (by omega) (by have := z_fuel; omega) h
    obtain ⟨j1, j2⟩ := ih f (x + 1) Y (by omega) (by omega) i1
    rw [p_27_67, m_27_67, if_neg hle]
    refine ⟨⟨fun q => absurd q hle, fun _ => i2 j1⟩, ?_⟩
    have i3' : m_27_75 (fun a0 a1 a2 => m_27_67 f a0 a1 a2) ux_fuel 4 (nI x) 0 X = m_27_67 f 4 (nI (x + 1)) Y := i3
    rw [i3']; exact j2
/-- the rows are laid -/
def z_d5 (x : Nat) (M X : ux_M) : Prop := z_gE M X ∧ ∀ i, i < x → X 4 491649 0 i = (M 4 475265 0 i ||| M 4 475265 2 i) ∧ X 4 508033 0 i = M 4 475265 4 i ∧ X 4 524417 0 i = 0 ∧ X 4 540801 0 i = 0
theorem z_272 : ∀ n f x X, x + n = 16 → n < f → z_d5 x M X → ∃ Y, z_d5 16 M Y ∧ p_27_2 f 4 (nI x) X ∧ z_d4 16 0 Y (m_27_2 f 4 (nI x) X) := by
  intro n
  induction n with
  | zero =>
    intro f x X hx hf h
    obtain ⟨f, rfl⟩ : ∃ z, f = z + 1 := ⟨f - 1, by omega⟩
    have x16 : x = 16 := by omega
    subst x16
    have hle : (16 : Int32) ≤ nI 16 := (z_le (a := 16) (by omega) (by omega)).mpr (by omega)
    have d0 : z_d4 0 0 X X := ⟨.rf, fun _ => rfl, fun v w _ _ => by
      have e : z_d2 0 0 w v = false := by unfold z_d2; simp
      rw [e, Bool.false_and, Bool.false_and, Bool.false_and, Bool.or_false, Bool.or_false, Bool.or_false]; exact ⟨rfl, rfl, rfl⟩⟩
    obtain ⟨i1, i2⟩ := z_267 16 ux_fuel 0 X (by omega) (by have := z_fuel; omega) d0
    rw [p_27_2, m_27_2, if_pos hle]
    exact ⟨X, h, ⟨fun _ => i1, fun q => absurd hle q⟩, i2⟩
  | succ n ih =>
    intro f x X hx hf h
    obtain ⟨f, rfl⟩ : ∃ z, f = z + 1 := ⟨f - 1, by omega⟩
    have x16 : x < 16 := by omega
    have hle : ¬ (16 : Int32) ≤ nI x := fun z => by have := (z_le (a := 16) (by omega) (by omega)).mp z; omega
    obtain ⟨h1, h2⟩ := h
    have r : ∀ q u, X 4 475265 q u = M 4 475265 q u := fun q u => h1 _ _ _ _ (by omega)
    obtain ⟨M2, e2⟩ : ∃ y, y = ux_set X 4 491649 0 x (X 4 475265 0 x ||| X 4 475265 2 x) := ⟨_, rfl⟩
    obtain ⟨M3, e3⟩ : ∃ y, y = ux_set M2 4 508033 0 x (M2 4 475265 4 x) := ⟨_, rfl⟩
    obtain ⟨M4, e4⟩ : ∃ y, y = ux_set M3 4 524417 0 x 0 := ⟨_, rfl⟩
    obtain ⟨M5, e5⟩ : ∃ y, y = ux_set M4 4 540801 0 x 0 := ⟨_, rfl⟩
    have f5 : z_gE X M5 := by
      rw [e5, e4, e3, e2]
      exact (((z_gE.st (.inl rfl)).tr (.st (.inr (.inl rfl)))).tr (.st (.inr (.inr (.inl rfl))))).tr (.st (.inr (.inr (.inr rfl))))
    have d : z_d5 (x + 1) M M5 := by
      refine ⟨h1.tr f5, fun i hi => ?_⟩
      by_cases q : i = x
      · subst q
        refine ⟨?_, ?_, ?_, ?_⟩
        · rw [e5, z_so (by decide), e4, z_so (by decide), e3, z_so (by decide), e2, z_ss, r, r]
        · rw [e5, z_so (by decide), e4, z_so (by decide), e3, z_ss, e2, z_so (by decide), r]
        · rw [e5, z_so (by decide), e4, z_ss]
        · rw [e5, z_ss]
      · obtain ⟨a1, a2, a3, a4⟩ := h2 i (by omega)
        rw [e5, z_si q, z_si q, z_si q, z_si q, e4, z_si q, z_si q, z_si q, z_si q, e3, z_si q, z_si q, z_si q, z_si q, e2, z_si q, z_si q, z_si q, z_si q]
        exact ⟨a1, a2, a3, a4⟩
    obtain ⟨Y, i1, i2, i3⟩ := ih f (x + 1) M5 (by omega) (by omega) d
    have vx : vp_in (nI x) 16 := z_i16 x16
    have em : m_27_2 (f + 1) 4 (nI x) X = m_27_2 f 4 (nI (x + 1)) M5 := by
      rw [m_27_2, if_neg hle, z_nx, z_cl x16, z_c0, z_c2, z_c4, e5, e4, e3, e2]
    rw [p_27_2, em, z_nx, z_cl x16, z_c0, z_c2, z_c4]
    refine ⟨Y, i1, ⟨fun q => absurd q hle, fun _ => ⟨z_r0, vx, z_r2, vx, vx, fun _ g2 => ⟨z_r4, vx, vx, fun _ g3 => ⟨vx, fun _ g4 => ⟨vx, fun _ g5 => ?_⟩⟩⟩⟩⟩, i3⟩
    subst g2; rw [← e2] at g3; subst g3; rw [← e3] at g4; subst g4; rw [← e4] at g5; subst g5; rw [← e5]; exact i2
/-- derive -/
theorem z_27 (M : ux_M) : p_27 4 M ∧ z_gE M (m_27 4 M) ∧ (∀ u, u < 16 → m_27 4 M 4 491649 0 u = (M 4 475265 0 u ||| M 4 475265 2 u)) ∧ ∀ v w, v < 16 → w < 32 →
    bt (m_27 4 M 4 508033 0 v) w = (bt (M 4 475265 4 v) w || (decide (w < 16) && bt (M 4 475265 4 w) v)) ∧
    bt (m_27 4 M 4 524417 0 v) w = (decide (w < 16) && (bt (M 4 475265 0 w) v || bt (M 4 475265 2 w) v || bt (M 4 475265 3 w) v)) ∧
    bt (m_27 4 M 4 540801 0 v) w = (decide (w < 16) && bt (M 4 475265 5 w) v) := by
  obtain ⟨Y, ⟨y1, y2⟩, y3, y4, y5, y6⟩ := z_272 (M := M) 16 ux_fuel 0 M (by omega) (by have := z_fuel; omega) ⟨.rf, fun i hi => absurd hi (by omega)⟩
  have r : ∀ q u, Y 4 475265 q u = M 4 475265 q u := fun q u => y1 _ _ _ _ (by omega)
  have hd : ∀ w v, z_d2 16 0 w v = decide (w < 16) := fun w v => by unfold z_d2; simp
  have eb : ∀ v w, v < 16 → (decide (w < 16) && bt (Y 4 491649 0 w ||| M 4 475265 3 w) v) = (decide (w < 16) && (bt (M 4 475265 0 w) v || bt (M 4 475265 2 w) v || bt (M 4 475265 3 w) v)) := fun v w _ => by
    by_cases q : w < 16
    · rw [(y2 w q).1, b_or, b_or]
    · rw [decide_eq_false q, Bool.false_and, Bool.false_and]
  refine ⟨y3, y1.tr y4, fun u hu => (y5 u).trans (y2 u hu).1, fun v w hv hw => ?_⟩
  obtain ⟨a1, a2, a3⟩ := y6 v w hv hw
  obtain ⟨b1, b2, b3, b4⟩ := y2 v hv
  rw [hd, r, b2] at a1
  rw [hd, r, b3, b_0, Bool.false_or, eb v w hv] at a2
  rw [hd, r, b4, b_0, Bool.false_or] at a3
  exact ⟨a1, a2, a3⟩
end ZLN
