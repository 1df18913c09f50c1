/-! THE CLASS'S TRANSACTION: the essential jobs -/
/-- a memory whose transaction in instance k has the fields g -/
def z_wt3 (M : ux_M) (k : Nat) (g : Nat → Int32) : ux_M := fun a b c d => if a = k ∧ b = 32805 ∧ c = 0 then g d else M a b c d
def z_sub (x y : Int32) : Prop := ∀ v, v < 32 → bt x v = true → bt y v = true
section ZA1
variable {k c : Nat} {M : ux_M}
theorem z_wt3_self (M : ux_M) (k : Nat) : z_wt3 M k (M k 32805 0) = M := by
  funext a b c d; unfold z_wt3
  by_cases q : a = k ∧ b = 32805 ∧ c = 0
  · obtain ⟨rfl, rfl, rfl⟩ := q; simp
  · rw [if_neg q]
theorem z_wt3_set (M : ux_M) (k i : Nat) (g : Nat → Int32) (v : Int32) : ux_set (z_wt3 M k g) k 32805 0 i v = z_wt3 M k (z_up g i v) := by
  funext a b c d; rw [z_set]; unfold z_wt3 z_up
  by_cases q : a = k ∧ b = 32805 ∧ c = 0
  · obtain ⟨rfl, rfl, rfl⟩ := q; simp
  · rw [if_neg q, if_neg q, if_neg (fun z => q ⟨z.1, z.2.1, z.2.2.1⟩)]
theorem z_wt3_g (M : ux_M) (k i : Nat) (g : Nat → Int32) : z_wt3 M k g k 32805 0 i = g i := by unfold z_wt3; rw [if_pos ⟨rfl, rfl, rfl⟩]
theorem z_wt3_o (M : ux_M) (k : Nat) (g : Nat → Int32) {a b c d : Nat} (h : ¬ b = 32805) : z_wt3 M k g a b c d = M a b c d := by unfold z_wt3; rw [if_neg (fun z => h z.2.1)]
theorem z_wt3_2 (M : ux_M) (k : Nat) (g g' : Nat → Int32) : z_wt3 (z_wt3 M k g) k g' = z_wt3 M k g' := by
  funext a b c d; unfold z_wt3
  by_cases q : a = k ∧ b = 32805 ∧ c = 0
  · rw [if_pos q, if_pos q]
  · rw [if_neg q, if_neg q, if_neg q]
/-- a puller -/
def z_g66 (N O F : Nat → Int32) (al : Int32) (i : Nat) (g : Nat → Int32) : Nat → Int32 :=
  let g1 := if bt (g 0) i = true then z_up (z_up g 0 (g 0 ||| N i)) 2 (g 2 ||| O i) else g
  let g2 := if bt (g1 1) i = true then z_up (z_up g1 1 (g1 1 ||| (F i &&& al))) 0 (g1 0 ||| (g1 1 ||| (F i &&& al))) else g1
  if bt (g2 2) i = true then z_up g2 2 (g2 2 ||| F i) else g2
def z_g66s (N O F : Nat → Int32) (al : Int32) : Nat → Nat → (Nat → Int32) → (Nat → Int32)
  | 0, _, g => g
  | n + 1, i, g => z_g66s N O F al n (i + 1) (z_g66 N O F al i g)
theorem z_66l (M : ux_M) (k : Nat) (kp : Nat → Int32 → Int32 → ux_M → Prop) (km : Nat → Int32 → Int32 → ux_M → ux_M) (al x5 x6 x7 x8 : Int32) : ∀ (n f i : Nat) (g g' : Nat → Int32), i + n = 16 → n < f → z_g66s (M k 491649 0) (M k 508033 0) (M k 524417 0) al n i g = g' →
    (((¬ (g' 0 = x6 ∧ g' 1 = x7 ∧ g' 2 = x8) → kp k al (x5 + 1) (z_wt3 M k g')) → p_66_79 kp f k al x5 x6 x7 x8 (nI i) (z_wt3 M k g))
     ∧ m_66_79 km f k al x5 x6 x7 x8 (nI i) (z_wt3 M k g) = if g' 0 = x6 ∧ g' 1 = x7 ∧ g' 2 = x8 then z_wt3 M k (z_up (z_up g' 3 (g' 0)) 4 (g' 2)) else km k al (x5 + 1) (z_wt3 M k g')) := by
  intro n
  induction n with
  | zero =>
    intro f i g g' hi hf hg
    subst hg
    obtain ⟨f, rfl⟩ : ∃ z, f = z + 1 := ⟨f - 1, by omega⟩
    have hle : (16 : Int32) ≤ nI i := (z_le (a := 16) (by omega) (by omega)).mpr (by omega)
    simp only [z_g66s]
    rw [p_66_79, m_66_79, if_pos hle]
    simp only [z_wt3_g, z_wt3_set, z_upn (show ¬ (2 : Nat) = 3 by decide)]
    by_cases q0 : g 0 = x6
    · by_cases q1 : g 1 = x7
      · by_cases q2 : g 2 = x8
        · simp only [q0, q1, q2, and_self, if_true, not_true_eq_false, false_implies, true_implies, and_true, true_and, hle]
        · simp only [q0, q1, q2, and_false, if_true, if_false, not_true_eq_false, not_false_eq_true, false_implies, true_implies, and_true, true_and, hle]
          exact fun z => z
      · simp only [q0, q1, and_false, false_and, if_true, if_false, not_true_eq_false, not_false_eq_true, false_implies, true_implies, and_true, true_and, hle]
        exact fun z => z
    · simp only [q0, false_and, if_true, if_false, not_true_eq_false, not_false_eq_true, false_implies, true_implies, and_true, true_and, hle]
      exact fun z => z
  | succ n ih =>
    intro f i g g' hi hf hG
    obtain ⟨f, rfl⟩ : ∃ z, f = z + 1 := ⟨f - 1, by omega⟩
    have hi16 : i < 16 := by omega
    have hi32 : i < 32 := by omega
    have hle : ¬ (16 : Int32) ≤ nI i := fun z => by have := (z_le (a := 16) (by omega) (by omega)).mp z; omega
    rw [z_g66s] at hG
    rw [p_66_79, m_66_79, if_neg hle]
    simp only [z_wt3_g, z_wt3_set, z_cl hi16, z_shr _ hi32, z_nx, hle, not_false_eq_true, false_implies, true_implies, true_and, forall_eq, z_wt3_o M k _ (show ¬ 491649 = 32805 by decide), z_wt3_o M k _ (show ¬ 508033 = 32805 by decide), z_wt3_o M k _ (show ¬ 524417 = 32805 by decide)]
    unfold z_g66 at hG
    simp only at hG
    by_cases b0 : bt (g 0) i = true
    · have e1 : z_up (z_up g 0 (g 0 ||| M k 491649 0 i)) 2 (g 2 ||| M k 508033 0 i) 1 = g 1 := by rw [z_upn (by decide), z_upn (by decide)]
      have c2 : z_up g 0 (g 0 ||| M k 491649 0 i) 2 = g 2 := z_upn (by decide)
      simp only [b0, if_true, Bool.true_eq_false, if_false, not_false_eq_true, false_implies, true_implies, true_and, e1, c2] at hG ⊢
      by_cases b1 : bt (g 1) i = true
      · have d0 : z_up (z_up (z_up g 0 (g 0 ||| M k 491649 0 i)) 2 (g 2 ||| M k 508033 0 i)) 1 (g 1 ||| (M k 524417 0 i &&& al)) 0 = z_up (z_up g 0 (g 0 ||| M k 491649 0 i)) 2 (g 2 ||| M k 508033 0 i) 0 := z_upn (by decide)
        simp only [b1, if_true, Bool.true_eq_false, if_false, not_false_eq_true, false_implies, true_implies, true_and, d0, z_upe] at hG ⊢
        split
        · rename_i hb
          rw [hb] at hG; simp only [Bool.false_eq_true, if_false] at hG
          have r := ih f (i + 1) _ g' (by omega) (by omega) hG; exact ⟨fun z => ⟨z_i16 hi16, z_i16 hi16, z_i16 hi16, fun _ => r.1 z, fun y => absurd hb y⟩, r.2⟩
        · rename_i hb
          have hb' : bt (z_up (z_up (z_up (z_up g 0 (g 0 ||| M k 491649 0 i)) 2 (g 2 ||| M k 508033 0 i)) 1 (g 1 ||| (M k 524417 0 i &&& al))) 0 (z_up (z_up g 0 (g 0 ||| M k 491649 0 i)) 2 (g 2 ||| M k 508033 0 i) 0 ||| (g 1 ||| (M k 524417 0 i &&& al))) 2) i = true := by simpa using hb
          rw [hb'] at hG; simp only [if_true] at hG
          have r := ih f (i + 1) _ g' (by omega) (by omega) hG; exact ⟨fun z => ⟨z_i16 hi16, z_i16 hi16, z_i16 hi16, fun y => absurd y hb, fun _ => ⟨z_i16 hi16, r.1 z⟩⟩, r.2⟩
      · have b1' : bt (g 1) i = false := by simpa using b1
        simp only [b1', Bool.false_eq_true, if_true, if_false, not_true_eq_false, false_implies, true_implies, and_true] at hG ⊢
        split
        · rename_i hb
          rw [hb] at hG; simp only [Bool.false_eq_true, if_false] at hG
          have r := ih f (i + 1) _ g' (by omega) (by omega) hG; exact ⟨fun z => ⟨z_i16 hi16, z_i16 hi16, fun _ => r.1 z, fun y => absurd hb y⟩, r.2⟩
        · rename_i hb
          have hb' : bt (z_up (z_up g 0 (g 0 ||| M k 491649 0 i)) 2 (g 2 ||| M k 508033 0 i) 2) i = true := by simpa using hb
          rw [hb'] at hG; simp only [if_true] at hG
          have r := ih f (i + 1) _ g' (by omega) (by omega) hG; exact ⟨fun z => ⟨z_i16 hi16, z_i16 hi16, fun y => absurd y hb, fun _ => ⟨z_i16 hi16, r.1 z⟩⟩, r.2⟩
    · have b0' : bt (g 0) i = false := by simpa using b0
      simp only [b0', Bool.false_eq_true, if_true, if_false, not_true_eq_false, false_implies, true_implies, and_true] at hG ⊢
      by_cases b1 : bt (g 1) i = true
      · have d0 : z_up g 1 (g 1 ||| (M k 524417 0 i &&& al)) 0 = g 0 := z_upn (by decide)
        simp only [b1, if_true, Bool.true_eq_false, if_false, not_false_eq_true, false_implies, true_implies, true_and, d0, z_upe] at hG ⊢
        split
        · rename_i hb
          rw [hb] at hG; simp only [Bool.false_eq_true, if_false] at hG
          have r := ih f (i + 1) _ g' (by omega) (by omega) hG; exact ⟨fun z => ⟨z_i16 hi16, fun _ => r.1 z, fun y => absurd hb y⟩, r.2⟩
        · rename_i hb
          have hb' : bt (z_up (z_up g 1 (g 1 ||| (M k 524417 0 i &&& al))) 0 (g 0 ||| (g 1 ||| (M k 524417 0 i &&& al))) 2) i = true := by simpa using hb
          rw [hb'] at hG; simp only [if_true] at hG
          have r := ih f (i + 1) _ g' (by omega) (by omega) hG; exact ⟨fun z => ⟨z_i16 hi16, fun y => absurd y hb, fun _ => ⟨z_i16 hi16, r.1 z⟩⟩, r.2⟩
      · have b1' : bt (g 1) i = false := by simpa using b1
        simp only [b1', Bool.false_eq_true, if_true, if_false, not_true_eq_false, false_implies, true_implies, and_true] at hG ⊢
        split
        · rename_i hb
          rw [hb] at hG; simp only [Bool.false_eq_true, if_false] at hG
          have r := ih f (i + 1) _ g' (by omega) (by omega) hG; exact ⟨fun z => ⟨fun _ => r.1 z, fun y => absurd hb y⟩, r.2⟩
        · rename_i hb
          have hb' : bt (g 2) i = true := by simpa using hb
          rw [hb'] at hG; simp only [if_true] at hG
          have r := ih f (i + 1) _ g' (by omega) (by omega) hG; exact ⟨fun z => ⟨fun y => absurd y hb, fun _ => ⟨z_i16 hi16, r.1 z⟩⟩, r.2⟩
/-! what a round does to the sets -/
theorem z_sub.rf {x : Int32} : z_sub x x := fun _ _ h => h
theorem z_sub.tr {x y z : Int32} (h : z_sub x y) (h' : z_sub y z) : z_sub x z := fun v hv q => h' v hv (h v hv q)
theorem z_sub.l {x y : Int32} : z_sub x (x ||| y) := fun v _ q => by rw [b_or, q]; rfl
theorem z_sub.eq {x y : Int32} (h : z_sub x y) (h' : z_sub y x) : x = y := b_ext (fun i hi => by
  cases e : bt x i
  · cases e2 : bt y i
    · rfl
    · have := h' i hi e2; rw [e] at this; cases this
  · exact (h i hi e).symm)
def z_gle (g g' : Nat → Int32) : Prop := z_sub (g 0) (g' 0) ∧ z_sub (g 1) (g' 1) ∧ z_sub (g 2) (g' 2)
theorem z_gle.rf {g : Nat → Int32} : z_gle g g := ⟨z_sub.rf, z_sub.rf, z_sub.rf⟩
theorem z_gle.tr {g g' g'' : Nat → Int32} (h : z_gle g g') (h' : z_gle g' g'') : z_gle g g'' := ⟨h.1.tr h'.1, h.2.1.tr h'.2.1, h.2.2.tr h'.2.2⟩
theorem z_up3 (g : Nat → Int32) (a : Nat) (v : Int32) : (∀ b, ¬ b = a → z_up g a v b = g b) ∧ z_up g a v a = v := ⟨fun b h => z_upn h, z_upe⟩
/-- one puller: the sets grow by just what it pulls -/
theorem z_g66_i (N O F : Nat → Int32) (al : Int32) (i : Nat) (g : Nat → Int32) : z_gle g (z_g66 N O F al i g)
    ∧ (bt (g 0) i = true → z_sub (N i) (z_g66 N O F al i g 0) ∧ z_sub (O i) (z_g66 N O F al i g 2)) ∧ (bt (g 1) i = true → z_sub (F i &&& al) (z_g66 N O F al i g 1)) ∧ (bt (g 2) i = true → z_sub (F i) (z_g66 N O F al i g 2))
    ∧ (∀ a, 3 ≤ a → z_g66 N O F al i g a = g a) := by
  unfold z_g66
  simp only
  have r : ∀ (x y : Int32), z_sub y (x ||| y) := fun x y v _ q => by rw [b_or, q, Bool.or_true]
  by_cases b0 : bt (g 0) i = true
  · rw [if_pos b0]
    have e1 : z_up (z_up g 0 (g 0 ||| N i)) 2 (g 2 ||| O i) 1 = g 1 := by rw [z_upn (by decide), z_upn (by decide)]
    have e0 : z_up (z_up g 0 (g 0 ||| N i)) 2 (g 2 ||| O i) 0 = g 0 ||| N i := by rw [z_upn (by decide), z_upe]
    have e2 : z_up (z_up g 0 (g 0 ||| N i)) 2 (g 2 ||| O i) 2 = g 2 ||| O i := z_upe
    have e3 : ∀ a, 3 ≤ a → z_up (z_up g 0 (g 0 ||| N i)) 2 (g 2 ||| O i) a = g a := fun a ha => by rw [z_upn (by omega), z_upn (by omega)]
    generalize z_up (z_up g 0 (g 0 ||| N i)) 2 (g 2 ||| O i) = g1 at e0 e1 e2 e3 ⊢
    by_cases b1 : bt (g1 1) i = true
    · rw [if_pos b1]
      have f1 : z_up (z_up g1 1 (g1 1 ||| (F i &&& al))) 0 (g1 0 ||| (g1 1 ||| (F i &&& al))) 1 = g1 1 ||| (F i &&& al) := by rw [z_upn (by decide), z_upe]
      have f0 : z_up (z_up g1 1 (g1 1 ||| (F i &&& al))) 0 (g1 0 ||| (g1 1 ||| (F i &&& al))) 0 = g1 0 ||| (g1 1 ||| (F i &&& al)) := z_upe
      have f2 : z_up (z_up g1 1 (g1 1 ||| (F i &&& al))) 0 (g1 0 ||| (g1 1 ||| (F i &&& al))) 2 = g1 2 := by rw [z_upn (by decide), z_upn (by decide)]
      have f3 : ∀ a, 3 ≤ a → z_up (z_up g1 1 (g1 1 ||| (F i &&& al))) 0 (g1 0 ||| (g1 1 ||| (F i &&& al))) a = g1 a := fun a ha => by rw [z_upn (by omega), z_upn (by omega)]
      generalize z_up (z_up g1 1 (g1 1 ||| (F i &&& al))) 0 (g1 0 ||| (g1 1 ||| (F i &&& al))) = g2 at f0 f1 f2 f3 ⊢
      rw [e0] at f0; rw [e1] at f1 f0; rw [e2] at f2
      by_cases b2 : bt (g2 2) i = true
      · rw [if_pos b2]
        have h0 : z_up g2 2 (g2 2 ||| F i) 0 = g2 0 := z_upn (by decide)
        have h1 : z_up g2 2 (g2 2 ||| F i) 1 = g2 1 := z_upn (by decide)
        unfold z_gle
        rw [h0, h1, z_upe, f0, f1, f2]
        exact ⟨⟨z_sub.l.tr z_sub.l, z_sub.l, z_sub.l.tr z_sub.l⟩, fun _ => ⟨(r _ _).tr z_sub.l, (r _ _).tr z_sub.l⟩, fun _ => r _ _, fun _ => r _ _, fun a ha => by rw [z_upn (by omega), f3 a ha, e3 a ha]⟩
      · rw [if_neg b2]
        unfold z_gle
        rw [f0, f1, f2]
        refine ⟨⟨z_sub.l.tr z_sub.l, z_sub.l, z_sub.l⟩, fun _ => ⟨(r _ _).tr z_sub.l, r _ _⟩, fun _ => r _ _, fun q => absurd ?_ b2, fun a ha => by rw [f3 a ha, e3 a ha]⟩
        rw [f2, b_or, q]; rfl
    · rw [if_neg b1]
      by_cases b2 : bt (g1 2) i = true
      · rw [if_pos b2]
        have h0 : z_up g1 2 (g1 2 ||| F i) 0 = g1 0 := z_upn (by decide)
        have h1 : z_up g1 2 (g1 2 ||| F i) 1 = g1 1 := z_upn (by decide)
        unfold z_gle
        rw [h0, h1, z_upe, e0, e1, e2]
        rw [e1] at b1
        exact ⟨⟨z_sub.l, z_sub.rf, z_sub.l.tr z_sub.l⟩, fun _ => ⟨r _ _, (r _ _).tr z_sub.l⟩, fun q => absurd q b1, fun _ => r _ _, fun a ha => by rw [z_upn (by omega), e3 a ha]⟩
      · rw [if_neg b2]
        unfold z_gle
        rw [e0, e1, e2]
        rw [e1] at b1
        refine ⟨⟨z_sub.l, z_sub.rf, z_sub.l⟩, fun _ => ⟨r _ _, r _ _⟩, fun q => absurd q b1, fun q => absurd ?_ b2, fun a ha => e3 a ha⟩
        rw [e2, b_or, q]; rfl
  · rw [if_neg b0]
    by_cases b1 : bt (g 1) i = true
    · rw [if_pos b1]
      have f1 : z_up (z_up g 1 (g 1 ||| (F i &&& al))) 0 (g 0 ||| (g 1 ||| (F i &&& al))) 1 = g 1 ||| (F i &&& al) := by rw [z_upn (by decide), z_upe]
      have f0 : z_up (z_up g 1 (g 1 ||| (F i &&& al))) 0 (g 0 ||| (g 1 ||| (F i &&& al))) 0 = g 0 ||| (g 1 ||| (F i &&& al)) := z_upe
      have f2 : z_up (z_up g 1 (g 1 ||| (F i &&& al))) 0 (g 0 ||| (g 1 ||| (F i &&& al))) 2 = g 2 := by rw [z_upn (by decide), z_upn (by decide)]
      have f3 : ∀ a, 3 ≤ a → z_up (z_up g 1 (g 1 ||| (F i &&& al))) 0 (g 0 ||| (g 1 ||| (F i &&& al))) a = g a := fun a ha => by rw [z_upn (by omega), z_upn (by omega)]
      generalize z_up (z_up g 1 (g 1 ||| (F i &&& al))) 0 (g 0 ||| (g 1 ||| (F i &&& al))) = g2 at f0 f1 f2 f3 ⊢
      by_cases b2 : bt (g2 2) i = true
      · rw [if_pos b2]
        have h0 : z_up g2 2 (g2 2 ||| F i) 0 = g2 0 := z_upn (by decide)
        have h1 : z_up g2 2 (g2 2 ||| F i) 1 = g2 1 := z_upn (by decide)
        unfold z_gle
        rw [h0, h1, z_upe, f0, f1, f2]
        exact ⟨⟨z_sub.l, z_sub.l, z_sub.l⟩, fun q => absurd q b0, fun _ => r _ _, fun _ => r _ _, fun a ha => by rw [z_upn (by omega), f3 a ha]⟩
      · rw [if_neg b2]
        unfold z_gle
        rw [f0, f1, f2]
        refine ⟨⟨z_sub.l, z_sub.l, z_sub.rf⟩, fun q => absurd q b0, fun _ => r _ _, fun q => absurd ?_ b2, fun a ha => f3 a ha⟩
        rw [f2]; exact q
    · rw [if_neg b1]
      by_cases b2 : bt (g 2) i = true
      · rw [if_pos b2]
        have h0 : z_up g 2 (g 2 ||| F i) 0 = g 0 := z_upn (by decide)
        have h1 : z_up g 2 (g 2 ||| F i) 1 = g 1 := z_upn (by decide)
        unfold z_gle
        rw [h0, h1, z_upe]
        exact ⟨⟨z_sub.rf, z_sub.rf, z_sub.l⟩, fun q => absurd q b0, fun q => absurd q b1, fun _ => r _ _, fun a ha => z_upn (by omega)⟩
      · rw [if_neg b2]
        exact ⟨z_gle.rf, fun q => absurd q b0, fun q => absurd q b1, fun q => absurd q b2, fun a _ => rfl⟩
/-- what holds of the sets stays so, if it is kept by all that is pulled -/
theorem z_g66_p (N O F : Nat → Int32) (al : Int32) (i : Nat) (g : Nat → Int32) (P1 P3 P2 : Nat → Prop) (h0 : ∀ v, v < 32 → bt (g 0) v = true → P1 v) (h1 : ∀ v, v < 32 → bt (g 1) v = true → P3 v) (h2 : ∀ v, v < 32 → bt (g 2) v = true → P2 v)
    (hi : i < 32) (c1 : P1 i → ∀ v, v < 32 → bt (N i) v = true → P1 v) (c2 : P1 i → ∀ v, v < 32 → bt (O i) v = true → P2 v) (c3 : P3 i → ∀ v, v < 32 → bt (F i) v = true → bt al v = true → P3 v) (c4 : ∀ v, P3 v → P1 v) (c5 : P2 i → ∀ v, v < 32 → bt (F i) v = true → P2 v) :
    (∀ v, v < 32 → bt (z_g66 N O F al i g 0) v = true → P1 v) ∧ (∀ v, v < 32 → bt (z_g66 N O F al i g 1) v = true → P3 v) ∧ (∀ v, v < 32 → bt (z_g66 N O F al i g 2) v = true → P2 v) := by
  unfold z_g66
  have A : ∀ g1 : Nat → Int32, (∀ v, v < 32 → bt (g1 0) v = true → P1 v) → (∀ v, v < 32 → bt (g1 1) v = true → P3 v) → (∀ v, v < 32 → bt (g1 2) v = true → P2 v) →
      (∀ v, v < 32 → bt ((if bt (g1 2) i = true then z_up g1 2 (g1 2 ||| F i) else g1) 0) v = true → P1 v) ∧ (∀ v, v < 32 → bt ((if bt (g1 2) i = true then z_up g1 2 (g1 2 ||| F i) else g1) 1) v = true → P3 v) ∧ (∀ v, v < 32 → bt ((if bt (g1 2) i = true then z_up g1 2 (g1 2 ||| F i) else g1) 2) v = true → P2 v) := fun g1 k0 k1 k2 => by
    by_cases q : bt (g1 2) i = true
    · rw [if_pos q, z_upn (by decide), z_upn (by decide), z_upe]
      refine ⟨k0, k1, fun v hv z => ?_⟩
      rw [b_or, Bool.or_eq_true] at z
      rcases z with z | z
      · exact k2 v hv z
      · exact c5 (k2 i hi q) v hv z
    · rw [if_neg q]; exact ⟨k0, k1, k2⟩
  have Bb : ∀ g1 : Nat → Int32, (∀ v, v < 32 → bt (g1 0) v = true → P1 v) → (∀ v, v < 32 → bt (g1 1) v = true → P3 v) → (∀ v, v < 32 → bt (g1 2) v = true → P2 v) →
      (∀ v, v < 32 → bt ((if bt (g1 1) i = true then z_up (z_up g1 1 (g1 1 ||| (F i &&& al))) 0 (g1 0 ||| (g1 1 ||| (F i &&& al))) else g1) 0) v = true → P1 v) ∧ (∀ v, v < 32 → bt ((if bt (g1 1) i = true then z_up (z_up g1 1 (g1 1 ||| (F i &&& al))) 0 (g1 0 ||| (g1 1 ||| (F i &&& al))) else g1) 1) v = true → P3 v) ∧ (∀ v, v < 32 → bt ((if bt (g1 1) i = true then z_up (z_up g1 1 (g1 1 ||| (F i &&& al))) 0 (g1 0 ||| (g1 1 ||| (F i &&& al))) else g1) 2) v = true → P2 v) := fun g1 k0 k1 k2 => by
    by_cases q : bt (g1 1) i = true
    · have s3 : ∀ v, v < 32 → bt (g1 1 ||| (F i &&& al)) v = true → P3 v := fun v hv z => by
        rw [b_or, Bool.or_eq_true] at z
        rcases z with z | z
        · exact k1 v hv z
        · rw [b_and, Bool.and_eq_true] at z; exact c3 (k1 i hi q) v hv z.1 z.2
      rw [if_pos q, z_upe, z_upn (show ¬ 1 = 0 by decide), z_upe, z_upn (show ¬ 2 = 0 by decide), z_upn (show ¬ 2 = 1 by decide)]
      refine ⟨fun v hv z => ?_, s3, k2⟩
      rw [b_or, Bool.or_eq_true] at z
      rcases z with z | z
      · exact k0 v hv z
      · exact c4 v (s3 v hv z)
    · rw [if_neg q]; exact ⟨k0, k1, k2⟩
  have C : (∀ v, v < 32 → bt ((if bt (g 0) i = true then z_up (z_up g 0 (g 0 ||| N i)) 2 (g 2 ||| O i) else g) 0) v = true → P1 v) ∧ (∀ v, v < 32 → bt ((if bt (g 0) i = true then z_up (z_up g 0 (g 0 ||| N i)) 2 (g 2 ||| O i) else g) 1) v = true → P3 v) ∧ (∀ v, v < 32 → bt ((if bt (g 0) i = true then z_up (z_up g 0 (g 0 ||| N i)) 2 (g 2 ||| O i) else g) 2) v = true → P2 v) := by
    by_cases q : bt (g 0) i = true
    · rw [if_pos q, z_upe, z_upn (show ¬ 0 = 2 by decide), z_upe, z_upn (show ¬ 1 = 2 by decide), z_upn (show ¬ 1 = 0 by decide)]
      refine ⟨fun v hv z => ?_, h1, fun v hv z => ?_⟩
      · rw [b_or, Bool.or_eq_true] at z
        rcases z with z | z
        · exact h0 v hv z
        · exact c1 (h0 i hi q) v hv z
      · rw [b_or, Bool.or_eq_true] at z
        rcases z with z | z
        · exact h2 v hv z
        · exact c2 (h0 i hi q) v hv z
    · rw [if_neg q]; exact ⟨h0, h1, h2⟩
  obtain ⟨d0, d1, d2⟩ := Bb _ C.1 C.2.1 C.2.2
  exact A _ d0 d1 d2
end ZA1
