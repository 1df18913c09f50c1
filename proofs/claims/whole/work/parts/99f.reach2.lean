/-! REACH over needs, followers, an ordering (by wip/whole/gen99f.py) -/
section ZV1
variable {k c : Nat} {M : ux_M} {B : Nat → Int32} {E F : Nat → Nat → Prop}
theorem z_41ln (M : ux_M) (k : Nat) (kp : Nat → Int32 → Int32 → ux_M → Prop) (kr : Nat → Int32 → Int32 → ux_M → Int32) (km : Nat → Int32 → Int32 → ux_M → ux_M) (x3 x4 : Int32) : ∀ (n f i : Nat) (x g : Int32), i + n = 16 → n < f → z_rs (M k 491649 0) n i x = g →
    ((¬ g = x4 → kp k g (x3 + 1) M) → p_41n_16 kp f k x x3 x4 (nI i) M) ∧ r_41n_16 kr f k x x3 x4 (nI i) M = (if g = x4 then g else kr k g (x3 + 1) M) ∧ m_41n_16 km f k x x3 x4 (nI i) M = (if g = x4 then M else km k g (x3 + 1) M) := by
  intro n
  induction n with
  | zero =>
    intro f i x g hi hf hg
    obtain ⟨f, rfl⟩ : ∃ z, f = z + 1 := ⟨f - 1, by omega⟩
    have hle : Int32.ofNat 16 ≤ nI i := (z_le (a := 16) (by omega) (by omega)).mpr (by omega)
    rw [z_rs] at hg
    subst hg
    rw [p_41n_16, r_41n_16, m_41n_16, if_pos hle, if_pos hle]
    exact ⟨fun q => ⟨fun _ => ⟨q, fun _ => trivial⟩, fun y => absurd hle y⟩, rfl, rfl⟩
  | succ n ih =>
    intro f i x g hi hf hg
    obtain ⟨f, rfl⟩ : ∃ z, f = z + 1 := ⟨f - 1, by omega⟩
    have i16 : i < 16 := by omega
    have hle : ¬ Int32.ofNat 16 ≤ nI i := fun z => by have := (z_le (a := 16) (by omega) (by omega)).mp z; omega
    have hle' : ¬ (16 : Int32) ≤ nI i := hle
    rw [z_rs] at hg
    rw [p_41n_16, r_41n_16, m_41n_16, if_neg hle, if_neg hle, if_neg hle', if_neg hle']
    simp only [z_shr _ (show i < 32 by omega), z_cl i16, z_nx]
    cases b : bt x i
    · rw [b, if_neg (by decide)] at hg
      obtain ⟨r1, r2, r3⟩ := ih f (i + 1) x g (by omega) (by omega) hg
      rw [if_pos rfl, if_pos rfl]
      exact ⟨fun q => ⟨fun y => absurd y hle, fun _ => ⟨fun y => absurd y hle', fun _ => ⟨fun _ => r1 q, fun y => absurd rfl y⟩⟩⟩, r2, r3⟩
    · rw [b, if_pos rfl] at hg
      obtain ⟨r1, r2, r3⟩ := ih f (i + 1) _ g (by omega) (by omega) hg
      rw [if_neg (show ¬ (true = false) by decide), if_neg (show ¬ (true = false) by decide)]
      exact ⟨fun q => ⟨fun y => absurd y hle, fun _ => ⟨fun y => absurd y hle', fun _ => ⟨fun y => absurd y (by decide), fun _ => ⟨z_i16 i16, r1 q⟩⟩⟩⟩, r2, r3⟩
theorem z_41mn (M : ux_M) (k : Nat) (hB : ∀ i, i < 16 → ∀ v, 16 ≤ v → v < 32 → bt (M k 491649 0 i) v = false) : ∀ (d f r : Nat) (x : Int32), 16 ≤ z_pop x 16 + d → r + d ≤ 15 → d < f → (∀ v, v < 32 → bt x v = true → v < 16) →
    p_41n_4 f k x (nI r) M ∧ m_41n_4 f k x (nI r) M = M ∧ z_rc (M k 491649 0) x (r_41n_4 f k x (nI r) M) := by
  intro d
  induction d with
  | zero =>
    intro f r x hd hr hf hx
    obtain ⟨f, rfl⟩ : ∃ z, f = z + 1 := ⟨f - 1, by omega⟩
    have hle : ¬ (16 : Int32) ≤ nI r := fun z => by have := (z_le (a := 16) (by omega) (by omega)).mp z; omega
    obtain ⟨l1, l2, l3⟩ := z_41ln M k (fun a0 a1 a2 a3 => p_41n_4 f a0 a1 a2 a3) (fun a0 a1 a2 a3 => r_41n_4 f a0 a1 a2 a3) (fun a0 a1 a2 a3 => m_41n_4 f a0 a1 a2 a3) (nI r) x 16 ux_fuel 0 x _ (by omega) (by have := z_fuel; omega) rfl
    have e : z_rs (M k 491649 0) 16 0 x = x := by
      apply Classical.byContradiction
      intro ne
      obtain ⟨v, hv, e1, e2⟩ := z_sub_ne (z_rs.sub (B := M k 491649 0) 16 0 x) ne
      have v16 := z_rs.pp (B := M k 491649 0) (P := fun v => v < 16) 16 0 x (by omega) hx (fun i hi _ v hv q => Classical.byContradiction (fun y => by rw [hB i hi v (by omega) hv] at q; cases q)) v hv e2
      have := z_pop_lt (z_rs.sub (B := M k 491649 0) 16 0 x) e1 e2 16 (by omega) v16
      have := z_pop.le (z_rs (M k 491649 0) 16 0 x) 16
      omega
    rw [p_41n_4, r_41n_4, m_41n_4, if_neg hle, if_neg hle]
    have l2' := l2.trans (if_pos e)
    have l3' := l3.trans (if_pos e)
    refine ⟨⟨fun y => absurd y hle, fun _ => l1 (fun y => absurd e y)⟩, l3', ?_⟩
    have l2'' : r_41n_16 (fun a0 a1 a2 a3 => r_41n_4 f a0 a1 a2 a3) ux_fuel k x (nI r) x 0 M = x := l2'.trans e
    rw [l2'']
    exact ⟨z_sub.rf, fun i hi hb => z_rs.cl 16 0 x (by omega) e i (by omega) (by omega) hb, fun P h1 _ => h1⟩
  | succ d ih =>
    intro f r x hd hr hf hx
    obtain ⟨f, rfl⟩ : ∃ z, f = z + 1 := ⟨f - 1, by omega⟩
    have hle : ¬ (16 : Int32) ≤ nI r := fun z => by have := (z_le (a := 16) (by omega) (by omega)).mp z; omega
    obtain ⟨l1, l2, l3⟩ := z_41ln M k (fun a0 a1 a2 a3 => p_41n_4 f a0 a1 a2 a3) (fun a0 a1 a2 a3 => r_41n_4 f a0 a1 a2 a3) (fun a0 a1 a2 a3 => m_41n_4 f a0 a1 a2 a3) (nI r) x 16 ux_fuel 0 x _ (by omega) (by have := z_fuel; omega) rfl
    have sb := z_rs.sub (B := M k 491649 0) 16 0 x
    have lt16 := z_rs.pp (B := M k 491649 0) (P := fun v => v < 16) 16 0 x (by omega) hx (fun i hi _ v hv q => Classical.byContradiction (fun y => by rw [hB i hi v (by omega) hv] at q; cases q))
    rw [p_41n_4, r_41n_4, m_41n_4, if_neg hle, if_neg hle]
    by_cases e : z_rs (M k 491649 0) 16 0 x = x
    · have l3' := l3.trans (if_pos e)
      have l2'' : r_41n_16 (fun a0 a1 a2 a3 => r_41n_4 f a0 a1 a2 a3) ux_fuel k x (nI r) x 0 M = x := (l2.trans (if_pos e)).trans e
      refine ⟨⟨fun y => absurd y hle, fun _ => l1 (fun y => absurd e y)⟩, l3', ?_⟩
      rw [l2'']
      exact ⟨z_sub.rf, fun i hi hb => z_rs.cl 16 0 x (by omega) e i (by omega) (by omega) hb, fun P h1 _ => h1⟩
    · obtain ⟨v, hv, e1, e2⟩ := z_sub_ne sb e
      have gr := z_pop_lt sb e1 e2 16 (by omega) (lt16 v hv e2)
      obtain ⟨i1, i2, i3, i4, i5⟩ := ih f (r + 1) (z_rs (M k 491649 0) 16 0 x) (by omega) (by omega) (by omega) lt16
      rw [← z_nx] at i1 i2 i3 i4 i5
      have l3' : m_41n_16 (fun a0 a1 a2 a3 => m_41n_4 f a0 a1 a2 a3) ux_fuel k x (nI r) x 0 M = M := (l3.trans (if_neg e)).trans i2
      have l2'' : r_41n_16 (fun a0 a1 a2 a3 => r_41n_4 f a0 a1 a2 a3) ux_fuel k x (nI r) x 0 M = r_41n_4 f k (z_rs (M k 491649 0) 16 0 x) (nI r + 1) M := l2.trans (if_neg e)
      refine ⟨⟨fun y => absurd y hle, fun _ => l1 (fun _ => i1)⟩, l3', ?_⟩
      rw [l2'']
      exact ⟨sb.tr i3, i4, fun P h1 h2 => i5 P (z_rs.pp 16 0 x (by omega) h1 h2) h2⟩
/-- REACH -/
theorem z_41n (M : ux_M) (k : Nat) (hB : ∀ i, i < 16 → ∀ v, 16 ≤ v → v < 32 → bt (M k 491649 0 i) v = false) (x : Int32) (hx : ∀ v, v < 32 → bt x v = true → v < 16) :
    p_41n k x M ∧ m_41n k x M = M ∧ z_rc (M k 491649 0) x (r_41n k x M) := by
  unfold p_41n r_41n m_41n
  by_cases q : x = 0
  · subst q
    obtain ⟨f, hf, _⟩ := z_f1 (n := 0) (by have := z_fuel; omega)
    have hle : ¬ (16 : Int32) ≤ 0 := by decide
    obtain ⟨l1, l2, l3⟩ := z_41ln M k (fun a0 a1 a2 a3 => p_41n_4 f a0 a1 a2 a3) (fun a0 a1 a2 a3 => r_41n_4 f a0 a1 a2 a3) (fun a0 a1 a2 a3 => m_41n_4 f a0 a1 a2 a3) 0 0 16 ux_fuel 0 0 _ (by omega) (by have := z_fuel; omega) (z_rs.zero 16 0)
    have go : p_41n_4 (f + 1) k 0 0 M ∧ m_41n_4 (f + 1) k 0 0 M = M ∧ r_41n_4 (f + 1) k 0 0 M = 0 := by
      rw [p_41n_4, r_41n_4, m_41n_4, if_neg hle, if_neg hle]
      exact ⟨⟨fun y => absurd y hle, fun _ => l1 (fun y => absurd rfl y)⟩, l3.trans (if_pos rfl), l2.trans (if_pos rfl)⟩
    rw [hf, go.2.2]
    refine ⟨go.1, go.2.1, z_sub.rf, fun i _ h => ?_, fun P _ _ v _ h => ?_⟩
    · rw [b_0] at h; cases h
    · rw [b_0] at h; cases h
  · obtain ⟨v, hv, _, e2⟩ := z_sub_ne (x := 0) (y := x) (fun v _ h => by rw [b_0] at h; cases h) q
    have : z_pop (0 : Int32) 16 < z_pop x 16 := z_pop_lt (fun v _ h => by rw [b_0] at h; cases h) (b_0 v) e2 16 (by omega) (hx v hv e2)
    exact z_41mn M k hB 15 ux_fuel 0 x (by omega) (by omega) (by have := z_fuel; omega) hx

theorem z_41lf (M : ux_M) (k : Nat) (kp : Nat → Int32 → Int32 → ux_M → Prop) (kr : Nat → Int32 → Int32 → ux_M → Int32) (km : Nat → Int32 → Int32 → ux_M → ux_M) (x3 x4 : Int32) : ∀ (n f i : Nat) (x g : Int32), i + n = 16 → n < f → z_rs (M k 524417 0) n i x = g →
    ((¬ g = x4 → kp k g (x3 + 1) M) → p_41f_16 kp f k x x3 x4 (nI i) M) ∧ r_41f_16 kr f k x x3 x4 (nI i) M = (if g = x4 then g else kr k g (x3 + 1) M) ∧ m_41f_16 km f k x x3 x4 (nI i) M = (if g = x4 then M else km k g (x3 + 1) M) := by
  intro n
  induction n with
  | zero =>
    intro f i x g hi hf hg
    obtain ⟨f, rfl⟩ : ∃ z, f = z + 1 := ⟨f - 1, by omega⟩
    have hle : Int32.ofNat 16 ≤ nI i := (z_le (a := 16) (by omega) (by omega)).mpr (by omega)
    rw [z_rs] at hg
    subst hg
    rw [p_41f_16, r_41f_16, m_41f_16, if_pos hle, if_pos hle]
    exact ⟨fun q => ⟨fun _ => ⟨q, fun _ => trivial⟩, fun y => absurd hle y⟩, rfl, rfl⟩
  | succ n ih =>
    intro f i x g hi hf hg
    obtain ⟨f, rfl⟩ : ∃ z, f = z + 1 := ⟨f - 1, by omega⟩
    have i16 : i < 16 := by omega
    have hle : ¬ Int32.ofNat 16 ≤ nI i := fun z => by have := (z_le (a := 16) (by omega) (by omega)).mp z; omega
    have hle' : ¬ (16 : Int32) ≤ nI i := hle
    rw [z_rs] at hg
    rw [p_41f_16, r_41f_16, m_41f_16, if_neg hle, if_neg hle, if_neg hle', if_neg hle']
    simp only [z_shr _ (show i < 32 by omega), z_cl i16, z_nx]
    cases b : bt x i
    · rw [b, if_neg (by decide)] at hg
      obtain ⟨r1, r2, r3⟩ := ih f (i + 1) x g (by omega) (by omega) hg
      rw [if_pos rfl, if_pos rfl]
      exact ⟨fun q => ⟨fun y => absurd y hle, fun _ => ⟨fun y => absurd y hle', fun _ => ⟨fun _ => r1 q, fun y => absurd rfl y⟩⟩⟩, r2, r3⟩
    · rw [b, if_pos rfl] at hg
      obtain ⟨r1, r2, r3⟩ := ih f (i + 1) _ g (by omega) (by omega) hg
      rw [if_neg (show ¬ (true = false) by decide), if_neg (show ¬ (true = false) by decide)]
      exact ⟨fun q => ⟨fun y => absurd y hle, fun _ => ⟨fun y => absurd y hle', fun _ => ⟨fun y => absurd y (by decide), fun _ => ⟨z_i16 i16, r1 q⟩⟩⟩⟩, r2, r3⟩
theorem z_41mf (M : ux_M) (k : Nat) (hB : ∀ i, i < 16 → ∀ v, 16 ≤ v → v < 32 → bt (M k 524417 0 i) v = false) : ∀ (d f r : Nat) (x : Int32), 16 ≤ z_pop x 16 + d → r + d ≤ 15 → d < f → (∀ v, v < 32 → bt x v = true → v < 16) →
    p_41f_4 f k x (nI r) M ∧ m_41f_4 f k x (nI r) M = M ∧ z_rc (M k 524417 0) x (r_41f_4 f k x (nI r) M) := by
  intro d
  induction d with
  | zero =>
    intro f r x hd hr hf hx
    obtain ⟨f, rfl⟩ : ∃ z, f = z + 1 := ⟨f - 1, by omega⟩
    have hle : ¬ (16 : Int32) ≤ nI r := fun z => by have := (z_le (a := 16) (by omega) (by omega)).mp z; omega
    obtain ⟨l1, l2, l3⟩ := z_41lf M k (fun a0 a1 a2 a3 => p_41f_4 f a0 a1 a2 a3) (fun a0 a1 a2 a3 => r_41f_4 f a0 a1 a2 a3) (fun a0 a1 a2 a3 => m_41f_4 f a0 a1 a2 a3) (nI r) x 16 ux_fuel 0 x _ (by omega) (by have := z_fuel; omega) rfl
    have e : z_rs (M k 524417 0) 16 0 x = x := by
      apply Classical.byContradiction
      intro ne
      obtain ⟨v, hv, e1, e2⟩ := z_sub_ne (z_rs.sub (B := M k 524417 0) 16 0 x) ne
      have v16 := z_rs.pp (B := M k 524417 0) (P := fun v => v < 16) 16 0 x (by omega) hx (fun i hi _ v hv q => Classical.byContradiction (fun y => by rw [hB i hi v (by omega) hv] at q; cases q)) v hv e2
      have := z_pop_lt (z_rs.sub (B := M k 524417 0) 16 0 x) e1 e2 16 (by omega) v16
      have := z_pop.le (z_rs (M k 524417 0) 16 0 x) 16
      omega
    rw [p_41f_4, r_41f_4, m_41f_4, if_neg hle, if_neg hle]
    have l2' := l2.trans (if_pos e)
    have l3' := l3.trans (if_pos e)
    refine ⟨⟨fun y => absurd y hle, fun _ => l1 (fun y => absurd e y)⟩, l3', ?_⟩
    have l2'' : r_41f_16 (fun a0 a1 a2 a3 => r_41f_4 f a0 a1 a2 a3) ux_fuel k x (nI r) x 0 M = x := l2'.trans e
    rw [l2'']
    exact ⟨z_sub.rf, fun i hi hb => z_rs.cl 16 0 x (by omega) e i (by omega) (by omega) hb, fun P h1 _ => h1⟩
  | succ d ih =>
    intro f r x hd hr hf hx
    obtain ⟨f, rfl⟩ : ∃ z, f = z + 1 := ⟨f - 1, by omega⟩
    have hle : ¬ (16 : Int32) ≤ nI r := fun z => by have := (z_le (a := 16) (by omega) (by omega)).mp z; omega
    obtain ⟨l1, l2, l3⟩ := z_41lf M k (fun a0 a1 a2 a3 => p_41f_4 f a0 a1 a2 a3) (fun a0 a1 a2 a3 => r_41f_4 f a0 a1 a2 a3) (fun a0 a1 a2 a3 => m_41f_4 f a0 a1 a2 a3) (nI r) x 16 ux_fuel 0 x _ (by omega) (by have := z_fuel; omega) rfl
    have sb := z_rs.sub (B := M k 524417 0) 16 0 x
    have lt16 := z_rs.pp (B := M k 524417 0) (P := fun v => v < 16) 16 0 x (by omega) hx (fun i hi _ v hv q => Classical.byContradiction (fun y => by rw [hB i hi v (by omega) hv] at q; cases q))
    rw [p_41f_4, r_41f_4, m_41f_4, if_neg hle, if_neg hle]
    by_cases e : z_rs (M k 524417 0) 16 0 x = x
    · have l3' := l3.trans (if_pos e)
      have l2'' : r_41f_16 (fun a0 a1 a2 a3 => r_41f_4 f a0 a1 a2 a3) ux_fuel k x (nI r) x 0 M = x := (l2.trans (if_pos e)).trans e
      refine ⟨⟨fun y => absurd y hle, fun _ => l1 (fun y => absurd e y)⟩, l3', ?_⟩
      rw [l2'']
      exact ⟨z_sub.rf, fun i hi hb => z_rs.cl 16 0 x (by omega) e i (by omega) (by omega) hb, fun P h1 _ => h1⟩
    · obtain ⟨v, hv, e1, e2⟩ := z_sub_ne sb e
      have gr := z_pop_lt sb e1 e2 16 (by omega) (lt16 v hv e2)
      obtain ⟨i1, i2, i3, i4, i5⟩ := ih f (r + 1) (z_rs (M k 524417 0) 16 0 x) (by omega) (by omega) (by omega) lt16
      rw [← z_nx] at i1 i2 i3 i4 i5
      have l3' : m_41f_16 (fun a0 a1 a2 a3 => m_41f_4 f a0 a1 a2 a3) ux_fuel k x (nI r) x 0 M = M := (l3.trans (if_neg e)).trans i2
      have l2'' : r_41f_16 (fun a0 a1 a2 a3 => r_41f_4 f a0 a1 a2 a3) ux_fuel k x (nI r) x 0 M = r_41f_4 f k (z_rs (M k 524417 0) 16 0 x) (nI r + 1) M := l2.trans (if_neg e)
      refine ⟨⟨fun y => absurd y hle, fun _ => l1 (fun _ => i1)⟩, l3', ?_⟩
      rw [l2'']
      exact ⟨sb.tr i3, i4, fun P h1 h2 => i5 P (z_rs.pp 16 0 x (by omega) h1 h2) h2⟩
/-- REACH -/
theorem z_41f (M : ux_M) (k : Nat) (hB : ∀ i, i < 16 → ∀ v, 16 ≤ v → v < 32 → bt (M k 524417 0 i) v = false) (x : Int32) (hx : ∀ v, v < 32 → bt x v = true → v < 16) :
    p_41f k x M ∧ m_41f k x M = M ∧ z_rc (M k 524417 0) x (r_41f k x M) := by
  unfold p_41f r_41f m_41f
  by_cases q : x = 0
  · subst q
    obtain ⟨f, hf, _⟩ := z_f1 (n := 0) (by have := z_fuel; omega)
    have hle : ¬ (16 : Int32) ≤ 0 := by decide
    obtain ⟨l1, l2, l3⟩ := z_41lf M k (fun a0 a1 a2 a3 => p_41f_4 f a0 a1 a2 a3) (fun a0 a1 a2 a3 => r_41f_4 f a0 a1 a2 a3) (fun a0 a1 a2 a3 => m_41f_4 f a0 a1 a2 a3) 0 0 16 ux_fuel 0 0 _ (by omega) (by have := z_fuel; omega) (z_rs.zero 16 0)
    have go : p_41f_4 (f + 1) k 0 0 M ∧ m_41f_4 (f + 1) k 0 0 M = M ∧ r_41f_4 (f + 1) k 0 0 M = 0 := by
      rw [p_41f_4, r_41f_4, m_41f_4, if_neg hle, if_neg hle]
      exact ⟨⟨fun y => absurd y hle, fun _ => l1 (fun y => absurd rfl y)⟩, l3.trans (if_pos rfl), l2.trans (if_pos rfl)⟩
    rw [hf, go.2.2]
    refine ⟨go.1, go.2.1, z_sub.rf, fun i _ h => ?_, fun P _ _ v _ h => ?_⟩
    · rw [b_0] at h; cases h
    · rw [b_0] at h; cases h
  · obtain ⟨v, hv, _, e2⟩ := z_sub_ne (x := 0) (y := x) (fun v _ h => by rw [b_0] at h; cases h) q
    have : z_pop (0 : Int32) 16 < z_pop x 16 := z_pop_lt (fun v _ h => by rw [b_0] at h; cases h) (b_0 v) e2 16 (by omega) (hx v hv e2)
    exact z_41mf M k hB 15 ux_fuel 0 x (by omega) (by omega) (by have := z_fuel; omega) hx

theorem z_41lr (M : ux_M) (k rr : Nat) (kp : Nat → Nat → Int32 → Int32 → ux_M → Prop) (kr : Nat → Nat → Int32 → Int32 → ux_M → Int32) (km : Nat → Nat → Int32 → Int32 → ux_M → ux_M) (x3 x4 : Int32) : ∀ (n f i : Nat) (x g : Int32), i + n = 16 → n < f → z_rs (M k 475265 rr) n i x = g →
    ((¬ g = x4 → kp k rr g (x3 + 1) M) → p_41r_16 kp f k rr x x3 x4 (nI i) M) ∧ r_41r_16 kr f k rr x x3 x4 (nI i) M = (if g = x4 then g else kr k rr g (x3 + 1) M) ∧ m_41r_16 km f k rr x x3 x4 (nI i) M = (if g = x4 then M else km k rr g (x3 + 1) M) := by
  intro n
  induction n with
  | zero =>
    intro f i x g hi hf hg
    obtain ⟨f, rfl⟩ : ∃ z, f = z + 1 := ⟨f - 1, by omega⟩
    have hle : Int32.ofNat 16 ≤ nI i := (z_le (a := 16) (by omega) (by omega)).mpr (by omega)
    rw [z_rs] at hg
    subst hg
    rw [p_41r_16, r_41r_16, m_41r_16, if_pos hle, if_pos hle]
    exact ⟨fun q => ⟨fun _ => ⟨q, fun _ => trivial⟩, fun y => absurd hle y⟩, rfl, rfl⟩
  | succ n ih =>
    intro f i x g hi hf hg
    obtain ⟨f, rfl⟩ : ∃ z, f = z + 1 := ⟨f - 1, by omega⟩
    have i16 : i < 16 := by omega
    have hle : ¬ Int32.ofNat 16 ≤ nI i := fun z => by have := (z_le (a := 16) (by omega) (by omega)).mp z; omega
    have hle' : ¬ (16 : Int32) ≤ nI i := hle
    rw [z_rs] at hg
    rw [p_41r_16, r_41r_16, m_41r_16, if_neg hle, if_neg hle, if_neg hle', if_neg hle']
    simp only [z_shr _ (show i < 32 by omega), z_cl i16, z_nx]
    cases b : bt x i
    · rw [b, if_neg (by decide)] at hg
      obtain ⟨r1, r2, r3⟩ := ih f (i + 1) x g (by omega) (by omega) hg
      rw [if_pos rfl, if_pos rfl]
      exact ⟨fun q => ⟨fun y => absurd y hle, fun _ => ⟨fun y => absurd y hle', fun _ => ⟨fun _ => r1 q, fun y => absurd rfl y⟩⟩⟩, r2, r3⟩
    · rw [b, if_pos rfl] at hg
      obtain ⟨r1, r2, r3⟩ := ih f (i + 1) _ g (by omega) (by omega) hg
      rw [if_neg (show ¬ (true = false) by decide), if_neg (show ¬ (true = false) by decide)]
      exact ⟨fun q => ⟨fun y => absurd y hle, fun _ => ⟨fun y => absurd y hle', fun _ => ⟨fun y => absurd y (by decide), fun _ => ⟨z_i16 i16, r1 q⟩⟩⟩⟩, r2, r3⟩
theorem z_41mr (M : ux_M) (k rr : Nat) (hB : ∀ i, i < 16 → ∀ v, 16 ≤ v → v < 32 → bt (M k 475265 rr i) v = false) : ∀ (d f r : Nat) (x : Int32), 16 ≤ z_pop x 16 + d → r + d ≤ 15 → d < f → (∀ v, v < 32 → bt x v = true → v < 16) →
    p_41r_4 f k rr x (nI r) M ∧ m_41r_4 f k rr x (nI r) M = M ∧ z_rc (M k 475265 rr) x (r_41r_4 f k rr x (nI r) M) := by
  intro d
  induction d with
  | zero =>
    intro f r x hd hr hf hx
    obtain ⟨f, rfl⟩ : ∃ z, f = z + 1 := ⟨f - 1, by omega⟩
    have hle : ¬ (16 : Int32) ≤ nI r := fun z => by have := (z_le (a := 16) (by omega) (by omega)).mp z; omega
    obtain ⟨l1, l2, l3⟩ := z_41lr M k rr (fun a0 a1 a2 a3 a4 => p_41r_4 f a0 a1 a2 a3 a4) (fun a0 a1 a2 a3 a4 => r_41r_4 f a0 a1 a2 a3 a4) (fun a0 a1 a2 a3 a4 => m_41r_4 f a0 a1 a2 a3 a4) (nI r) x 16 ux_fuel 0 x _ (by omega) (by have := z_fuel; omega) rfl
    have e : z_rs (M k 475265 rr) 16 0 x = x := by
      apply Classical.byContradiction
      intro ne
      obtain ⟨v, hv, e1, e2⟩ := z_sub_ne (z_rs.sub (B := M k 475265 rr) 16 0 x) ne
      have v16 := z_rs.pp (B := M k 475265 rr) (P := fun v => v < 16) 16 0 x (by omega) hx (fun i hi _ v hv q => Classical.byContradiction (fun y => by rw [hB i hi v (by omega) hv] at q; cases q)) v hv e2
      have := z_pop_lt (z_rs.sub (B := M k 475265 rr) 16 0 x) e1 e2 16 (by omega) v16
      have := z_pop.le (z_rs (M k 475265 rr) 16 0 x) 16
      omega
    rw [p_41r_4, r_41r_4, m_41r_4, if_neg hle, if_neg hle]
    have l2' := l2.trans (if_pos e)
    have l3' := l3.trans (if_pos e)
    refine ⟨⟨fun y => absurd y hle, fun _ => l1 (fun y => absurd e y)⟩, l3', ?_⟩
    have l2'' : r_41r_16 (fun a0 a1 a2 a3 a4 => r_41r_4 f a0 a1 a2 a3 a4) ux_fuel k rr x (nI r) x 0 M = x := l2'.trans e
    rw [l2'']
    exact ⟨z_sub.rf, fun i hi hb => z_rs.cl 16 0 x (by omega) e i (by omega) (by omega) hb, fun P h1 _ => h1⟩
  | succ d ih =>
    intro f r x hd hr hf hx
    obtain ⟨f, rfl⟩ : ∃ z, f = z + 1 := ⟨f - 1, by omega⟩
    have hle : ¬ (16 : Int32) ≤ nI r := fun z => by have := (z_le (a := 16) (by omega) (by omega)).mp z; omega
    obtain ⟨l1, l2, l3⟩ := z_41lr M k rr (fun a0 a1 a2 a3 a4 => p_41r_4 f a0 a1 a2 a3 a4) (fun a0 a1 a2 a3 a4 => r_41r_4 f a0 a1 a2 a3 a4) (fun a0 a1 a2 a3 a4 => m_41r_4 f a0 a1 a2 a3 a4) (nI r) x 16 ux_fuel 0 x _ (by omega) (by have := z_fuel; omega) rfl
    have sb := z_rs.sub (B := M k 475265 rr) 16 0 x
    have lt16 := z_rs.pp (B := M k 475265 rr) (P := fun v => v < 16) 16 0 x (by omega) hx (fun i hi _ v hv q => Classical.byContradiction (fun y => by rw [hB i hi v (by omega) hv] at q; cases q))
    rw [p_41r_4, r_41r_4, m_41r_4, if_neg hle, if_neg hle]
    by_cases e : z_rs (M k 475265 rr) 16 0 x = x
    · have l3' := l3.trans (if_pos e)
      have l2'' : r_41r_16 (fun a0 a1 a2 a3 a4 => r_41r_4 f a0 a1 a2 a3 a4) ux_fuel k rr x (nI r) x 0 M = x := (l2.trans (if_pos e)).trans e
      refine ⟨⟨fun y => absurd y hle, fun _ => l1 (fun y => absurd e y)⟩, l3', ?_⟩
      rw [l2'']
      exact ⟨z_sub.rf, fun i hi hb => z_rs.cl 16 0 x (by omega) e i (by omega) (by omega) hb, fun P h1 _ => h1⟩
    · obtain ⟨v, hv, e1, e2⟩ := z_sub_ne sb e
      have gr := z_pop_lt sb e1 e2 16 (by omega) (lt16 v hv e2)
      obtain ⟨i1, i2, i3, i4, i5⟩ := ih f (r + 1) (z_rs (M k 475265 rr) 16 0 x) (by omega) (by omega) (by omega) lt16
      rw [← z_nx] at i1 i2 i3 i4 i5
      have l3' : m_41r_16 (fun a0 a1 a2 a3 a4 => m_41r_4 f a0 a1 a2 a3 a4) ux_fuel k rr x (nI r) x 0 M = M := (l3.trans (if_neg e)).trans i2
      have l2'' : r_41r_16 (fun a0 a1 a2 a3 a4 => r_41r_4 f a0 a1 a2 a3 a4) ux_fuel k rr x (nI r) x 0 M = r_41r_4 f k rr (z_rs (M k 475265 rr) 16 0 x) (nI r + 1) M := l2.trans (if_neg e)
      refine ⟨⟨fun y => absurd y hle, fun _ => l1 (fun _ => i1)⟩, l3', ?_⟩
      rw [l2'']
      exact ⟨sb.tr i3, i4, fun P h1 h2 => i5 P (z_rs.pp 16 0 x (by omega) h1 h2) h2⟩
/-- REACH -/
theorem z_41r (M : ux_M) (k rr : Nat) (hB : ∀ i, i < 16 → ∀ v, 16 ≤ v → v < 32 → bt (M k 475265 rr i) v = false) (x : Int32) (hx : ∀ v, v < 32 → bt x v = true → v < 16) :
    p_41r k rr x M ∧ m_41r k rr x M = M ∧ z_rc (M k 475265 rr) x (r_41r k rr x M) := by
  unfold p_41r r_41r m_41r
  by_cases q : x = 0
  · subst q
    obtain ⟨f, hf, _⟩ := z_f1 (n := 0) (by have := z_fuel; omega)
    have hle : ¬ (16 : Int32) ≤ 0 := by decide
    obtain ⟨l1, l2, l3⟩ := z_41lr M k rr (fun a0 a1 a2 a3 a4 => p_41r_4 f a0 a1 a2 a3 a4) (fun a0 a1 a2 a3 a4 => r_41r_4 f a0 a1 a2 a3 a4) (fun a0 a1 a2 a3 a4 => m_41r_4 f a0 a1 a2 a3 a4) 0 0 16 ux_fuel 0 0 _ (by omega) (by have := z_fuel; omega) (z_rs.zero 16 0)
    have go : p_41r_4 (f + 1) k rr 0 0 M ∧ m_41r_4 (f + 1) k rr 0 0 M = M ∧ r_41r_4 (f + 1) k rr 0 0 M = 0 := by
      rw [p_41r_4, r_41r_4, m_41r_4, if_neg hle, if_neg hle]
      exact ⟨⟨fun y => absurd y hle, fun _ => l1 (fun y => absurd rfl y)⟩, l3.trans (if_pos rfl), l2.trans (if_pos rfl)⟩
    rw [hf, go.2.2]
    refine ⟨go.1, go.2.1, z_sub.rf, fun i _ h => ?_, fun P _ _ v _ h => ?_⟩
    · rw [b_0] at h; cases h
    · rw [b_0] at h; cases h
  · obtain ⟨v, hv, _, e2⟩ := z_sub_ne (x := 0) (y := x) (fun v _ h => by rw [b_0] at h; cases h) q
    have : z_pop (0 : Int32) 16 < z_pop x 16 := z_pop_lt (fun v _ h => by rw [b_0] at h; cases h) (b_0 v) e2 16 (by omega) (hx v hv e2)
    exact z_41mr M k rr hB 15 ux_fuel 0 x (by omega) (by omega) (by have := z_fuel; omega) hx

theorem z_40lr (M : ux_M) (k rr : Nat) (hB : ∀ i, i < 16 → ∀ v, 16 ≤ v → v < 32 → bt (M k 475265 rr i) v = false) : ∀ (n f i : Nat) (x : Int32), i + n = 16 → n < f →
    p_40r_4 f k rr x (nI i) M ∧ m_40r_4 f k rr x (nI i) M = M ∧ ∀ w, w < 32 → bt (r_40r_4 f k rr x (nI i) M) w = (bt x w || (decide (i ≤ w) && decide (w < 16) && bt (r_41r k rr (M k 475265 rr w) M) w)) := by
  intro n
  induction n with
  | zero =>
    intro f i x hi hf
    obtain ⟨f, rfl⟩ : ∃ z, f = z + 1 := ⟨f - 1, by omega⟩
    have hle : Int32.ofNat 16 ≤ nI i := (z_le (a := 16) (by omega) (by omega)).mpr (by omega)
    rw [p_40r_4, r_40r_4, m_40r_4, if_pos hle, if_pos hle]
    refine ⟨⟨fun _ => trivial, fun y => absurd hle y⟩, rfl, fun w _ => ?_⟩
    have : (decide (i ≤ w) && decide (w < 16)) = false := by
      by_cases q : i ≤ w
      · have : ¬ w < 16 := by omega
        simp [this]
      · simp [q]
    rw [this, Bool.false_and, Bool.or_false]
  | succ n ih =>
    intro f i x hi hf
    obtain ⟨f, rfl⟩ : ∃ z, f = z + 1 := ⟨f - 1, by omega⟩
    have i16 : i < 16 := by omega
    have i32 : i < 32 := by omega
    have hle : ¬ Int32.ofNat 16 ≤ nI i := fun z => by have := (z_le (a := 16) (by omega) (by omega)).mp z; omega
    have hle' : ¬ (16 : Int32) ≤ nI i := hle
    obtain ⟨b1, b2, b3⟩ := z_41r M k rr hB (M k 475265 rr i) (fun v hv q => Classical.byContradiction (fun y => by rw [hB i i16 v (by omega) hv] at q; cases q))
    rw [p_40r_4, r_40r_4, m_40r_4, if_neg hle, if_neg hle, if_neg hle', if_neg hle']
    simp only [z_cl i16, z_nx, b2]
    obtain ⟨r1, r2, r3⟩ := ih f (i + 1) (x ||| (r_41r k rr (M k 475265 rr i) M &&& (1 <<< (nI i &&& 31)))) (by omega) (by omega)
    refine ⟨⟨fun y => absurd y hle, fun _ => ⟨fun y => absurd y hle', fun _ => ⟨z_i16 i16, b1, r1⟩⟩⟩, r2, fun w hw => ?_⟩
    rw [r3 w hw, b_or, b_and, z_bit i32 hw]
    by_cases q : w = i
    · subst q
      have : ¬ w + 1 ≤ w := by omega
      simp [i16, this]
    · rw [z_lei _ _ q]; simp [q]
/-- INCIRCLES -/
theorem z_40r (M : ux_M) (k rr : Nat) (hB : ∀ i, i < 16 → ∀ v, 16 ≤ v → v < 32 → bt (M k 475265 rr i) v = false) : p_40r k rr M ∧ m_40r k rr M = M
    ∧ ∀ w, w < 32 → (bt (r_40r k rr M) w = true ↔ w < 16 ∧ z_tc (fun x y => x < 16 ∧ y < 32 ∧ bt (M k 475265 rr x) y = true) w w) := by
  obtain ⟨r1, r2, r3⟩ := z_40lr M k rr hB 16 ux_fuel 0 0 (by omega) (by have := z_fuel; omega)
  refine ⟨r1, r2, fun w hw => ?_⟩
  have e : bt (r_40r k rr M) w = (bt 0 w || (decide (0 ≤ w) && decide (w < 16) && bt (r_41r k rr (M k 475265 rr w) M) w)) := r3 w hw
  rw [e, b_0]
  by_cases q : w < 16
  · obtain ⟨_, _, b1, b2, b3⟩ := z_41r M k rr hB (M k 475265 rr w) (fun v hv q' => Classical.byContradiction (fun y => by rw [hB w q v (by omega) hv] at q'; cases q'))
    simp only [q, Nat.zero_le, decide_true, Bool.and_self, Bool.true_and, Bool.false_or, true_and]
    constructor
    · intro h
      exact b3 (fun v => z_tc (fun x y => x < 16 ∧ y < 32 ∧ bt (M k 475265 rr x) y = true) w v) (fun v hv y => z_tc.one ⟨q, hv, y⟩) (fun i hi p v hv y => p.tr (z_tc.one ⟨hi, hv, y⟩)) w hw h
    · intro h
      exact z_tc.lst (P := fun v => bt (r_41r k rr (M k 475265 rr w) M) v = true) (fun y z p y' => b2 y y'.1 p z y'.2.1 y'.2.2) (fun v y => b1 v y.2.1 y.2.2) h
  · simp [q]

end ZV1
