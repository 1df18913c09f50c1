/-! LOAD, 2: words (by wip/whole/gen99w.py) -/
section ZL2
variable {M M' m : ux_M} {T : Nat → Int32} {N i j p n : Nat} {a b c v : Int32} {P : Nat → Bool}
theorem z_13w1l (h : z_rd4 M T N) (h4 : M 4 671757 0 4 = nI p) (hp : p + 6 ≤ N) : ∀ n f i, i + n = 6 → n < f → p_13w1_28 f (nI i) M ∧ ((r_13w1_28 f (nI i) M = 1 ∧ ∀ j, i ≤ j → j < 6 → T (p + j) = Int32.ofNat ((ux_words.getD 1 []).getD j 0)) ∨ (r_13w1_28 f (nI i) M = 0 ∧ ¬ ∀ j, i ≤ j → j < 6 → T (p + j) = Int32.ofNat ((ux_words.getD 1 []).getD j 0))) := by
  obtain ⟨hN, h1, h2, hT⟩ := h
  intro n
  induction n with
  | zero =>
    intro f i hi hf
    obtain ⟨f, rfl⟩ : ∃ g, f = g + 1 := ⟨f - 1, by omega⟩
    have le : Int32.ofNat 6 ≤ nI i := (z_le (a := 6) (by omega) (by omega)).mpr (by omega)
    rw [p_13w1_28, r_13w1_28, if_pos le]
    exact ⟨⟨fun _ => trivial, fun z => absurd le z⟩, .inl ⟨rfl, fun j z1 z2 => absurd z2 (by omega)⟩⟩
  | succ n ih =>
    intro f i hi hf
    obtain ⟨f, rfl⟩ : ∃ g, f = g + 1 := ⟨f - 1, by omega⟩
    have le : ¬ Int32.ofNat 6 ≤ nI i := fun z => by have := (z_le (a := 6) (by omega) (by omega)).mp z; omega
    have le8 : ¬ Int32.ofNat 800 ≤ nI (p + i) := fun z => by have := (z_le (a := 800) (by omega) (by omega)).mp z; omega
    rw [p_13w1_28, r_13w1_28, if_neg le, h4, z_add, if_neg le8, h1, z_cls (show p + i < 2000000000 by omega), z_cls (show i < 2000000000 by omega), hT (p + i) (by omega), z_nx]
    have v1 : vp_in (nI (p + i)) 800 := vp_in_nI (by omega) (by omega)
    have v2 : vp_in (nI i) 6 := vp_in_nI (by omega) (by omega)
    by_cases q : T (p + i) = Int32.ofNat ((ux_words.getD 1 []).getD i 0)
    · obtain ⟨i1, i2⟩ := ih f (i + 1) (by omega) (by omega)
      have g : (∀ j, i ≤ j → j < 6 → T (p + j) = Int32.ofNat ((ux_words.getD 1 []).getD j 0)) ↔ ∀ j, i + 1 ≤ j → j < 6 → T (p + j) = Int32.ofNat ((ux_words.getD 1 []).getD j 0) :=
        ⟨fun z j z1 z2 => z j (by omega) z2, fun z j z1 z2 => by
          by_cases e : j = i
          · subst e; exact q
          · exact z j (by omega) z2⟩
      rw [if_pos q, g]
      exact ⟨⟨fun z => absurd z le, fun _ => ⟨rfl, fun z => absurd z le8, fun _ => ⟨rfl, v1, v2, fun _ => i1, fun z => absurd q z⟩⟩⟩, i2⟩
    · rw [if_neg q]
      exact ⟨⟨fun z => absurd z le, fun _ => ⟨rfl, fun z => absurd z le8, fun _ => ⟨rfl, v1, v2, fun z => absurd z q, fun _ => trivial⟩⟩⟩, .inr ⟨rfl, fun z => q (z i (Nat.le_refl _) (by omega))⟩⟩
theorem z_13w1 (h : z_rd4 M T N) (hp : p ≤ N) (h3 : M 4 671757 0 3 = z_xp T N p) (h4 : M 4 671757 0 4 = nI p) (h5 : M 4 671757 0 5 = nI (z_xe T N p)) : p_13w1 M ∧ ((r_13w1 M = 1 ∧ z_iwd T N p 1 6) ∨ (r_13w1 M = 0 ∧ ¬ z_iwd T N p 1 6)) := by
  have hN := h.1
  obtain ⟨x1, x2, x3⟩ := z_xpe (T := T) hp
  unfold p_13w1 r_13w1
  rw [h3]
  by_cases q : z_xL T N p = true
  · obtain ⟨y1, y2⟩ := x2 q
    obtain ⟨_, w2, _, _⟩ := z_xn_b (P := z_xL T N) (N := N) (N - p) p (by omega)
    rw [h4, h5, y1, z_sbn (show p ≤ z_xn (z_xL T N) N p by omega), if_pos (x1.mpr q)]
    by_cases g : z_xn (z_xL T N) N p - p = 6
    · obtain ⟨a1, a2⟩ := z_13w1l h h4 (by omega) 6 ux_fuel 0 (by omega) (by have := z_fuel; omega)
      have e : nI (z_xn (z_xL T N) N p - p) = Int32.ofNat 6 := by rw [g]; rfl
      rw [if_pos e]
      refine ⟨⟨fun z => absurd (x1.mpr q) z, fun _ => ⟨fun _ => a1, fun z => absurd e z⟩⟩, ?_⟩
      rcases a2 with ⟨a2, a3⟩ | ⟨a2, a3⟩
      · exact .inl ⟨a2, g, fun j hj => a3 j (by omega) hj⟩
      · exact .inr ⟨a2, fun z => a3 (fun j _ hj => z.2 j hj)⟩
    · have e : ¬ nI (z_xn (z_xL T N) N p - p) = Int32.ofNat 6 := fun z => g ((z_eq (b := 6) (by omega) (by omega)).mp z)
      rw [if_neg e]
      exact ⟨⟨fun z => absurd (x1.mpr q) z, fun _ => ⟨fun z => absurd z e, fun _ => trivial⟩⟩, .inr ⟨rfl, fun z => g z.1⟩⟩
  · have n1 : ¬ z_xp T N p = 1 := fun z => q (x1.mp z)
    rw [if_neg n1]
    exact ⟨⟨fun _ => trivial, fun z => absurd z n1⟩, .inr ⟨rfl, fun z => by have := z.1; rw [x3 q] at this; omega⟩⟩
theorem z_154w1l (h : z_rd5 M T N) (hb : M 5 819253 0 10 = nI p) (hp : p + 6 ≤ N) : ∀ n f i (x3 : Int32), i + n = 6 → n < f → (x3 = 0 ∨ x3 = 1) → p_154w1_27 f (nI (p + 6)) x3 (nI i) M ∧ ((r_154w1_27 f (nI (p + 6)) x3 (nI i) M = 1 ∧ x3 = 1 ∧ ∀ j, i ≤ j → j < 6 → T (p + j) = Int32.ofNat ((ux_words.getD 1 []).getD j 0)) ∨ (r_154w1_27 f (nI (p + 6)) x3 (nI i) M = 0 ∧ ¬ (x3 = 1 ∧ ∀ j, i ≤ j → j < 6 → T (p + j) = Int32.ofNat ((ux_words.getD 1 []).getD j 0)))) := by
  have hN := h.1
  have h10 : ¬ (1 : Int32) = 0 := by decide
  have h01 : ¬ (0 : Int32) = 1 := by decide
  intro n
  induction n with
  | zero =>
    intro f i x3 hi hf hx
    obtain ⟨f, rfl⟩ : ∃ g, f = g + 1 := ⟨f - 1, by omega⟩
    have le : nI (p + 6) ≤ nI (p + i) := (z_le (by omega) (by omega)).mpr (by omega)
    rw [p_154w1_27, r_154w1_27, hb, z_add]
    rcases hx with rfl | rfl
    · rw [if_pos rfl]
      exact ⟨⟨fun _ => .inl rfl, fun z => absurd rfl z⟩, .inr ⟨rfl, fun z => h01 z.1⟩⟩
    · rw [if_neg h10, if_pos le]
      exact ⟨⟨fun z => absurd z h10, fun _ => ⟨fun _ => .inr rfl, fun z => absurd le z⟩⟩, .inl ⟨rfl, rfl, fun j z1 z2 => absurd z2 (by omega)⟩⟩
  | succ n ih =>
    intro f i x3 hi hf hx
    obtain ⟨f, rfl⟩ : ∃ g, f = g + 1 := ⟨f - 1, by omega⟩
    have le : ¬ nI (p + 6) ≤ nI (p + i) := fun z => by have := (z_le (by omega) (by omega)).mp z; omega
    obtain ⟨b1, b2⟩ := z_153 (i := p + i) h (by omega)
    rw [if_neg (show ¬ N ≤ p + i by omega)] at b2
    rw [p_154w1_27, r_154w1_27, hb, z_add, b2, z_cls (show i < 2000000000 by omega), z_nx]
    rcases hx with rfl | rfl
    · rw [if_pos rfl]
      exact ⟨⟨fun _ => .inl rfl, fun z => absurd rfl z⟩, .inr ⟨rfl, fun z => h01 z.1⟩⟩
    · have v2 : vp_in (nI i) 6 := vp_in_nI (by omega) (by omega)
      rw [if_neg h10, if_neg le]
      by_cases q : T (p + i) = Int32.ofNat ((ux_words.getD 1 []).getD i 0)
      · obtain ⟨i1, i2⟩ := ih f (i + 1) 1 (by omega) (by omega) (.inr rfl)
        have g : (∀ j, i ≤ j → j < 6 → T (p + j) = Int32.ofNat ((ux_words.getD 1 []).getD j 0)) ↔ ∀ j, i + 1 ≤ j → j < 6 → T (p + j) = Int32.ofNat ((ux_words.getD 1 []).getD j 0) :=
          ⟨fun z j z1 z2 => z j (by omega) z2, fun z j z1 z2 => by
            by_cases e : j = i
            · subst e; exact q
            · exact z j (by omega) z2⟩
        rw [if_pos q, g]
        exact ⟨⟨fun z => absurd z h10, fun _ => ⟨fun z => absurd z le, fun _ => ⟨b1, v2, fun z => absurd q z, fun _ => i1⟩⟩⟩, i2⟩
      · obtain ⟨i1, i2⟩ := ih f (i + 1) 0 (by omega) (by omega) (.inl rfl)
        rw [if_neg q]
        refine ⟨⟨fun z => absurd z h10, fun _ => ⟨fun z => absurd z le, fun _ => ⟨b1, v2, fun _ => i1, fun z => absurd z q⟩⟩⟩, .inr ⟨?_, fun z => q (z.2 i (Nat.le_refl _) (by omega))⟩⟩
        rcases i2 with ⟨_, z, _⟩ | ⟨i2, _⟩
        · exact absurd z h01
        · exact i2
theorem z_154w1 (h : z_rd5 M T N) (hp : p ≤ N) (hb : M 5 819253 0 10 = nI p) : p_154w1 M ∧ ((r_154w1 M = 1 ∧ z_iwd T N p 1 6) ∨ (r_154w1 M = 0 ∧ ¬ z_iwd T N p 1 6)) := by
  have hN := h.1
  obtain ⟨a1, a2⟩ := z_155 h hp hb
  obtain ⟨w1, w2, _, _⟩ := z_xn_b (P := z_xL T N) (N := N) (N - p) p (by omega)
  unfold p_154w1 r_154w1
  rw [a2, hb, z_sbn w1]
  by_cases g : z_xn (z_xL T N) N p - p = 6
  · obtain ⟨b1, b2⟩ := z_154w1l h hb (by omega) 6 ux_fuel 0 1 (by omega) (by have := z_fuel; omega) (.inr rfl)
    have e : nI (z_xn (z_xL T N) N p - p) = Int32.ofNat 6 := by rw [g]; rfl
    have e2 : z_xn (z_xL T N) N p = p + 6 := by omega
    rw [if_pos e]
    rw [← e2] at b1 b2
    refine ⟨⟨a1, fun z => absurd e z, fun _ => b1⟩, ?_⟩
    rcases b2 with ⟨b2, _, b3⟩ | ⟨b2, b3⟩
    · exact .inl ⟨b2, g, fun j hj => b3 j (by omega) hj⟩
    · exact .inr ⟨b2, fun z => b3 ⟨rfl, fun j _ hj => z.2 j hj⟩⟩
  · have e : ¬ nI (z_xn (z_xL T N) N p - p) = Int32.ofNat 6 := fun z => g ((z_eq (b := 6) (by omega) (by omega)).mp z)
    obtain ⟨f, hf⟩ : ∃ f, ux_fuel = f + 1 := ⟨ux_fuel - 1, by have := z_fuel; omega⟩
    have e1 : p_154w1_27 ux_fuel (nI (z_xn (z_xL T N) N p)) 0 0 M := by rw [hf, p_154w1_27]; exact ⟨fun _ => .inl rfl, fun z => absurd rfl z⟩
    have e2 : r_154w1_27 ux_fuel (nI (z_xn (z_xL T N) N p)) 0 0 M = 0 := by rw [hf, r_154w1_27, if_pos rfl]
    rw [if_neg e]
    exact ⟨⟨a1, fun _ => e1, fun z => absurd z e⟩, .inr ⟨e2, fun z => g z.1⟩⟩
theorem z_13w2l (h : z_rd4 M T N) (h4 : M 4 671757 0 4 = nI p) (hp : p + 6 ≤ N) : ∀ n f i, i + n = 6 → n < f → p_13w2_28 f (nI i) M ∧ ((r_13w2_28 f (nI i) M = 1 ∧ ∀ j, i ≤ j → j < 6 → T (p + j) = Int32.ofNat ((ux_words.getD 2 []).getD j 0)) ∨ (r_13w2_28 f (nI i) M = 0 ∧ ¬ ∀ j, i ≤ j → j < 6 → T (p + j) = Int32.ofNat ((ux_words.getD 2 []).getD j 0))) := by
  obtain ⟨hN, h1, h2, hT⟩ := h
  intro n
  induction n with
  | zero =>
    intro f i hi hf
    obtain ⟨f, rfl⟩ : ∃ g, f = g + 1 := ⟨f - 1, by omega⟩
    have le : Int32.ofNat 6 ≤ nI i := (z_le (a := 6) (by omega) (by omega)).mpr (by omega)
    rw [p_13w2_28, r_13w2_28, if_pos le]
    exact ⟨⟨fun _ => trivial, fun z => absurd le z⟩, .inl ⟨rfl, fun j z1 z2 => absurd z2 (by omega)⟩⟩
  | succ n ih =>
    intro f i hi hf
    obtain ⟨f, rfl⟩ : ∃ g, f = g + 1 := ⟨f - 1, by omega⟩
    have le : ¬ Int32.ofNat 6 ≤ nI i := fun z => by have := (z_le (a := 6) (by omega) (by omega)).mp z; omega
    have le8 : ¬ Int32.ofNat 800 ≤ nI (p + i) := fun z => by have := (z_le (a := 800) (by omega) (by omega)).mp z; omega
    rw [p_13w2_28, r_13w2_28, if_neg le, h4, z_add, if_neg le8, h1, z_cls (show p + i < 2000000000 by omega), z_cls (show i < 2000000000 by omega), hT (p + i) (by omega), z_nx]
    have v1 : vp_in (nI (p + i)) 800 := vp_in_nI (by omega) (by omega)
    have v2 : vp_in (nI i) 6 := vp_in_nI (by omega) (by omega)
    by_cases q : T (p + i) = Int32.ofNat ((ux_words.getD 2 []).getD i 0)
    · obtain ⟨i1, i2⟩ := ih f (i + 1) (by omega) (by omega)
      have g : (∀ j, i ≤ j → j < 6 → T (p + j) = Int32.ofNat ((ux_words.getD 2 []).getD j 0)) ↔ ∀ j, i + 1 ≤ j → j < 6 → T (p + j) = Int32.ofNat ((ux_words.getD 2 []).getD j 0) :=
        ⟨fun z j z1 z2 => z j (by omega) z2, fun z j z1 z2 => by
          by_cases e : j = i
          · subst e; exact q
          · exact z j (by omega) z2⟩
      rw [if_pos q, g]
      exact ⟨⟨fun z => absurd z le, fun _ => ⟨rfl, fun z => absurd z le8, fun _ => ⟨rfl, v1, v2, fun _ => i1, fun z => absurd q z⟩⟩⟩, i2⟩
    · rw [if_neg q]
      exact ⟨⟨fun z => absurd z le, fun _ => ⟨rfl, fun z => absurd z le8, fun _ => ⟨rfl, v1, v2, fun z => absurd z q, fun _ => trivial⟩⟩⟩, .inr ⟨rfl, fun z => q (z i (Nat.le_refl _) (by omega))⟩⟩
theorem z_13w2 (h : z_rd4 M T N) (hp : p ≤ N) (h3 : M 4 671757 0 3 = z_xp T N p) (h4 : M 4 671757 0 4 = nI p) (h5 : M 4 671757 0 5 = nI (z_xe T N p)) : p_13w2 M ∧ ((r_13w2 M = 1 ∧ z_iwd T N p 2 6) ∨ (r_13w2 M = 0 ∧ ¬ z_iwd T N p 2 6)) := by
  have hN := h.1
  obtain ⟨x1, x2, x3⟩ := z_xpe (T := T) hp
  unfold p_13w2 r_13w2
  rw [h3]
  by_cases q : z_xL T N p = true
  · obtain ⟨y1, y2⟩ := x2 q
    obtain ⟨_, w2, _, _⟩ := z_xn_b (P := z_xL T N) (N := N) (N - p) p (by omega)
    rw [h4, h5, y1, z_sbn (show p ≤ z_xn (z_xL T N) N p by omega), if_pos (x1.mpr q)]
    by_cases g : z_xn (z_xL T N) N p - p = 6
    · obtain ⟨a1, a2⟩ := z_13w2l h h4 (by omega) 6 ux_fuel 0 (by omega) (by have := z_fuel; omega)
      have e : nI (z_xn (z_xL T N) N p - p) = Int32.ofNat 6 := by rw [g]; rfl
      rw [if_pos e]
      refine ⟨⟨fun z => absurd (x1.mpr q) z, fun _ => ⟨fun _ => a1, fun z => absurd e z⟩⟩, ?_⟩
      rcases a2 with ⟨a2, a3⟩ | ⟨a2, a3⟩
      · exact .inl ⟨a2, g, fun j hj => a3 j (by omega) hj⟩
      · exact .inr ⟨a2, fun z => a3 (fun j _ hj => z.2 j hj)⟩
    · have e : ¬ nI (z_xn (z_xL T N) N p - p) = Int32.ofNat 6 := fun z => g ((z_eq (b := 6) (by omega) (by omega)).mp z)
      rw [if_neg e]
      exact ⟨⟨fun z => absurd (x1.mpr q) z, fun _ => ⟨fun z => absurd z e, fun _ => trivial⟩⟩, .inr ⟨rfl, fun z => g z.1⟩⟩
  · have n1 : ¬ z_xp T N p = 1 := fun z => q (x1.mp z)
    rw [if_neg n1]
    exact ⟨⟨fun _ => trivial, fun z => absurd z n1⟩, .inr ⟨rfl, fun z => by have := z.1; rw [x3 q] at this; omega⟩⟩
theorem z_154w2l (h : z_rd5 M T N) (hb : M 5 819253 0 10 = nI p) (hp : p + 6 ≤ N) : ∀ n f i (x3 : Int32), i + n = 6 → n < f → (x3 = 0 ∨ x3 = 1) → p_154w2_27 f (nI (p + 6)) x3 (nI i) M ∧ ((r_154w2_27 f (nI (p + 6)) x3 (nI i) M = 1 ∧ x3 = 1 ∧ ∀ j, i ≤ j → j < 6 → T (p + j) = Int32.ofNat ((ux_words.getD 2 []).getD j 0)) ∨ (r_154w2_27 f (nI (p + 6)) x3 (nI i) M = 0 ∧ ¬ (x3 = 1 ∧ ∀ j, i ≤ j → j < 6 → T (p + j) = Int32.ofNat ((ux_words.getD 2 []).getD j 0)))) := by
  have hN := h.1
  have h10 : ¬ (1 : Int32) = 0 := by decide
  have h01 : ¬ (0 : Int32) = 1 := by decide
  intro n
  induction n with
  | zero =>
    intro f i x3 hi hf hx
    obtain ⟨f, rfl⟩ : ∃ g, f = g + 1 := ⟨f - 1, by omega⟩
    have le : nI (p + 6) ≤ nI (p + i) := (z_le (by omega) (by omega)).mpr (by omega)
    rw [p_154w2_27, r_154w2_27, hb, z_add]
    rcases hx with rfl | rfl
    · rw [if_pos rfl]
      exact ⟨⟨fun _ => .inl rfl, fun z => absurd rfl z⟩, .inr ⟨rfl, fun z => h01 z.1⟩⟩
    · rw [if_neg h10, if_pos le]
      exact ⟨⟨fun z => absurd z h10, fun _ => ⟨fun _ => .inr rfl, fun z => absurd le z⟩⟩, .inl ⟨rfl, rfl, fun j z1 z2 => absurd z2 (by omega)⟩⟩
  | succ n ih =>
    intro f i x3 hi hf hx
    obtain ⟨f, rfl⟩ : ∃ g, f = g + 1 := ⟨f - 1, by omega⟩
    have le : ¬ nI (p + 6) ≤ nI (p + i) := fun z => by have := (z_le (by omega) (by omega)).mp z; omega
    obtain ⟨b1, b2⟩ := z_153 (i := p + i) h (by omega)
    rw [if_neg (show ¬ N ≤ p + i by omega)] at b2
    rw [p_154w2_27, r_154w2_27, hb, z_add, b2, z_cls (show i < 2000000000 by omega), z_nx]
    rcases hx with rfl | rfl
    · rw [if_pos rfl]
      exact ⟨⟨fun _ => .inl rfl, fun z => absurd rfl z⟩, .inr ⟨rfl, fun z => h01 z.1⟩⟩
    · have v2 : vp_in (nI i) 6 := vp_in_nI (by omega) (by omega)
      rw [if_neg h10, if_neg le]
      by_cases q : T (p + i) = Int32.ofNat ((ux_words.getD 2 []).getD i 0)
      · obtain ⟨i1, i2⟩ := ih f (i + 1) 1 (by omega) (by omega) (.inr rfl)
        have g : (∀ j, i ≤ j → j < 6 → T (p + j) = Int32.ofNat ((ux_words.getD 2 []).getD j 0)) ↔ ∀ j, i + 1 ≤ j → j < 6 → T (p + j) = Int32.ofNat ((ux_words.getD 2 []).getD j 0) :=
          ⟨fun z j z1 z2 => z j (by omega) z2, fun z j z1 z2 => by
            by_cases e : j = i
            · subst e; exact q
            · exact z j (by omega) z2⟩
        rw [if_pos q, g]
        exact ⟨⟨fun z => absurd z h10, fun _ => ⟨fun z => absurd z le, fun _ => ⟨b1, v2, fun z => absurd q z, fun _ => i1⟩⟩⟩, i2⟩
      · obtain ⟨i1, i2⟩ := ih f (i + 1) 0 (by omega) (by omega) (.inl rfl)
        rw [if_neg q]
        refine ⟨⟨fun z => absurd z h10, fun _ => ⟨fun z => absurd z le, fun _ => ⟨b1, v2, fun _ => i1, fun z => absurd z q⟩⟩⟩, .inr ⟨?_, fun z => q (z.2 i (Nat.le_refl _) (by omega))⟩⟩
        rcases i2 with ⟨_, z, _⟩ | ⟨i2, _⟩
        · exact absurd z h01
        · exact i2
theorem z_154w2 (h : z_rd5 M T N) (hp : p ≤ N) (hb : M 5 819253 0 10 = nI p) : p_154w2 M ∧ ((r_154w2 M = 1 ∧ z_iwd T N p 2 6) ∨ (r_154w2 M = 0 ∧ ¬ z_iwd T N p 2 6)) := by
  have hN := h.1
  obtain ⟨a1, a2⟩ := z_155 h hp hb
  obtain ⟨w1, w2, _, _⟩ := z_xn_b (P := z_xL T N) (N := N) (N - p) p (by omega)
  unfold p_154w2 r_154w2
  rw [a2, hb, z_sbn w1]
  by_cases g : z_xn (z_xL T N) N p - p = 6
  · obtain ⟨b1, b2⟩ := z_154w2l h hb (by omega) 6 ux_fuel 0 1 (by omega) (by have := z_fuel; omega) (.inr rfl)
    have e : nI (z_xn (z_xL T N) N p - p) = Int32.ofNat 6 := by rw [g]; rfl
    have e2 : z_xn (z_xL T N) N p = p + 6 := by omega
    rw [if_pos e]
    rw [← e2] at b1 b2
    refine ⟨⟨a1, fun z => absurd e z, fun _ => b1⟩, ?_⟩
    rcases b2 with ⟨b2, _, b3⟩ | ⟨b2, b3⟩
    · exact .inl ⟨b2, g, fun j hj => b3 j (by omega) hj⟩
    · exact .inr ⟨b2, fun z => b3 ⟨rfl, fun j _ hj => z.2 j hj⟩⟩
  · have e : ¬ nI (z_xn (z_xL T N) N p - p) = Int32.ofNat 6 := fun z => g ((z_eq (b := 6) (by omega) (by omega)).mp z)
    obtain ⟨f, hf⟩ : ∃ f, ux_fuel = f + 1 := ⟨ux_fuel - 1, by have := z_fuel; omega⟩
    have e1 : p_154w2_27 ux_fuel (nI (z_xn (z_xL T N) N p)) 0 0 M := by rw [hf, p_154w2_27]; exact ⟨fun _ => .inl rfl, fun z => absurd rfl z⟩
    have e2 : r_154w2_27 ux_fuel (nI (z_xn (z_xL T N) N p)) 0 0 M = 0 := by rw [hf, r_154w2_27, if_pos rfl]
    rw [if_neg e]
    exact ⟨⟨a1, fun _ => e1, fun z => absurd z e⟩, .inr ⟨e2, fun z => g z.1⟩⟩
theorem z_13w3l (h : z_rd4 M T N) (h4 : M 4 671757 0 4 = nI p) (hp : p + 7 ≤ N) : ∀ n f i, i + n = 7 → n < f → p_13w3_28 f (nI i) M ∧ ((r_13w3_28 f (nI i) M = 1 ∧ ∀ j, i ≤ j → j < 7 → T (p + j) = Int32.ofNat ((ux_words.getD 3 []).getD j 0)) ∨ (r_13w3_28 f (nI i) M = 0 ∧ ¬ ∀ j, i ≤ j → j < 7 → T (p + j) = Int32.ofNat ((ux_words.getD 3 []).getD j 0))) := by
  obtain ⟨hN, h1, h2, hT⟩ := h
  intro n
  induction n with
  | zero =>
    intro f i hi hf
    obtain ⟨f, rfl⟩ : ∃ g, f = g + 1 := ⟨f - 1, by omega⟩
    have le : Int32.ofNat 7 ≤ nI i := (z_le (a := 7) (by omega) (by omega)).mpr (by omega)
    rw [p_13w3_28, r_13w3_28, if_pos le]
    exact ⟨⟨fun _ => trivial, fun z => absurd le z⟩, .inl ⟨rfl, fun j z1 z2 => absurd z2 (by omega)⟩⟩
  | succ n ih =>
    intro f i hi hf
    obtain ⟨f, rfl⟩ : ∃ g, f = g + 1 := ⟨f - 1, by omega⟩
    have le : ¬ Int32.ofNat 7 ≤ nI i := fun z => by have := (z_le (a := 7) (by omega) (by omega)).mp z; omega
    have le8 : ¬ Int32.ofNat 800 ≤ nI (p + i) := fun z => by have := (z_le (a := 800) (by omega) (by omega)).mp z; omega
    rw [p_13w3_28, r_13w3_28, if_neg le, h4, z_add, if_neg le8, h1, z_cls (show p + i < 2000000000 by omega), z_cls (show i < 2000000000 by omega), hT (p + i) (by omega), z_nx]
    have v1 : vp_in (nI (p + i)) 800 := vp_in_nI (by omega) (by omega)
    have v2 : vp_in (nI i) 7 := vp_in_nI (by omega) (by omega)
    by_cases q : T (p + i) = Int32.ofNat ((ux_words.getD 3 []).getD i 0)
    · obtain ⟨i1, i2⟩ := ih f (i + 1) (by omega) (by omega)
      have g : (∀ j, i ≤ j → j < 7 → T (p + j) = Int32.ofNat ((ux_words.getD 3 []).getD j 0)) ↔ ∀ j, i + 1 ≤ j → j < 7 → T (p + j) = Int32.ofNat ((ux_words.getD 3 []).getD j 0) :=
        ⟨fun z j z1 z2 => z j (by omega) z2, fun z j z1 z2 => by
          by_cases e : j = i
          · subst e; exact q
          · exact z j (by omega) z2⟩
      rw [if_pos q, g]
      exact ⟨⟨fun z => absurd z le, fun _ => ⟨rfl, fun z => absurd z le8, fun _ => ⟨rfl, v1, v2, fun _ => i1, fun z => absurd q z⟩⟩⟩, i2⟩
    · rw [if_neg q]
      exact ⟨⟨fun z => absurd z le, fun _ => ⟨rfl, fun z => absurd z le8, fun _ => ⟨rfl, v1, v2, fun z => absurd z q, fun _ => trivial⟩⟩⟩, .inr ⟨rfl, fun z => q (z i (Nat.le_refl _) (by omega))⟩⟩
theorem z_13w3 (h : z_rd4 M T N) (hp : p ≤ N) (h3 : M 4 671757 0 3 = z_xp T N p) (h4 : M 4 671757 0 4 = nI p) (h5 : M 4 671757 0 5 = nI (z_xe T N p)) : p_13w3 M ∧ ((r_13w3 M = 1 ∧ z_iwd T N p 3 7) ∨ (r_13w3 M = 0 ∧ ¬ z_iwd T N p 3 7)) := by
  have hN := h.1
  obtain ⟨x1, x2, x3⟩ := z_xpe (T := T) hp
  unfold p_13w3 r_13w3
  rw [h3]
  by_cases q : z_xL T N p = true
  · obtain ⟨y1, y2⟩ := x2 q
    obtain ⟨_, w2, _, _⟩ := z_xn_b (P := z_xL T N) (N := N) (N - p) p (by omega)
    rw [h4, h5, y1, z_sbn (show p ≤ z_xn (z_xL T N) N p by omega), if_pos (x1.mpr q)]
    by_cases g : z_xn (z_xL T N) N p - p = 7
    · obtain ⟨a1, a2⟩ := z_13w3l h h4 (by omega) 7 ux_fuel 0 (by omega) (by have := z_fuel; omega)
      have e : nI (z_xn (z_xL T N) N p - p) = Int32.ofNat 7 := by rw [g]; rfl
      rw [if_pos e]
      refine ⟨⟨fun z => absurd (x1.mpr q) z, fun _ => ⟨fun _ => a1, fun z => absurd e z⟩⟩, ?_⟩
      rcases a2 with ⟨a2, a3⟩ | ⟨a2, a3⟩
      · exact .inl ⟨a2, g, fun j hj => a3 j (by omega) hj⟩
      · exact .inr ⟨a2, fun z => a3 (fun j _ hj => z.2 j hj)⟩
    · have e : ¬ nI (z_xn (z_xL T N) N p - p) = Int32.ofNat 7 := fun z => g ((z_eq (b := 7) (by omega) (by omega)).mp z)
      rw [if_neg e]
      exact ⟨⟨fun z => absurd (x1.mpr q) z, fun _ => ⟨fun z => absurd z e, fun _ => trivial⟩⟩, .inr ⟨rfl, fun z => g z.1⟩⟩
  · have n1 : ¬ z_xp T N p = 1 := fun z => q (x1.mp z)
    rw [if_neg n1]
    exact ⟨⟨fun _ => trivial, fun z => absurd z n1⟩, .inr ⟨rfl, fun z => by have := z.1; rw [x3 q] at this; omega⟩⟩
theorem z_154w3l (h : z_rd5 M T N) (hb : M 5 819253 0 10 = nI p) (hp : p + 7 ≤ N) : ∀ n f i (x3 : Int32), i + n = 7 → n < f → (x3 = 0 ∨ x3 = 1) → p_154w3_27 f (nI (p + 7)) x3 (nI i) M ∧ ((r_154w3_27 f (nI (p + 7)) x3 (nI i) M = 1 ∧ x3 = 1 ∧ ∀ j, i ≤ j → j < 7 → T (p + j) = Int32.ofNat ((ux_words.getD 3 []).getD j 0)) ∨ (r_154w3_27 f (nI (p + 7)) x3 (nI i) M = 0 ∧ ¬ (x3 = 1 ∧ ∀ j, i ≤ j → j < 7 → T (p + j) = Int32.ofNat ((ux_words.getD 3 []).getD j 0)))) := by
  have hN := h.1
  have h10 : ¬ (1 : Int32) = 0 := by decide
  have h01 : ¬ (0 : Int32) = 1 := by decide
  intro n
  induction n with
  | zero =>
    intro f i x3 hi hf hx
    obtain ⟨f, rfl⟩ : ∃ g, f = g + 1 := ⟨f - 1, by omega⟩
    have le : nI (p + 7) ≤ nI (p + i) := (z_le (by omega) (by omega)).mpr (by omega)
    rw [p_154w3_27, r_154w3_27, hb, z_add]
    rcases hx with rfl | rfl
    · rw [if_pos rfl]
      exact ⟨⟨fun _ => .inl rfl, fun z => absurd rfl z⟩, .inr ⟨rfl, fun z => h01 z.1⟩⟩
    · rw [if_neg h10, if_pos le]
      exact ⟨⟨fun z => absurd z h10, fun _ => ⟨fun _ => .inr rfl, fun z => absurd le z⟩⟩, .inl ⟨rfl, rfl, fun j z1 z2 => absurd z2 (by omega)⟩⟩
  | succ n ih =>
    intro f i x3 hi hf hx
    obtain ⟨f, rfl⟩ : ∃ g, f = g + 1 := ⟨f - 1, by omega⟩
    have le : ¬ nI (p + 7) ≤ nI (p + i) := fun z => by have := (z_le (by omega) (by omega)).mp z; omega
    obtain ⟨b1, b2⟩ := z_153 (i := p + i) h (by omega)
    rw [if_neg (show ¬ N ≤ p + i by omega)] at b2
    rw [p_154w3_27, r_154w3_27, hb, z_add, b2, z_cls (show i < 2000000000 by omega), z_nx]
    rcases hx with rfl | rfl
    · rw [if_pos rfl]
      exact ⟨⟨fun _ => .inl rfl, fun z => absurd rfl z⟩, .inr ⟨rfl, fun z => h01 z.1⟩⟩
    · have v2 : vp_in (nI i) 7 := vp_in_nI (by omega) (by omega)
      rw [if_neg h10, if_neg le]
      by_cases q : T (p + i) = Int32.ofNat ((ux_words.getD 3 []).getD i 0)
      · obtain ⟨i1, i2⟩ := ih f (i + 1) 1 (by omega) (by omega) (.inr rfl)
        have g : (∀ j, i ≤ j → j < 7 → T (p + j) = Int32.ofNat ((ux_words.getD 3 []).getD j 0)) ↔ ∀ j, i + 1 ≤ j → j < 7 → T (p + j) = Int32.ofNat ((ux_words.getD 3 []).getD j 0) :=
          ⟨fun z j z1 z2 => z j (by omega) z2, fun z j z1 z2 => by
            by_cases e : j = i
            · subst e; exact q
            · exact z j (by omega) z2⟩
        rw [if_pos q, g]
        exact ⟨⟨fun z => absurd z h10, fun _ => ⟨fun z => absurd z le, fun _ => ⟨b1, v2, fun z => absurd q z, fun _ => i1⟩⟩⟩, i2⟩
      · obtain ⟨i1, i2⟩ := ih f (i + 1) 0 (by omega) (by omega) (.inl rfl)
        rw [if_neg q]
        refine ⟨⟨fun z => absurd z h10, fun _ => ⟨fun z => absurd z le, fun _ => ⟨b1, v2, fun _ => i1, fun z => absurd z q⟩⟩⟩, .inr ⟨?_, fun z => q (z.2 i (Nat.le_refl _) (by omega))⟩⟩
        rcases i2 with ⟨_, z, _⟩ | ⟨i2, _⟩
        · exact absurd z h01
        · exact i2
theorem z_154w3 (h : z_rd5 M T N) (hp : p ≤ N) (hb : M 5 819253 0 10 = nI p) : p_154w3 M ∧ ((r_154w3 M = 1 ∧ z_iwd T N p 3 7) ∨ (r_154w3 M = 0 ∧ ¬ z_iwd T N p 3 7)) := by
  have hN := h.1
  obtain ⟨a1, a2⟩ := z_155 h hp hb
  obtain ⟨w1, w2, _, _⟩ := z_xn_b (P := z_xL T N) (N := N) (N - p) p (by omega)
  unfold p_154w3 r_154w3
  rw [a2, hb, z_sbn w1]
  by_cases g : z_xn (z_xL T N) N p - p = 7
  · obtain ⟨b1, b2⟩ := z_154w3l h hb (by omega) 7 ux_fuel 0 1 (by omega) (by have := z_fuel; omega) (.inr rfl)
    have e : nI (z_xn (z_xL T N) N p - p) = Int32.ofNat 7 := by rw [g]; rfl
    have e2 : z_xn (z_xL T N) N p = p + 7 := by omega
    rw [if_pos e]
    rw [← e2] at b1 b2
    refine ⟨⟨a1, fun z => absurd e z, fun _ => b1⟩, ?_⟩
    rcases b2 with ⟨b2, _, b3⟩ | ⟨b2, b3⟩
    · exact .inl ⟨b2, g, fun j hj => b3 j (by omega) hj⟩
    · exact .inr ⟨b2, fun z => b3 ⟨rfl, fun j _ hj => z.2 j hj⟩⟩
  · have e : ¬ nI (z_xn (z_xL T N) N p - p) = Int32.ofNat 7 := fun z => g ((z_eq (b := 7) (by omega) (by omega)).mp z)
    obtain ⟨f, hf⟩ : ∃ f, ux_fuel = f + 1 := ⟨ux_fuel - 1, by have := z_fuel; omega⟩
    have e1 : p_154w3_27 ux_fuel (nI (z_xn (z_xL T N) N p)) 0 0 M := by rw [hf, p_154w3_27]; exact ⟨fun _ => .inl rfl, fun z => absurd rfl z⟩
    have e2 : r_154w3_27 ux_fuel (nI (z_xn (z_xL T N) N p)) 0 0 M = 0 := by rw [hf, r_154w3_27, if_pos rfl]
    rw [if_neg e]
    exact ⟨⟨a1, fun _ => e1, fun z => absurd z e⟩, .inr ⟨e2, fun z => g z.1⟩⟩
theorem z_13w4l (h : z_rd4 M T N) (h4 : M 4 671757 0 4 = nI p) (hp : p + 8 ≤ N) : ∀ n f i, i + n = 8 → n < f → p_13w4_28 f (nI i) M ∧ ((r_13w4_28 f (nI i) M = 1 ∧ ∀ j, i ≤ j → j < 8 → T (p + j) = Int32.ofNat ((ux_words.getD 4 []).getD j 0)) ∨ (r_13w4_28 f (nI i) M = 0 ∧ ¬ ∀ j, i ≤ j → j < 8 → T (p + j) = Int32.ofNat ((ux_words.getD 4 []).getD j 0))) := by
  obtain ⟨hN, h1, h2, hT⟩ := h
  intro n
  induction n with
  | zero =>
    intro f i hi hf
    obtain ⟨f, rfl⟩ : ∃ g, f = g + 1 := ⟨f - 1, by omega⟩
    have le : Int32.ofNat 8 ≤ nI i := (z_le (a := 8) (by omega) (by omega)).mpr (by omega)
    rw [p_13w4_28, r_13w4_28, if_pos le]
    exact ⟨⟨fun _ => trivial, fun z => absurd le z⟩, .inl ⟨rfl, fun j z1 z2 => absurd z2 (by omega)⟩⟩
  | succ n ih =>
    intro f i hi hf
    obtain ⟨f, rfl⟩ : ∃ g, f = g + 1 := ⟨f - 1, by omega⟩
    have le : ¬ Int32.ofNat 8 ≤ nI i := fun z => by have := (z_le (a := 8) (by omega) (by omega)).mp z; omega
    have le8 : ¬ Int32.ofNat 800 ≤ nI (p + i) := fun z => by have := (z_le (a := 800) (by omega) (by omega)).mp z; omega
    rw [p_13w4_28, r_13w4_28, if_neg le, h4, z_add, if_neg le8, h1, z_cls (show p + i < 2000000000 by omega), z_cls (show i < 2000000000 by omega), hT (p + i) (by omega), z_nx]
    have v1 : vp_in (nI (p + i)) 800 := vp_in_nI (by omega) (by omega)
    have v2 : vp_in (nI i) 8 := vp_in_nI (by omega) (by omega)
    by_cases q : T (p + i) = Int32.ofNat ((ux_words.getD 4 []).getD i 0)
    · obtain ⟨i1, i2⟩ := ih f (i + 1) (by omega) (by omega)
      have g : (∀ j, i ≤ j → j < 8 → T (p + j) = Int32.ofNat ((ux_words.getD 4 []).getD j 0)) ↔ ∀ j, i + 1 ≤ j → j < 8 → T (p + j) = Int32.ofNat ((ux_words.getD 4 []).getD j 0) :=
        ⟨fun z j z1 z2 => z j (by omega) z2, fun z j z1 z2 => by
          by_cases e : j = i
          · subst e; exact q
          · exact z j (by omega) z2⟩
      rw [if_pos q, g]
      exact ⟨⟨fun z => absurd z le, fun _ => ⟨rfl, fun z => absurd z le8, fun _ => ⟨rfl, v1, v2, fun _ => i1, fun z => absurd q z⟩⟩⟩, i2⟩
    · rw [if_neg q]
      exact ⟨⟨fun z => absurd z le, fun _ => ⟨rfl, fun z => absurd z le8, fun _ => ⟨rfl, v1, v2, fun z => absurd z q, fun _ => trivial⟩⟩⟩, .inr ⟨rfl, fun z => q (z i (Nat.le_refl _) (by omega))⟩⟩
theorem z_13w4 (h : z_rd4 M T N) (hp : p ≤ N) (h3 : M 4 671757 0 3 = z_xp T N p) (h4 : M 4 671757 0 4 = nI p) (h5 : M 4 671757 0 5 = nI (z_xe T N p)) : p_13w4 M ∧ ((r_13w4 M = 1 ∧ z_iwd T N p 4 8) ∨ (r_13w4 M = 0 ∧ ¬ z_iwd T N p 4 8)) := by
  have hN := h.1
  obtain ⟨x1, x2, x3⟩ := z_xpe (T := T) hp
  unfold p_13w4 r_13w4
  rw [h3]
  by_cases q : z_xL T N p = true
  · obtain ⟨y1, y2⟩ := x2 q
    obtain ⟨_, w2, _, _⟩ := z_xn_b (P := z_xL T N) (N := N) (N - p) p (by omega)
    rw [h4, h5, y1, z_sbn (show p ≤ z_xn (z_xL T N) N p by omega), if_pos (x1.mpr q)]
    by_cases g : z_xn (z_xL T N) N p - p = 8
    · obtain ⟨a1, a2⟩ := z_13w4l h h4 (by omega) 8 ux_fuel 0 (by omega) (by have := z_fuel; omega)
      have e : nI (z_xn (z_xL T N) N p - p) = Int32.ofNat 8 := by rw [g]; rfl
      rw [if_pos e]
      refine ⟨⟨fun z => absurd (x1.mpr q) z, fun _ => ⟨fun _ => a1, fun z => absurd e z⟩⟩, ?_⟩
      rcases a2 with ⟨a2, a3⟩ | ⟨a2, a3⟩
      · exact .inl ⟨a2, g, fun j hj => a3 j (by omega) hj⟩
      · exact .inr ⟨a2, fun z => a3 (fun j _ hj => z.2 j hj)⟩
    · have e : ¬ nI (z_xn (z_xL T N) N p - p) = Int32.ofNat 8 := fun z => g ((z_eq (b := 8) (by omega) (by omega)).mp z)
      rw [if_neg e]
      exact ⟨⟨fun z => absurd (x1.mpr q) z, fun _ => ⟨fun z => absurd z e, fun _ => trivial⟩⟩, .inr ⟨rfl, fun z => g z.1⟩⟩
  · have n1 : ¬ z_xp T N p = 1 := fun z => q (x1.mp z)
    rw [if_neg n1]
    exact ⟨⟨fun _ => trivial, fun z => absurd z n1⟩, .inr ⟨rfl, fun z => by have := z.1; rw [x3 q] at this; omega⟩⟩
theorem z_154w4l (h : z_rd5 M T N) (hb : M 5 819253 0 10 = nI p) (hp : p + 8 ≤ N) : ∀ n f i (x3 : Int32), i + n = 8 → n < f → (x3 = 0 ∨ x3 = 1) → p_154w4_27 f (nI (p + 8)) x3 (nI i) M ∧ ((r_154w4_27 f (nI (p + 8)) x3 (nI i) M = 1 ∧ x3 = 1 ∧ ∀ j, i ≤ j → j < 8 → T (p + j) = Int32.ofNat ((ux_words.getD 4 []).getD j 0)) ∨ (r_154w4_27 f (nI (p + 8)) x3 (nI i) M = 0 ∧ ¬ (x3 = 1 ∧ ∀ j, i ≤ j → j < 8 → T (p + j) = Int32.ofNat ((ux_words.getD 4 []).getD j 0)))) := by
  have hN := h.1
  have h10 : ¬ (1 : Int32) = 0 := by decide
  have h01 : ¬ (0 : Int32) = 1 := by decide
  intro n
  induction n with
  | zero =>
    intro f i x3 hi hf hx
    obtain ⟨f, rfl⟩ : ∃ g, f = g + 1 := ⟨f - 1, by omega⟩
    have le : nI (p + 8) ≤ nI (p + i) := (z_le (by omega) (by omega)).mpr (by omega)
    rw [p_154w4_27, r_154w4_27, hb, z_add]
    rcases hx with rfl | rfl
    · rw [if_pos rfl]
      exact ⟨⟨fun _ => .inl rfl, fun z => absurd rfl z⟩, .inr ⟨rfl, fun z => h01 z.1⟩⟩
    · rw [if_neg h10, if_pos le]
      exact ⟨⟨fun z => absurd z h10, fun _ => ⟨fun _ => .inr rfl, fun z => absurd le z⟩⟩, .inl ⟨rfl, rfl, fun j z1 z2 => absurd z2 (by omega)⟩⟩
  | succ n ih =>
    intro f i x3 hi hf hx
    obtain ⟨f, rfl⟩ : ∃ g, f = g + 1 := ⟨f - 1, by omega⟩
    have le : ¬ nI (p + 8) ≤ nI (p + i) := fun z => by have := (z_le (by omega) (by omega)).mp z; omega
    obtain ⟨b1, b2⟩ := z_153 (i := p + i) h (by omega)
    rw [if_neg (show ¬ N ≤ p + i by omega)] at b2
    rw [p_154w4_27, r_154w4_27, hb, z_add, b2, z_cls (show i < 2000000000 by omega), z_nx]
    rcases hx with rfl | rfl
    · rw [if_pos rfl]
      exact ⟨⟨fun _ => .inl rfl, fun z => absurd rfl z⟩, .inr ⟨rfl, fun z => h01 z.1⟩⟩
    · have v2 : vp_in (nI i) 8 := vp_in_nI (by omega) (by omega)
      rw [if_neg h10, if_neg le]
      by_cases q : T (p + i) = Int32.ofNat ((ux_words.getD 4 []).getD i 0)
      · obtain ⟨i1, i2⟩ := ih f (i + 1) 1 (by omega) (by omega) (.inr rfl)
        have g : (∀ j, i ≤ j → j < 8 → T (p + j) = Int32.ofNat ((ux_words.getD 4 []).getD j 0)) ↔ ∀ j, i + 1 ≤ j → j < 8 → T (p + j) = Int32.ofNat ((ux_words.getD 4 []).getD j 0) :=
          ⟨fun z j z1 z2 => z j (by omega) z2, fun z j z1 z2 => by
            by_cases e : j = i
            · subst e; exact q
            · exact z j (by omega) z2⟩
        rw [if_pos q, g]
        exact ⟨⟨fun z => absurd z h10, fun _ => ⟨fun z => absurd z le, fun _ => ⟨b1, v2, fun z => absurd q z, fun _ => i1⟩⟩⟩, i2⟩
      · obtain ⟨i1, i2⟩ := ih f (i + 1) 0 (by omega) (by omega) (.inl rfl)
        rw [if_neg q]
        refine ⟨⟨fun z => absurd z h10, fun _ => ⟨fun z => absurd z le, fun _ => ⟨b1, v2, fun _ => i1, fun z => absurd z q⟩⟩⟩, .inr ⟨?_, fun z => q (z.2 i (Nat.le_refl _) (by omega))⟩⟩
        rcases i2 with ⟨_, z, _⟩ | ⟨i2, _⟩
        · exact absurd z h01
        · exact i2
theorem z_154w4 (h : z_rd5 M T N) (hp : p ≤ N) (hb : M 5 819253 0 10 = nI p) : p_154w4 M ∧ ((r_154w4 M = 1 ∧ z_iwd T N p 4 8) ∨ (r_154w4 M = 0 ∧ ¬ z_iwd T N p 4 8)) := by
  have hN := h.1
  obtain ⟨a1, a2⟩ := z_155 h hp hb
  obtain ⟨w1, w2, _, _⟩ := z_xn_b (P := z_xL T N) (N := N) (N - p) p (by omega)
  unfold p_154w4 r_154w4
  rw [a2, hb, z_sbn w1]
  by_cases g : z_xn (z_xL T N) N p - p = 8
  · obtain ⟨b1, b2⟩ := z_154w4l h hb (by omega) 8 ux_fuel 0 1 (by omega) (by have := z_fuel; omega) (.inr rfl)
    have e : nI (z_xn (z_xL T N) N p - p) = Int32.ofNat 8 := by rw [g]; rfl
    have e2 : z_xn (z_xL T N) N p = p + 8 := by omega
    rw [if_pos e]
    rw [← e2] at b1 b2
    refine ⟨⟨a1, fun z => absurd e z, fun _ => b1⟩, ?_⟩
    rcases b2 with ⟨b2, _, b3⟩ | ⟨b2, b3⟩
    · exact .inl ⟨b2, g, fun j hj => b3 j (by omega) hj⟩
    · exact .inr ⟨b2, fun z => b3 ⟨rfl, fun j _ hj => z.2 j hj⟩⟩
  · have e : ¬ nI (z_xn (z_xL T N) N p - p) = Int32.ofNat 8 := fun z => g ((z_eq (b := 8) (by omega) (by omega)).mp z)
    obtain ⟨f, hf⟩ : ∃ f, ux_fuel = f + 1 := ⟨ux_fuel - 1, by have := z_fuel; omega⟩
    have e1 : p_154w4_27 ux_fuel (nI (z_xn (z_xL T N) N p)) 0 0 M := by rw [hf, p_154w4_27]; exact ⟨fun _ => .inl rfl, fun z => absurd rfl z⟩
    have e2 : r_154w4_27 ux_fuel (nI (z_xn (z_xL T N) N p)) 0 0 M = 0 := by rw [hf, r_154w4_27, if_pos rfl]
    rw [if_neg e]
    exact ⟨⟨a1, fun _ => e1, fun z => absurd z e⟩, .inr ⟨e2, fun z => g z.1⟩⟩
theorem z_13w5l (h : z_rd4 M T N) (h4 : M 4 671757 0 4 = nI p) (hp : p + 3 ≤ N) : ∀ n f i, i + n = 3 → n < f → p_13w5_28 f (nI i) M ∧ ((r_13w5_28 f (nI i) M = 1 ∧ ∀ j, i ≤ j → j < 3 → T (p + j) = Int32.ofNat ((ux_words.getD 5 []).getD j 0)) ∨ (r_13w5_28 f (nI i) M = 0 ∧ ¬ ∀ j, i ≤ j → j < 3 → T (p + j) = Int32.ofNat ((ux_words.getD 5 []).getD j 0))) := by
  obtain ⟨hN, h1, h2, hT⟩ := h
  intro n
  induction n with
  | zero =>
    intro f i hi hf
    obtain ⟨f, rfl⟩ : ∃ g, f = g + 1 := ⟨f - 1, by omega⟩
    have le : Int32.ofNat 3 ≤ nI i := (z_le (a := 3) (by omega) (by omega)).mpr (by omega)
    rw [p_13w5_28, r_13w5_28, if_pos le]
    exact ⟨⟨fun _ => trivial, fun z => absurd le z⟩, .inl ⟨rfl, fun j z1 z2 => absurd z2 (by omega)⟩⟩
  | succ n ih =>
    intro f i hi hf
    obtain ⟨f, rfl⟩ : ∃ g, f = g + 1 := ⟨f - 1, by omega⟩
    have le : ¬ Int32.ofNat 3 ≤ nI i := fun z => by have := (z_le (a := 3) (by omega) (by omega)).mp z; omega
    have le8 : ¬ Int32.ofNat 800 ≤ nI (p + i) := fun z => by have := (z_le (a := 800) (by omega) (by omega)).mp z; omega
    rw [p_13w5_28, r_13w5_28, if_neg le, h4, z_add, if_neg le8, h1, z_cls (show p + i < 2000000000 by omega), z_cls (show i < 2000000000 by omega), hT (p + i) (by omega), z_nx]
    have v1 : vp_in (nI (p + i)) 800 := vp_in_nI (by omega) (by omega)
    have v2 : vp_in (nI i) 3 := vp_in_nI (by omega) (by omega)
    by_cases q : T (p + i) = Int32.ofNat ((ux_words.getD 5 []).getD i 0)
    · obtain ⟨i1, i2⟩ := ih f (i + 1) (by omega) (by omega)
      have g : (∀ j, i ≤ j → j < 3 → T (p + j) = Int32.ofNat ((ux_words.getD 5 []).getD j 0)) ↔ ∀ j, i + 1 ≤ j → j < 3 → T (p + j) = Int32.ofNat ((ux_words.getD 5 []).getD j 0) :=
        ⟨fun z j z1 z2 => z j (by omega) z2, fun z j z1 z2 => by
          by_cases e : j = i
          · subst e; exact q
          · exact z j (by omega) z2⟩
      rw [if_pos q, g]
      exact ⟨⟨fun z => absurd z le, fun _ => ⟨rfl, fun z => absurd z le8, fun _ => ⟨rfl, v1, v2, fun _ => i1, fun z => absurd q z⟩⟩⟩, i2⟩
    · rw [if_neg q]
      exact ⟨⟨fun z => absurd z le, fun _ => ⟨rfl, fun z => absurd z le8, fun _ => ⟨rfl, v1, v2, fun z => absurd z q, fun _ => trivial⟩⟩⟩, .inr ⟨rfl, fun z => q (z i (Nat.le_refl _) (by omega))⟩⟩
theorem z_13w5 (h : z_rd4 M T N) (hp : p ≤ N) (h3 : M 4 671757 0 3 = z_xp T N p) (h4 : M 4 671757 0 4 = nI p) (h5 : M 4 671757 0 5 = nI (z_xe T N p)) : p_13w5 M ∧ ((r_13w5 M = 1 ∧ z_iwd T N p 5 3) ∨ (r_13w5 M = 0 ∧ ¬ z_iwd T N p 5 3)) := by
  have hN := h.1
  obtain ⟨x1, x2, x3⟩ := z_xpe (T := T) hp
  unfold p_13w5 r_13w5
  rw [h3]
  by_cases q : z_xL T N p = true
  · obtain ⟨y1, y2⟩ := x2 q
    obtain ⟨_, w2, _, _⟩ := z_xn_b (P := z_xL T N) (N := N) (N - p) p (by omega)
    rw [h4, h5, y1, z_sbn (show p ≤ z_xn (z_xL T N) N p by omega), if_pos (x1.mpr q)]
    by_cases g : z_xn (z_xL T N) N p - p = 3
    · obtain ⟨a1, a2⟩ := z_13w5l h h4 (by omega) 3 ux_fuel 0 (by omega) (by have := z_fuel; omega)
      have e : nI (z_xn (z_xL T N) N p - p) = Int32.ofNat 3 := by rw [g]; rfl
      rw [if_pos e]
      refine ⟨⟨fun z => absurd (x1.mpr q) z, fun _ => ⟨fun _ => a1, fun z => absurd e z⟩⟩, ?_⟩
      rcases a2 with ⟨a2, a3⟩ | ⟨a2, a3⟩
      · exact .inl ⟨a2, g, fun j hj => a3 j (by omega) hj⟩
      · exact .inr ⟨a2, fun z => a3 (fun j _ hj => z.2 j hj)⟩
    · have e : ¬ nI (z_xn (z_xL T N) N p - p) = Int32.ofNat 3 := fun z => g ((z_eq (b := 3) (by omega) (by omega)).mp z)
      rw [if_neg e]
      exact ⟨⟨fun z => absurd (x1.mpr q) z, fun _ => ⟨fun z => absurd z e, fun _ => trivial⟩⟩, .inr ⟨rfl, fun z => g z.1⟩⟩
  · have n1 : ¬ z_xp T N p = 1 := fun z => q (x1.mp z)
    rw [if_neg n1]
    exact ⟨⟨fun _ => trivial, fun z => absurd z n1⟩, .inr ⟨rfl, fun z => by have := z.1; rw [x3 q] at this; omega⟩⟩
theorem z_154w5l (h : z_rd5 M T N) (hb : M 5 819253 0 10 = nI p) (hp : p + 3 ≤ N) : ∀ n f i (x3 : Int32), i + n = 3 → n < f → (x3 = 0 ∨ x3 = 1) → p_154w5_27 f (nI (p + 3)) x3 (nI i) M ∧ ((r_154w5_27 f (nI (p + 3)) x3 (nI i) M = 1 ∧ x3 = 1 ∧ ∀ j, i ≤ j → j < 3 → T (p + j) = Int32.ofNat ((ux_words.getD 5 []).getD j 0)) ∨ (r_154w5_27 f (nI (p + 3)) x3 (nI i) M = 0 ∧ ¬ (x3 = 1 ∧ ∀ j, i ≤ j → j < 3 → T (p + j) = Int32.ofNat ((ux_words.getD 5 []).getD j 0)))) := by
  have hN := h.1
  have h10 : ¬ (1 : Int32) = 0 := by decide
  have h01 : ¬ (0 : Int32) = 1 := by decide
  intro n
  induction n with
  | zero =>
    intro f i x3 hi hf hx
    obtain ⟨f, rfl⟩ : ∃ g, f = g + 1 := ⟨f - 1, by omega⟩
    have le : nI (p + 3) ≤ nI (p + i) := (z_le (by omega) (by omega)).mpr (by omega)
    rw [p_154w5_27, r_154w5_27, hb, z_add]
    rcases hx with rfl | rfl
    · rw [if_pos rfl]
      exact ⟨⟨fun _ => .inl rfl, fun z => absurd rfl z⟩, .inr ⟨rfl, fun z => h01 z.1⟩⟩
    · rw [if_neg h10, if_pos le]
      exact ⟨⟨fun z => absurd z h10, fun _ => ⟨fun _ => .inr rfl, fun z => absurd le z⟩⟩, .inl ⟨rfl, rfl, fun j z1 z2 => absurd z2 (by omega)⟩⟩
  | succ n ih =>
    intro f i x3 hi hf hx
    obtain ⟨f, rfl⟩ : ∃ g, f = g + 1 := ⟨f - 1, by omega⟩
    have le : ¬ nI (p + 3) ≤ nI (p + i) := fun z => by have := (z_le (by omega) (by omega)).mp z; omega
    obtain ⟨b1, b2⟩ := z_153 (i := p + i) h (by omega)
    rw [if_neg (show ¬ N ≤ p + i by omega)] at b2
    rw [p_154w5_27, r_154w5_27, hb, z_add, b2, z_cls (show i < 2000000000 by omega), z_nx]
    rcases hx with rfl | rfl
    · rw [if_pos rfl]
      exact ⟨⟨fun _ => .inl rfl, fun z => absurd rfl z⟩, .inr ⟨rfl, fun z => h01 z.1⟩⟩
    · have v2 : vp_in (nI i) 3 := vp_in_nI (by omega) (by omega)
      rw [if_neg h10, if_neg le]
      by_cases q : T (p + i) = Int32.ofNat ((ux_words.getD 5 []).getD i 0)
      · obtain ⟨i1, i2⟩ := ih f (i + 1) 1 (by omega) (by omega) (.inr rfl)
        have g : (∀ j, i ≤ j → j < 3 → T (p + j) = Int32.ofNat ((ux_words.getD 5 []).getD j 0)) ↔ ∀ j, i + 1 ≤ j → j < 3 → T (p + j) = Int32.ofNat ((ux_words.getD 5 []).getD j 0) :=
          ⟨fun z j z1 z2 => z j (by omega) z2, fun z j z1 z2 => by
            by_cases e : j = i
            · subst e; exact q
            · exact z j (by omega) z2⟩
        rw [if_pos q, g]
        exact ⟨⟨fun z => absurd z h10, fun _ => ⟨fun z => absurd z le, fun _ => ⟨b1, v2, fun z => absurd q z, fun _ => i1⟩⟩⟩, i2⟩
      · obtain ⟨i1, i2⟩ := ih f (i + 1) 0 (by omega) (by omega) (.inl rfl)
        rw [if_neg q]
        refine ⟨⟨fun z => absurd z h10, fun _ => ⟨fun z => absurd z le, fun _ => ⟨b1, v2, fun _ => i1, fun z => absurd z q⟩⟩⟩, .inr ⟨?_, fun z => q (z.2 i (Nat.le_refl _) (by omega))⟩⟩
        rcases i2 with ⟨_, z, _⟩ | ⟨i2, _⟩
        · exact absurd z h01
        · exact i2
theorem z_154w5 (h : z_rd5 M T N) (hp : p ≤ N) (hb : M 5 819253 0 10 = nI p) : p_154w5 M ∧ ((r_154w5 M = 1 ∧ z_iwd T N p 5 3) ∨ (r_154w5 M = 0 ∧ ¬ z_iwd T N p 5 3)) := by
  have hN := h.1
  obtain ⟨a1, a2⟩ := z_155 h hp hb
  obtain ⟨w1, w2, _, _⟩ := z_xn_b (P := z_xL T N) (N := N) (N - p) p (by omega)
  unfold p_154w5 r_154w5
  rw [a2, hb, z_sbn w1]
  by_cases g : z_xn (z_xL T N) N p - p = 3
  · obtain ⟨b1, b2⟩ := z_154w5l h hb (by omega) 3 ux_fuel 0 1 (by omega) (by have := z_fuel; omega) (.inr rfl)
    have e : nI (z_xn (z_xL T N) N p - p) = Int32.ofNat 3 := by rw [g]; rfl
    have e2 : z_xn (z_xL T N) N p = p + 3 := by omega
    rw [if_pos e]
    rw [← e2] at b1 b2
    refine ⟨⟨a1, fun z => absurd e z, fun _ => b1⟩, ?_⟩
    rcases b2 with ⟨b2, _, b3⟩ | ⟨b2, b3⟩
    · exact .inl ⟨b2, g, fun j hj => b3 j (by omega) hj⟩
    · exact .inr ⟨b2, fun z => b3 ⟨rfl, fun j _ hj => z.2 j hj⟩⟩
  · have e : ¬ nI (z_xn (z_xL T N) N p - p) = Int32.ofNat 3 := fun z => g ((z_eq (b := 3) (by omega) (by omega)).mp z)
    obtain ⟨f, hf⟩ : ∃ f, ux_fuel = f + 1 := ⟨ux_fuel - 1, by have := z_fuel; omega⟩
    have e1 : p_154w5_27 ux_fuel (nI (z_xn (z_xL T N) N p)) 0 0 M := by rw [hf, p_154w5_27]; exact ⟨fun _ => .inl rfl, fun z => absurd rfl z⟩
    have e2 : r_154w5_27 ux_fuel (nI (z_xn (z_xL T N) N p)) 0 0 M = 0 := by rw [hf, r_154w5_27, if_pos rfl]
    rw [if_neg e]
    exact ⟨⟨a1, fun _ => e1, fun z => absurd z e⟩, .inr ⟨e2, fun z => g z.1⟩⟩
theorem z_13w6l (h : z_rd4 M T N) (h4 : M 4 671757 0 4 = nI p) (hp : p + 4 ≤ N) : ∀ n f i, i + n = 4 → n < f → p_13w6_28 f (nI i) M ∧ ((r_13w6_28 f (nI i) M = 1 ∧ ∀ j, i ≤ j → j < 4 → T (p + j) = Int32.ofNat ((ux_words.getD 6 []).getD j 0)) ∨ (r_13w6_28 f (nI i) M = 0 ∧ ¬ ∀ j, i ≤ j → j < 4 → T (p + j) = Int32.ofNat ((ux_words.getD 6 []).getD j 0))) := by
  obtain ⟨hN, h1, h2, hT⟩ := h
  intro n
  induction n with
  | zero =>
    intro f i hi hf
    obtain ⟨f, rfl⟩ : ∃ g, f = g + 1 := ⟨f - 1, by omega⟩
    have le : Int32.ofNat 4 ≤ nI i := (z_le (a := 4) (by omega) (by omega)).mpr (by omega)
    rw [p_13w6_28, r_13w6_28, if_pos le]
    exact ⟨⟨fun _ => trivial, fun z => absurd le z⟩, .inl ⟨rfl, fun j z1 z2 => absurd z2 (by omega)⟩⟩
  | succ n ih =>
    intro f i hi hf
    obtain ⟨f, rfl⟩ : ∃ g, f = g + 1 := ⟨f - 1, by omega⟩
    have le : ¬ Int32.ofNat 4 ≤ nI i := fun z => by have := (z_le (a := 4) (by omega) (by omega)).mp z; omega
    have le8 : ¬ Int32.ofNat 800 ≤ nI (p + i) := fun z => by have := (z_le (a := 800) (by omega) (by omega)).mp z; omega
    rw [p_13w6_28, r_13w6_28, if_neg le, h4, z_add, if_neg le8, h1, z_cls (show p + i < 2000000000 by omega), z_cls (show i < 2000000000 by omega), hT (p + i) (by omega), z_nx]
    have v1 : vp_in (nI (p + i)) 800 := vp_in_nI (by omega) (by omega)
    have v2 : vp_in (nI i) 4 := vp_in_nI (by omega) (by omega)
    by_cases q : T (p + i) = Int32.ofNat ((ux_words.getD 6 []).getD i 0)
    · obtain ⟨i1, i2⟩ := ih f (i + 1) (by omega) (by omega)
      have g : (∀ j, i ≤ j → j < 4 → T (p + j) = Int32.ofNat ((ux_words.getD 6 []).getD j 0)) ↔ ∀ j, i + 1 ≤ j → j < 4 → T (p + j) = Int32.ofNat ((ux_words.getD 6 []).getD j 0) :=
        ⟨fun z j z1 z2 => z j (by omega) z2, fun z j z1 z2 => by
          by_cases e : j = i
          · subst e; exact q
          · exact z j (by omega) z2⟩
      rw [if_pos q, g]
      exact ⟨⟨fun z => absurd z le, fun _ => ⟨rfl, fun z => absurd z le8, fun _ => ⟨rfl, v1, v2, fun _ => i1, fun z => absurd q z⟩⟩⟩, i2⟩
    · rw [if_neg q]
      exact ⟨⟨fun z => absurd z le, fun _ => ⟨rfl, fun z => absurd z le8, fun _ => ⟨rfl, v1, v2, fun z => absurd z q, fun _ => trivial⟩⟩⟩, .inr ⟨rfl, fun z => q (z i (Nat.le_refl _) (by omega))⟩⟩
theorem z_13w6 (h : z_rd4 M T N) (hp : p ≤ N) (h3 : M 4 671757 0 3 = z_xp T N p) (h4 : M 4 671757 0 4 = nI p) (h5 : M 4 671757 0 5 = nI (z_xe T N p)) : p_13w6 M ∧ ((r_13w6 M = 1 ∧ z_iwd T N p 6 4) ∨ (r_13w6 M = 0 ∧ ¬ z_iwd T N p 6 4)) := by
  have hN := h.1
  obtain ⟨x1, x2, x3⟩ := z_xpe (T := T) hp
  unfold p_13w6 r_13w6
  rw [h3]
  by_cases q : z_xL T N p = true
  · obtain ⟨y1, y2⟩ := x2 q
    obtain ⟨_, w2, _, _⟩ := z_xn_b (P := z_xL T N) (N := N) (N - p) p (by omega)
    rw [h4, h5, y1, z_sbn (show p ≤ z_xn (z_xL T N) N p by omega), if_pos (x1.mpr q)]
    by_cases g : z_xn (z_xL T N) N p - p = 4
    · obtain ⟨a1, a2⟩ := z_13w6l h h4 (by omega) 4 ux_fuel 0 (by omega) (by have := z_fuel; omega)
      have e : nI (z_xn (z_xL T N) N p - p) = Int32.ofNat 4 := by rw [g]; rfl
      rw [if_pos e]
      refine ⟨⟨fun z => absurd (x1.mpr q) z, fun _ => ⟨fun _ => a1, fun z => absurd e z⟩⟩, ?_⟩
      rcases a2 with ⟨a2, a3⟩ | ⟨a2, a3⟩
      · exact .inl ⟨a2, g, fun j hj => a3 j (by omega) hj⟩
      · exact .inr ⟨a2, fun z => a3 (fun j _ hj => z.2 j hj)⟩
    · have e : ¬ nI (z_xn (z_xL T N) N p - p) = Int32.ofNat 4 := fun z => g ((z_eq (b := 4) (by omega) (by omega)).mp z)
      rw [if_neg e]
      exact ⟨⟨fun z => absurd (x1.mpr q) z, fun _ => ⟨fun z => absurd z e, fun _ => trivial⟩⟩, .inr ⟨rfl, fun z => g z.1⟩⟩
  · have n1 : ¬ z_xp T N p = 1 := fun z => q (x1.mp z)
    rw [if_neg n1]
    exact ⟨⟨fun _ => trivial, fun z => absurd z n1⟩, .inr ⟨rfl, fun z => by have := z.1; rw [x3 q] at this; omega⟩⟩
theorem z_154w6l (h : z_rd5 M T N) (hb : M 5 819253 0 10 = nI p) (hp : p + 4 ≤ N) : ∀ n f i (x3 : Int32), i + n = 4 → n < f → (x3 = 0 ∨ x3 = 1) → p_154w6_27 f (nI (p + 4)) x3 (nI i) M ∧ ((r_154w6_27 f (nI (p + 4)) x3 (nI i) M = 1 ∧ x3 = 1 ∧ ∀ j, i ≤ j → j < 4 → T (p + j) = Int32.ofNat ((ux_words.getD 6 []).getD j 0)) ∨ (r_154w6_27 f (nI (p + 4)) x3 (nI i) M = 0 ∧ ¬ (x3 = 1 ∧ ∀ j, i ≤ j → j < 4 → T (p + j) = Int32.ofNat ((ux_words.getD 6 []).getD j 0)))) := by
  have hN := h.1
  have h10 : ¬ (1 : Int32) = 0 := by decide
  have h01 : ¬ (0 : Int32) = 1 := by decide
  intro n
  induction n with
  | zero =>
    intro f i x3 hi hf hx
    obtain ⟨f, rfl⟩ : ∃ g, f = g + 1 := ⟨f - 1, by omega⟩
    have le : nI (p + 4) ≤ nI (p + i) := (z_le (by omega) (by omega)).mpr (by omega)
    rw [p_154w6_27, r_154w6_27, hb, z_add]
    rcases hx with rfl | rfl
    · rw [if_pos rfl]
      exact ⟨⟨fun _ => .inl rfl, fun z => absurd rfl z⟩, .inr ⟨rfl, fun z => h01 z.1⟩⟩
    · rw [if_neg h10, if_pos le]
      exact ⟨⟨fun z => absurd z h10, fun _ => ⟨fun _ => .inr rfl, fun z => absurd le z⟩⟩, .inl ⟨rfl, rfl, fun j z1 z2 => absurd z2 (by omega)⟩⟩
  | succ n ih =>
    intro f i x3 hi hf hx
    obtain ⟨f, rfl⟩ : ∃ g, f = g + 1 := ⟨f - 1, by omega⟩
    have le : ¬ nI (p + 4) ≤ nI (p + i) := fun z => by have := (z_le (by omega) (by omega)).mp z; omega
    obtain ⟨b1, b2⟩ := z_153 (i := p + i) h (by omega)
    rw [if_neg (show ¬ N ≤ p + i by omega)] at b2
    rw [p_154w6_27, r_154w6_27, hb, z_add, b2, z_cls (show i < 2000000000 by omega), z_nx]
    rcases hx with rfl | rfl
    · rw [if_pos rfl]
      exact ⟨⟨fun _ => .inl rfl, fun z => absurd rfl z⟩, .inr ⟨rfl, fun z => h01 z.1⟩⟩
    · have v2 : vp_in (nI i) 4 := vp_in_nI (by omega) (by omega)
      rw [if_neg h10, if_neg le]
      by_cases q : T (p + i) = Int32.ofNat ((ux_words.getD 6 []).getD i 0)
      · obtain ⟨i1, i2⟩ := ih f (i + 1) 1 (by omega) (by omega) (.inr rfl)
        have g : (∀ j, i ≤ j → j < 4 → T (p + j) = Int32.ofNat ((ux_words.getD 6 []).getD j 0)) ↔ ∀ j, i + 1 ≤ j → j < 4 → T (p + j) = Int32.ofNat ((ux_words.getD 6 []).getD j 0) :=
          ⟨fun z j z1 z2 => z j (by omega) z2, fun z j z1 z2 => by
            by_cases e : j = i
            · subst e; exact q
            · exact z j (by omega) z2⟩
        rw [if_pos q, g]
        exact ⟨⟨fun z => absurd z h10, fun _ => ⟨fun z => absurd z le, fun _ => ⟨b1, v2, fun z => absurd q z, fun _ => i1⟩⟩⟩, i2⟩
      · obtain ⟨i1, i2⟩ := ih f (i + 1) 0 (by omega) (by omega) (.inl rfl)
        rw [if_neg q]
        refine ⟨⟨fun z => absurd z h10, fun _ => ⟨fun z => absurd z le, fun _ => ⟨b1, v2, fun _ => i1, fun z => absurd z q⟩⟩⟩, .inr ⟨?_, fun z => q (z.2 i (Nat.le_refl _) (by omega))⟩⟩
        rcases i2 with ⟨_, z, _⟩ | ⟨i2, _⟩
        · exact absurd z h01
        · exact i2
theorem z_154w6 (h : z_rd5 M T N) (hp : p ≤ N) (hb : M 5 819253 0 10 = nI p) : p_154w6 M ∧ ((r_154w6 M = 1 ∧ z_iwd T N p 6 4) ∨ (r_154w6 M = 0 ∧ ¬ z_iwd T N p 6 4)) := by
  have hN := h.1
  obtain ⟨a1, a2⟩ := z_155 h hp hb
  obtain ⟨w1, w2, _, _⟩ := z_xn_b (P := z_xL T N) (N := N) (N - p) p (by omega)
  unfold p_154w6 r_154w6
  rw [a2, hb, z_sbn w1]
  by_cases g : z_xn (z_xL T N) N p - p = 4
  · obtain ⟨b1, b2⟩ := z_154w6l h hb (by omega) 4 ux_fuel 0 1 (by omega) (by have := z_fuel; omega) (.inr rfl)
    have e : nI (z_xn (z_xL T N) N p - p) = Int32.ofNat 4 := by rw [g]; rfl
    have e2 : z_xn (z_xL T N) N p = p + 4 := by omega
    rw [if_pos e]
    rw [← e2] at b1 b2
    refine ⟨⟨a1, fun z => absurd e z, fun _ => b1⟩, ?_⟩
    rcases b2 with ⟨b2, _, b3⟩ | ⟨b2, b3⟩
    · exact .inl ⟨b2, g, fun j hj => b3 j (by omega) hj⟩
    · exact .inr ⟨b2, fun z => b3 ⟨rfl, fun j _ hj => z.2 j hj⟩⟩
  · have e : ¬ nI (z_xn (z_xL T N) N p - p) = Int32.ofNat 4 := fun z => g ((z_eq (b := 4) (by omega) (by omega)).mp z)
    obtain ⟨f, hf⟩ : ∃ f, ux_fuel = f + 1 := ⟨ux_fuel - 1, by have := z_fuel; omega⟩
    have e1 : p_154w6_27 ux_fuel (nI (z_xn (z_xL T N) N p)) 0 0 M := by rw [hf, p_154w6_27]; exact ⟨fun _ => .inl rfl, fun z => absurd rfl z⟩
    have e2 : r_154w6_27 ux_fuel (nI (z_xn (z_xL T N) N p)) 0 0 M = 0 := by rw [hf, r_154w6_27, if_pos rfl]
    rw [if_neg e]
    exact ⟨⟨a1, fun _ => e1, fun z => absurd z e⟩, .inr ⟨e2, fun z => g z.1⟩⟩
theorem z_13w7l (h : z_rd4 M T N) (h4 : M 4 671757 0 4 = nI p) (hp : p + 5 ≤ N) : ∀ n f i, i + n = 5 → n < f → p_13w7_28 f (nI i) M ∧ ((r_13w7_28 f (nI i) M = 1 ∧ ∀ j, i ≤ j → j < 5 → T (p + j) = Int32.ofNat ((ux_words.getD 7 []).getD j 0)) ∨ (r_13w7_28 f (nI i) M = 0 ∧ ¬ ∀ j, i ≤ j → j < 5 → T (p + j) = Int32.ofNat ((ux_words.getD 7 []).getD j 0))) := by
  obtain ⟨hN, h1, h2, hT⟩ := h
  intro n
  induction n with
  | zero =>
    intro f i hi hf
    obtain ⟨f, rfl⟩ : ∃ g, f = g + 1 := ⟨f - 1, by omega⟩
    have le : Int32.ofNat 5 ≤ nI i := (z_le (a := 5) (by omega) (by omega)).mpr (by omega)
    rw [p_13w7_28, r_13w7_28, if_pos le]
    exact ⟨⟨fun _ => trivial, fun z => absurd le z⟩, .inl ⟨rfl, fun j z1 z2 => absurd z2 (by omega)⟩⟩
  | succ n ih =>
    intro f i hi hf
    obtain ⟨f, rfl⟩ : ∃ g, f = g + 1 := ⟨f - 1, by omega⟩
    have le : ¬ Int32.ofNat 5 ≤ nI i := fun z => by have := (z_le (a := 5) (by omega) (by omega)).mp z; omega
    have le8 : ¬ Int32.ofNat 800 ≤ nI (p + i) := fun z => by have := (z_le (a := 800) (by omega) (by omega)).mp z; omega
    rw [p_13w7_28, r_13w7_28, if_neg le, h4, z_add, if_neg le8, h1, z_cls (show p + i < 2000000000 by omega), z_cls (show i < 2000000000 by omega), hT (p + i) (by omega), z_nx]
    have v1 : vp_in (nI (p + i)) 800 := vp_in_nI (by omega) (by omega)
    have v2 : vp_in (nI i) 5 := vp_in_nI (by omega) (by omega)
    by_cases q : T (p + i) = Int32.ofNat ((ux_words.getD 7 []).getD i 0)
    · obtain ⟨i1, i2⟩ := ih f (i + 1) (by omega) (by omega)
      have g : (∀ j, i ≤ j → j < 5 → T (p + j) = Int32.ofNat ((ux_words.getD 7 []).getD j 0)) ↔ ∀ j, i + 1 ≤ j → j < 5 → T (p + j) = Int32.ofNat ((ux_words.getD 7 []).getD j 0) :=
        ⟨fun z j z1 z2 => z j (by omega) z2, fun z j z1 z2 => by
          by_cases e : j = i
          · subst e; exact q
          · exact z j (by omega) z2⟩
      rw [if_pos q, g]
      exact ⟨⟨fun z => absurd z le, fun _ => ⟨rfl, fun z => absurd z le8, fun _ => ⟨rfl, v1, v2, fun _ => i1, fun z => absurd q z⟩⟩⟩, i2⟩
    · rw [if_neg q]
      exact ⟨⟨fun z => absurd z le, fun _ => ⟨rfl, fun z => absurd z le8, fun _ => ⟨rfl, v1, v2, fun z => absurd z q, fun _ => trivial⟩⟩⟩, .inr ⟨rfl, fun z => q (z i (Nat.le_refl _) (by omega))⟩⟩
theorem z_13w7 (h : z_rd4 M T N) (hp : p ≤ N) (h3 : M 4 671757 0 3 = z_xp T N p) (h4 : M 4 671757 0 4 = nI p) (h5 : M 4 671757 0 5 = nI (z_xe T N p)) : p_13w7 M ∧ ((r_13w7 M = 1 ∧ z_iwd T N p 7 5) ∨ (r_13w7 M = 0 ∧ ¬ z_iwd T N p 7 5)) := by
  have hN := h.1
  obtain ⟨x1, x2, x3⟩ := z_xpe (T := T) hp
  unfold p_13w7 r_13w7
  rw [h3]
  by_cases q : z_xL T N p = true
  · obtain ⟨y1, y2⟩ := x2 q
    obtain ⟨_, w2, _, _⟩ := z_xn_b (P := z_xL T N) (N := N) (N - p) p (by omega)
    rw [h4, h5, y1, z_sbn (show p ≤ z_xn (z_xL T N) N p by omega), if_pos (x1.mpr q)]
    by_cases g : z_xn (z_xL T N) N p - p = 5
    · obtain ⟨a1, a2⟩ := z_13w7l h h4 (by omega) 5 ux_fuel 0 (by omega) (by have := z_fuel; omega)
      have e : nI (z_xn (z_xL T N) N p - p) = Int32.ofNat 5 := by rw [g]; rfl
      rw [if_pos e]
      refine ⟨⟨fun z => absurd (x1.mpr q) z, fun _ => ⟨fun _ => a1, fun z => absurd e z⟩⟩, ?_⟩
      rcases a2 with ⟨a2, a3⟩ | ⟨a2, a3⟩
      · exact .inl ⟨a2, g, fun j hj => a3 j (by omega) hj⟩
      · exact .inr ⟨a2, fun z => a3 (fun j _ hj => z.2 j hj)⟩
    · have e : ¬ nI (z_xn (z_xL T N) N p - p) = Int32.ofNat 5 := fun z => g ((z_eq (b := 5) (by omega) (by omega)).mp z)
      rw [if_neg e]
      exact ⟨⟨fun z => absurd (x1.mpr q) z, fun _ => ⟨fun z => absurd z e, fun _ => trivial⟩⟩, .inr ⟨rfl, fun z => g z.1⟩⟩
  · have n1 : ¬ z_xp T N p = 1 := fun z => q (x1.mp z)
    rw [if_neg n1]
    exact ⟨⟨fun _ => trivial, fun z => absurd z n1⟩, .inr ⟨rfl, fun z => by have := z.1; rw [x3 q] at this; omega⟩⟩
theorem z_154w7l (h : z_rd5 M T N) (hb : M 5 819253 0 10 = nI p) (hp : p + 5 ≤ N) : ∀ n f i (x3 : Int32), i + n = 5 → n < f → (x3 = 0 ∨ x3 = 1) → p_154w7_27 f (nI (p + 5)) x3 (nI i) M ∧ ((r_154w7_27 f (nI (p + 5)) x3 (nI i) M = 1 ∧ x3 = 1 ∧ ∀ j, i ≤ j → j < 5 → T (p + j) = Int32.ofNat ((ux_words.getD 7 []).getD j 0)) ∨ (r_154w7_27 f (nI (p + 5)) x3 (nI i) M = 0 ∧ ¬ (x3 = 1 ∧ ∀ j, i ≤ j → j < 5 → T (p + j) = Int32.ofNat ((ux_words.getD 7 []).getD j 0)))) := by
  have hN := h.1
  have h10 : ¬ (1 : Int32) = 0 := by decide
  have h01 : ¬ (0 : Int32) = 1 := by decide
  intro n
  induction n with
  | zero =>
    intro f i x3 hi hf hx
    obtain ⟨f, rfl⟩ : ∃ g, f = g + 1 := ⟨f - 1, by omega⟩
    have le : nI (p + 5) ≤ nI (p + i) := (z_le (by omega) (by omega)).mpr (by omega)
    rw [p_154w7_27, r_154w7_27, hb, z_add]
    rcases hx with rfl | rfl
    · rw [if_pos rfl]
      exact ⟨⟨fun _ => .inl rfl, fun z => absurd rfl z⟩, .inr ⟨rfl, fun z => h01 z.1⟩⟩
    · rw [if_neg h10, if_pos le]
      exact ⟨⟨fun z => absurd z h10, fun _ => ⟨fun _ => .inr rfl, fun z => absurd le z⟩⟩, .inl ⟨rfl, rfl, fun j z1 z2 => absurd z2 (by omega)⟩⟩
  | succ n ih =>
    intro f i x3 hi hf hx
    obtain ⟨f, rfl⟩ : ∃ g, f = g + 1 := ⟨f - 1, by omega⟩
    have le : ¬ nI (p + 5) ≤ nI (p + i) := fun z => by have := (z_le (by omega) (by omega)).mp z; omega
    obtain ⟨b1, b2⟩ := z_153 (i := p + i) h (by omega)
    rw [if_neg (show ¬ N ≤ p + i by omega)] at b2
    rw [p_154w7_27, r_154w7_27, hb, z_add, b2, z_cls (show i < 2000000000 by omega), z_nx]
    rcases hx with rfl | rfl
    · rw [if_pos rfl]
      exact ⟨⟨fun _ => .inl rfl, fun z => absurd rfl z⟩, .inr ⟨rfl, fun z => h01 z.1⟩⟩
    · have v2 : vp_in (nI i) 5 := vp_in_nI (by omega) (by omega)
      rw [if_neg h10, if_neg le]
      by_cases q : T (p + i) = Int32.ofNat ((ux_words.getD 7 []).getD i 0)
      · obtain ⟨i1, i2⟩ := ih f (i + 1) 1 (by omega) (by omega) (.inr rfl)
        have g : (∀ j, i ≤ j → j < 5 → T (p + j) = Int32.ofNat ((ux_words.getD 7 []).getD j 0)) ↔ ∀ j, i + 1 ≤ j → j < 5 → T (p + j) = Int32.ofNat ((ux_words.getD 7 []).getD j 0) :=
          ⟨fun z j z1 z2 => z j (by omega) z2, fun z j z1 z2 => by
            by_cases e : j = i
            · subst e; exact q
            · exact z j (by omega) z2⟩
        rw [if_pos q, g]
        exact ⟨⟨fun z => absurd z h10, fun _ => ⟨fun z => absurd z le, fun _ => ⟨b1, v2, fun z => absurd q z, fun _ => i1⟩⟩⟩, i2⟩
      · obtain ⟨i1, i2⟩ := ih f (i + 1) 0 (by omega) (by omega) (.inl rfl)
        rw [if_neg q]
        refine ⟨⟨fun z => absurd z h10, fun _ => ⟨fun z => absurd z le, fun _ => ⟨b1, v2, fun _ => i1, fun z => absurd z q⟩⟩⟩, .inr ⟨?_, fun z => q (z.2 i (Nat.le_refl _) (by omega))⟩⟩
        rcases i2 with ⟨_, z, _⟩ | ⟨i2, _⟩
        · exact absurd z h01
        · exact i2
theorem z_154w7 (h : z_rd5 M T N) (hp : p ≤ N) (hb : M 5 819253 0 10 = nI p) : p_154w7 M ∧ ((r_154w7 M = 1 ∧ z_iwd T N p 7 5) ∨ (r_154w7 M = 0 ∧ ¬ z_iwd T N p 7 5)) := by
  have hN := h.1
  obtain ⟨a1, a2⟩ := z_155 h hp hb
  obtain ⟨w1, w2, _, _⟩ := z_xn_b (P := z_xL T N) (N := N) (N - p) p (by omega)
  unfold p_154w7 r_154w7
  rw [a2, hb, z_sbn w1]
  by_cases g : z_xn (z_xL T N) N p - p = 5
  · obtain ⟨b1, b2⟩ := z_154w7l h hb (by omega) 5 ux_fuel 0 1 (by omega) (by have := z_fuel; omega) (.inr rfl)
    have e : nI (z_xn (z_xL T N) N p - p) = Int32.ofNat 5 := by rw [g]; rfl
    have e2 : z_xn (z_xL T N) N p = p + 5 := by omega
    rw [if_pos e]
    rw [← e2] at b1 b2
    refine ⟨⟨a1, fun z => absurd e z, fun _ => b1⟩, ?_⟩
    rcases b2 with ⟨b2, _, b3⟩ | ⟨b2, b3⟩
    · exact .inl ⟨b2, g, fun j hj => b3 j (by omega) hj⟩
    · exact .inr ⟨b2, fun z => b3 ⟨rfl, fun j _ hj => z.2 j hj⟩⟩
  · have e : ¬ nI (z_xn (z_xL T N) N p - p) = Int32.ofNat 5 := fun z => g ((z_eq (b := 5) (by omega) (by omega)).mp z)
    obtain ⟨f, hf⟩ : ∃ f, ux_fuel = f + 1 := ⟨ux_fuel - 1, by have := z_fuel; omega⟩
    have e1 : p_154w7_27 ux_fuel (nI (z_xn (z_xL T N) N p)) 0 0 M := by rw [hf, p_154w7_27]; exact ⟨fun _ => .inl rfl, fun z => absurd rfl z⟩
    have e2 : r_154w7_27 ux_fuel (nI (z_xn (z_xL T N) N p)) 0 0 M = 0 := by rw [hf, r_154w7_27, if_pos rfl]
    rw [if_neg e]
    exact ⟨⟨a1, fun _ => e1, fun z => absurd z e⟩, .inr ⟨e2, fun z => g z.1⟩⟩
theorem z_13w8l (h : z_rd4 M T N) (h4 : M 4 671757 0 4 = nI p) (hp : p + 7 ≤ N) : ∀ n f i, i + n = 7 → n < f → p_13w8_28 f (nI i) M ∧ ((r_13w8_28 f (nI i) M = 1 ∧ ∀ j, i ≤ j → j < 7 → T (p + j) = Int32.ofNat ((ux_words.getD 8 []).getD j 0)) ∨ (r_13w8_28 f (nI i) M = 0 ∧ ¬ ∀ j, i ≤ j → j < 7 → T (p + j) = Int32.ofNat ((ux_words.getD 8 []).getD j 0))) := by
  obtain ⟨hN, h1, h2, hT⟩ := h
  intro n
  induction n with
  | zero =>
    intro f i hi hf
    obtain ⟨f, rfl⟩ : ∃ g, f = g + 1 := ⟨f - 1, by omega⟩
    have le : Int32.ofNat 7 ≤ nI i := (z_le (a := 7) (by omega) (by omega)).mpr (by omega)
    rw [p_13w8_28, r_13w8_28, if_pos le]
    exact ⟨⟨fun _ => trivial, fun z => absurd le z⟩, .inl ⟨rfl, fun j z1 z2 => absurd z2 (by omega)⟩⟩
  | succ n ih =>
    intro f i hi hf
    obtain ⟨f, rfl⟩ : ∃ g, f = g + 1 := ⟨f - 1, by omega⟩
    have le : ¬ Int32.ofNat 7 ≤ nI i := fun z => by have := (z_le (a := 7) (by omega) (by omega)).mp z; omega
    have le8 : ¬ Int32.ofNat 800 ≤ nI (p + i) := fun z => by have := (z_le (a := 800) (by omega) (by omega)).mp z; omega
    rw [p_13w8_28, r_13w8_28, if_neg le, h4, z_add, if_neg le8, h1, z_cls (show p + i < 2000000000 by omega), z_cls (show i < 2000000000 by omega), hT (p + i) (by omega), z_nx]
    have v1 : vp_in (nI (p + i)) 800 := vp_in_nI (by omega) (by omega)
    have v2 : vp_in (nI i) 7 := vp_in_nI (by omega) (by omega)
    by_cases q : T (p + i) = Int32.ofNat ((ux_words.getD 8 []).getD i 0)
    · obtain ⟨i1, i2⟩ := ih f (i + 1) (by omega) (by omega)
      have g : (∀ j, i ≤ j → j < 7 → T (p + j) = Int32.ofNat ((ux_words.getD 8 []).getD j 0)) ↔ ∀ j, i + 1 ≤ j → j < 7 → T (p + j) = Int32.ofNat ((ux_words.getD 8 []).getD j 0) :=
        ⟨fun z j z1 z2 => z j (by omega) z2, fun z j z1 z2 => by
          by_cases e : j = i
          · subst e; exact q
          · exact z j (by omega) z2⟩
      rw [if_pos q, g]
      exact ⟨⟨fun z => absurd z le, fun _ => ⟨rfl, fun z => absurd z le8, fun _ => ⟨rfl, v1, v2, fun _ => i1, fun z => absurd q z⟩⟩⟩, i2⟩
    · rw [if_neg q]
      exact ⟨⟨fun z => absurd z le, fun _ => ⟨rfl, fun z => absurd z le8, fun _ => ⟨rfl, v1, v2, fun z => absurd z q, fun _ => trivial⟩⟩⟩, .inr ⟨rfl, fun z => q (z i (Nat.le_refl _) (by omega))⟩⟩
theorem z_13w8 (h : z_rd4 M T N) (hp : p ≤ N) (h3 : M 4 671757 0 3 = z_xp T N p) (h4 : M 4 671757 0 4 = nI p) (h5 : M 4 671757 0 5 = nI (z_xe T N p)) : p_13w8 M ∧ ((r_13w8 M = 1 ∧ z_iwd T N p 8 7) ∨ (r_13w8 M = 0 ∧ ¬ z_iwd T N p 8 7)) := by
  have hN := h.1
  obtain ⟨x1, x2, x3⟩ := z_xpe (T := T) hp
  unfold p_13w8 r_13w8
  rw [h3]
  by_cases q : z_xL T N p = true
  · obtain ⟨y1, y2⟩ := x2 q
    obtain ⟨_, w2, _, _⟩ := z_xn_b (P := z_xL T N) (N := N) (N - p) p (by omega)
    rw [h4, h5, y1, z_sbn (show p ≤ z_xn (z_xL T N) N p by omega), if_pos (x1.mpr q)]
    by_cases g : z_xn (z_xL T N) N p - p = 7
    · obtain ⟨a1, a2⟩ := z_13w8l h h4 (by omega) 7 ux_fuel 0 (by omega) (by have := z_fuel; omega)
      have e : nI (z_xn (z_xL T N) N p - p) = Int32.ofNat 7 := by rw [g]; rfl
      rw [if_pos e]
      refine ⟨⟨fun z => absurd (x1.mpr q) z, fun _ => ⟨fun _ => a1, fun z => absurd e z⟩⟩, ?_⟩
      rcases a2 with ⟨a2, a3⟩ | ⟨a2, a3⟩
      · exact .inl ⟨a2, g, fun j hj => a3 j (by omega) hj⟩
      · exact .inr ⟨a2, fun z => a3 (fun j _ hj => z.2 j hj)⟩
    · have e : ¬ nI (z_xn (z_xL T N) N p - p) = Int32.ofNat 7 := fun z => g ((z_eq (b := 7) (by omega) (by omega)).mp z)
      rw [if_neg e]
      exact ⟨⟨fun z => absurd (x1.mpr q) z, fun _ => ⟨fun z => absurd z e, fun _ => trivial⟩⟩, .inr ⟨rfl, fun z => g z.1⟩⟩
  · have n1 : ¬ z_xp T N p = 1 := fun z => q (x1.mp z)
    rw [if_neg n1]
    exact ⟨⟨fun _ => trivial, fun z => absurd z n1⟩, .inr ⟨rfl, fun z => by have := z.1; rw [x3 q] at this; omega⟩⟩
theorem z_154w8l (h : z_rd5 M T N) (hb : M 5 819253 0 10 = nI p) (hp : p + 7 ≤ N) : ∀ n f i (x3 : Int32), i + n = 7 → n < f → (x3 = 0 ∨ x3 = 1) → p_154w8_27 f (nI (p + 7)) x3 (nI i) M ∧ ((r_154w8_27 f (nI (p + 7)) x3 (nI i) M = 1 ∧ x3 = 1 ∧ ∀ j, i ≤ j → j < 7 → T (p + j) = Int32.ofNat ((ux_words.getD 8 []).getD j 0)) ∨ (r_154w8_27 f (nI (p + 7)) x3 (nI i) M = 0 ∧ ¬ (x3 = 1 ∧ ∀ j, i ≤ j → j < 7 → T (p + j) = Int32.ofNat ((ux_words.getD 8 []).getD j 0)))) := by
  have hN := h.1
  have h10 : ¬ (1 : Int32) = 0 := by decide
  have h01 : ¬ (0 : Int32) = 1 := by decide
  intro n
  induction n with
  | zero =>
    intro f i x3 hi hf hx
    obtain ⟨f, rfl⟩ : ∃ g, f = g + 1 := ⟨f - 1, by omega⟩
    have le : nI (p + 7) ≤ nI (p + i) := (z_le (by omega) (by omega)).mpr (by omega)
    rw [p_154w8_27, r_154w8_27, hb, z_add]
    rcases hx with rfl | rfl
    · rw [if_pos rfl]
      exact ⟨⟨fun _ => .inl rfl, fun z => absurd rfl z⟩, .inr ⟨rfl, fun z => h01 z.1⟩⟩
    · rw [if_neg h10, if_pos le]
      exact ⟨⟨fun z => absurd z h10, fun _ => ⟨fun _ => .inr rfl, fun z => absurd le z⟩⟩, .inl ⟨rfl, rfl, fun j z1 z2 => absurd z2 (by omega)⟩⟩
  | succ n ih =>
    intro f i x3 hi hf hx
    obtain ⟨f, rfl⟩ : ∃ g, f = g + 1 := ⟨f - 1, by omega⟩
    have le : ¬ nI (p + 7) ≤ nI (p + i) := fun z => by have := (z_le (by omega) (by omega)).mp z; omega
    obtain ⟨b1, b2⟩ := z_153 (i := p + i) h (by omega)
    rw [if_neg (show ¬ N ≤ p + i by omega)] at b2
    rw [p_154w8_27, r_154w8_27, hb, z_add, b2, z_cls (show i < 2000000000 by omega), z_nx]
    rcases hx with rfl | rfl
    · rw [if_pos rfl]
      exact ⟨⟨fun _ => .inl rfl, fun z => absurd rfl z⟩, .inr ⟨rfl, fun z => h01 z.1⟩⟩
    · have v2 : vp_in (nI i) 7 := vp_in_nI (by omega) (by omega)
      rw [if_neg h10, if_neg le]
      by_cases q : T (p + i) = Int32.ofNat ((ux_words.getD 8 []).getD i 0)
      · obtain ⟨i1, i2⟩ := ih f (i + 1) 1 (by omega) (by omega) (.inr rfl)
        have g : (∀ j, i ≤ j → j < 7 → T (p + j) = Int32.ofNat ((ux_words.getD 8 []).getD j 0)) ↔ ∀ j, i + 1 ≤ j → j < 7 → T (p + j) = Int32.ofNat ((ux_words.getD 8 []).getD j 0) :=
          ⟨fun z j z1 z2 => z j (by omega) z2, fun z j z1 z2 => by
            by_cases e : j = i
            · subst e; exact q
            · exact z j (by omega) z2⟩
        rw [if_pos q, g]
        exact ⟨⟨fun z => absurd z h10, fun _ => ⟨fun z => absurd z le, fun _ => ⟨b1, v2, fun z => absurd q z, fun _ => i1⟩⟩⟩, i2⟩
      · obtain ⟨i1, i2⟩ := ih f (i + 1) 0 (by omega) (by omega) (.inl rfl)
        rw [if_neg q]
        refine ⟨⟨fun z => absurd z h10, fun _ => ⟨fun z => absurd z le, fun _ => ⟨b1, v2, fun _ => i1, fun z => absurd z q⟩⟩⟩, .inr ⟨?_, fun z => q (z.2 i (Nat.le_refl _) (by omega))⟩⟩
        rcases i2 with ⟨_, z, _⟩ | ⟨i2, _⟩
        · exact absurd z h01
        · exact i2
theorem z_154w8 (h : z_rd5 M T N) (hp : p ≤ N) (hb : M 5 819253 0 10 = nI p) : p_154w8 M ∧ ((r_154w8 M = 1 ∧ z_iwd T N p 8 7) ∨ (r_154w8 M = 0 ∧ ¬ z_iwd T N p 8 7)) := by
  have hN := h.1
  obtain ⟨a1, a2⟩ := z_155 h hp hb
  obtain ⟨w1, w2, _, _⟩ := z_xn_b (P := z_xL T N) (N := N) (N - p) p (by omega)
  unfold p_154w8 r_154w8
  rw [a2, hb, z_sbn w1]
  by_cases g : z_xn (z_xL T N) N p - p = 7
  · obtain ⟨b1, b2⟩ := z_154w8l h hb (by omega) 7 ux_fuel 0 1 (by omega) (by have := z_fuel; omega) (.inr rfl)
    have e : nI (z_xn (z_xL T N) N p - p) = Int32.ofNat 7 := by rw [g]; rfl
    have e2 : z_xn (z_xL T N) N p = p + 7 := by omega
    rw [if_pos e]
    rw [← e2] at b1 b2
    refine ⟨⟨a1, fun z => absurd e z, fun _ => b1⟩, ?_⟩
    rcases b2 with ⟨b2, _, b3⟩ | ⟨b2, b3⟩
    · exact .inl ⟨b2, g, fun j hj => b3 j (by omega) hj⟩
    · exact .inr ⟨b2, fun z => b3 ⟨rfl, fun j _ hj => z.2 j hj⟩⟩
  · have e : ¬ nI (z_xn (z_xL T N) N p - p) = Int32.ofNat 7 := fun z => g ((z_eq (b := 7) (by omega) (by omega)).mp z)
    obtain ⟨f, hf⟩ : ∃ f, ux_fuel = f + 1 := ⟨ux_fuel - 1, by have := z_fuel; omega⟩
    have e1 : p_154w8_27 ux_fuel (nI (z_xn (z_xL T N) N p)) 0 0 M := by rw [hf, p_154w8_27]; exact ⟨fun _ => .inl rfl, fun z => absurd rfl z⟩
    have e2 : r_154w8_27 ux_fuel (nI (z_xn (z_xL T N) N p)) 0 0 M = 0 := by rw [hf, r_154w8_27, if_pos rfl]
    rw [if_neg e]
    exact ⟨⟨a1, fun _ => e1, fun z => absurd z e⟩, .inr ⟨e2, fun z => g z.1⟩⟩
theorem z_13w9l (h : z_rd4 M T N) (h4 : M 4 671757 0 4 = nI p) (hp : p + 5 ≤ N) : ∀ n f i, i + n = 5 → n < f → p_13w9_28 f (nI i) M ∧ ((r_13w9_28 f (nI i) M = 1 ∧ ∀ j, i ≤ j → j < 5 → T (p + j) = Int32.ofNat ((ux_words.getD 9 []).getD j 0)) ∨ (r_13w9_28 f (nI i) M = 0 ∧ ¬ ∀ j, i ≤ j → j < 5 → T (p + j) = Int32.ofNat ((ux_words.getD 9 []).getD j 0))) := by
  obtain ⟨hN, h1, h2, hT⟩ := h
  intro n
  induction n with
  | zero =>
    intro f i hi hf
    obtain ⟨f, rfl⟩ : ∃ g, f = g + 1 := ⟨f - 1, by omega⟩
    have le : Int32.ofNat 5 ≤ nI i := (z_le (a := 5) (by omega) (by omega)).mpr (by omega)
    rw [p_13w9_28, r_13w9_28, if_pos le]
    exact ⟨⟨fun _ => trivial, fun z => absurd le z⟩, .inl ⟨rfl, fun j z1 z2 => absurd z2 (by omega)⟩⟩
  | succ n ih =>
    intro f i hi hf
    obtain ⟨f, rfl⟩ : ∃ g, f = g + 1 := ⟨f - 1, by omega⟩
    have le : ¬ Int32.ofNat 5 ≤ nI i := fun z => by have := (z_le (a := 5) (by omega) (by omega)).mp z; omega
    have le8 : ¬ Int32.ofNat 800 ≤ nI (p + i) := fun z => by have := (z_le (a := 800) (by omega) (by omega)).mp z; omega
    rw [p_13w9_28, r_13w9_28, if_neg le, h4, z_add, if_neg le8, h1, z_cls (show p + i < 2000000000 by omega), z_cls (show i < 2000000000 by omega), hT (p + i) (by omega), z_nx]
    have v1 : vp_in (nI (p + i)) 800 := vp_in_nI (by omega) (by omega)
    have v2 : vp_in (nI i) 5 := vp_in_nI (by omega) (by omega)
    by_cases q : T (p + i) = Int32.ofNat ((ux_words.getD 9 []).getD i 0)
    · obtain ⟨i1, i2⟩ := ih f (i + 1) (by omega) (by omega)
      have g : (∀ j, i ≤ j → j < 5 → T (p + j) = Int32.ofNat ((ux_words.getD 9 []).getD j 0)) ↔ ∀ j, i + 1 ≤ j → j < 5 → T (p + j) = Int32.ofNat ((ux_words.getD 9 []).getD j 0) :=
        ⟨fun z j z1 z2 => z j (by omega) z2, fun z j z1 z2 => by
          by_cases e : j = i
          · subst e; exact q
          · exact z j (by omega) z2⟩
      rw [if_pos q, g]
      exact ⟨⟨fun z => absurd z le, fun _ => ⟨rfl, fun z => absurd z le8, fun _ => ⟨rfl, v1, v2, fun _ => i1, fun z => absurd q z⟩⟩⟩, i2⟩
    · rw [if_neg q]
      exact ⟨⟨fun z => absurd z le, fun _ => ⟨rfl, fun z => absurd z le8, fun _ => ⟨rfl, v1, v2, fun z => absurd z q, fun _ => trivial⟩⟩⟩, .inr ⟨rfl, fun z => q (z i (Nat.le_refl _) (by omega))⟩⟩
theorem z_13w9 (h : z_rd4 M T N) (hp : p ≤ N) (h3 : M 4 671757 0 3 = z_xp T N p) (h4 : M 4 671757 0 4 = nI p) (h5 : M 4 671757 0 5 = nI (z_xe T N p)) : p_13w9 M ∧ ((r_13w9 M = 1 ∧ z_iwd T N p 9 5) ∨ (r_13w9 M = 0 ∧ ¬ z_iwd T N p 9 5)) := by
  have hN := h.1
  obtain ⟨x1, x2, x3⟩ := z_xpe (T := T) hp
  unfold p_13w9 r_13w9
  rw [h3]
  by_cases q : z_xL T N p = true
  · obtain ⟨y1, y2⟩ := x2 q
    obtain ⟨_, w2, _, _⟩ := z_xn_b (P := z_xL T N) (N := N) (N - p) p (by omega)
    rw [h4, h5, y1, z_sbn (show p ≤ z_xn (z_xL T N) N p by omega), if_pos (x1.mpr q)]
    by_cases g : z_xn (z_xL T N) N p - p = 5
    · obtain ⟨a1, a2⟩ := z_13w9l h h4 (by omega) 5 ux_fuel 0 (by omega) (by have := z_fuel; omega)
      have e : nI (z_xn (z_xL T N) N p - p) = Int32.ofNat 5 := by rw [g]; rfl
      rw [if_pos e]
      refine ⟨⟨fun z => absurd (x1.mpr q) z, fun _ => ⟨fun _ => a1, fun z => absurd e z⟩⟩, ?_⟩
      rcases a2 with ⟨a2, a3⟩ | ⟨a2, a3⟩
      · exact .inl ⟨a2, g, fun j hj => a3 j (by omega) hj⟩
      · exact .inr ⟨a2, fun z => a3 (fun j _ hj => z.2 j hj)⟩
    · have e : ¬ nI (z_xn (z_xL T N) N p - p) = Int32.ofNat 5 := fun z => g ((z_eq (b := 5) (by omega) (by omega)).mp z)
      rw [if_neg e]
      exact ⟨⟨fun z => absurd (x1.mpr q) z, fun _ => ⟨fun z => absurd z e, fun _ => trivial⟩⟩, .inr ⟨rfl, fun z => g z.1⟩⟩
  · have n1 : ¬ z_xp T N p = 1 := fun z => q (x1.mp z)
    rw [if_neg n1]
    exact ⟨⟨fun _ => trivial, fun z => absurd z n1⟩, .inr ⟨rfl, fun z => by have := z.1; rw [x3 q] at this; omega⟩⟩
theorem z_154w9l (h : z_rd5 M T N) (hb : M 5 819253 0 10 = nI p) (hp : p + 5 ≤ N) : ∀ n f i (x3 : Int32), i + n = 5 → n < f → (x3 = 0 ∨ x3 = 1) → p_154w9_27 f (nI (p + 5)) x3 (nI i) M ∧ ((r_154w9_27 f (nI (p + 5)) x3 (nI i) M = 1 ∧ x3 = 1 ∧ ∀ j, i ≤ j → j < 5 → T (p + j) = Int32.ofNat ((ux_words.getD 9 []).getD j 0)) ∨ (r_154w9_27 f (nI (p + 5)) x3 (nI i) M = 0 ∧ ¬ (x3 = 1 ∧ ∀ j, i ≤ j → j < 5 → T (p + j) = Int32.ofNat ((ux_words.getD 9 []).getD j 0)))) := by
  have hN := h.1
  have h10 : ¬ (1 : Int32) = 0 := by decide
  have h01 : ¬ (0 : Int32) = 1 := by decide
  intro n
  induction n with
  | zero =>
    intro f i x3 hi hf hx
    obtain ⟨f, rfl⟩ : ∃ g, f = g + 1 := ⟨f - 1, by omega⟩
    have le : nI (p + 5) ≤ nI (p + i) := (z_le (by omega) (by omega)).mpr (by omega)
    rw [p_154w9_27, r_154w9_27, hb, z_add]
    rcases hx with rfl | rfl
    · rw [if_pos rfl]
      exact ⟨⟨fun _ => .inl rfl, fun z => absurd rfl z⟩, .inr ⟨rfl, fun z => h01 z.1⟩⟩
    · rw [if_neg h10, if_pos le]
      exact ⟨⟨fun z => absurd z h10, fun _ => ⟨fun _ => .inr rfl, fun z => absurd le z⟩⟩, .inl ⟨rfl, rfl, fun j z1 z2 => absurd z2 (by omega)⟩⟩
  | succ n ih =>
    intro f i x3 hi hf hx
    obtain ⟨f, rfl⟩ : ∃ g, f = g + 1 := ⟨f - 1, by omega⟩
    have le : ¬ nI (p + 5) ≤ nI (p + i) := fun z => by have := (z_le (by omega) (by omega)).mp z; omega
    obtain ⟨b1, b2⟩ := z_153 (i := p + i) h (by omega)
    rw [if_neg (show ¬ N ≤ p + i by omega)] at b2
    rw [p_154w9_27, r_154w9_27, hb, z_add, b2, z_cls (show i < 2000000000 by omega), z_nx]
    rcases hx with rfl | rfl
    · rw [if_pos rfl]
      exact ⟨⟨fun _ => .inl rfl, fun z => absurd rfl z⟩, .inr ⟨rfl, fun z => h01 z.1⟩⟩
    · have v2 : vp_in (nI i) 5 := vp_in_nI (by omega) (by omega)
      rw [if_neg h10, if_neg le]
      by_cases q : T (p + i) = Int32.ofNat ((ux_words.getD 9 []).getD i 0)
      · obtain ⟨i1, i2⟩ := ih f (i + 1) 1 (by omega) (by omega) (.inr rfl)
        have g : (∀ j, i ≤ j → j < 5 → T (p + j) = Int32.ofNat ((ux_words.getD 9 []).getD j 0)) ↔ ∀ j, i + 1 ≤ j → j < 5 → T (p + j) = Int32.ofNat ((ux_words.getD 9 []).getD j 0) :=
          ⟨fun z j z1 z2 => z j (by omega) z2, fun z j z1 z2 => by
            by_cases e : j = i
            · subst e; exact q
            · exact z j (by omega) z2⟩
        rw [if_pos q, g]
        exact ⟨⟨fun z => absurd z h10, fun _ => ⟨fun z => absurd z le, fun _ => ⟨b1, v2, fun z => absurd q z, fun _ => i1⟩⟩⟩, i2⟩
      · obtain ⟨i1, i2⟩ := ih f (i + 1) 0 (by omega) (by omega) (.inl rfl)
        rw [if_neg q]
        refine ⟨⟨fun z => absurd z h10, fun _ => ⟨fun z => absurd z le, fun _ => ⟨b1, v2, fun _ => i1, fun z => absurd z q⟩⟩⟩, .inr ⟨?_, fun z => q (z.2 i (Nat.le_refl _) (by omega))⟩⟩
        rcases i2 with ⟨_, z, _⟩ | ⟨i2, _⟩
        · exact absurd z h01
        · exact i2
theorem z_154w9 (h : z_rd5 M T N) (hp : p ≤ N) (hb : M 5 819253 0 10 = nI p) : p_154w9 M ∧ ((r_154w9 M = 1 ∧ z_iwd T N p 9 5) ∨ (r_154w9 M = 0 ∧ ¬ z_iwd T N p 9 5)) := by
  have hN := h.1
  obtain ⟨a1, a2⟩ := z_155 h hp hb
  obtain ⟨w1, w2, _, _⟩ := z_xn_b (P := z_xL T N) (N := N) (N - p) p (by omega)
  unfold p_154w9 r_154w9
  rw [a2, hb, z_sbn w1]
  by_cases g : z_xn (z_xL T N) N p - p = 5
  · obtain ⟨b1, b2⟩ := z_154w9l h hb (by omega) 5 ux_fuel 0 1 (by omega) (by have := z_fuel; omega) (.inr rfl)
    have e : nI (z_xn (z_xL T N) N p - p) = Int32.ofNat 5 := by rw [g]; rfl
    have e2 : z_xn (z_xL T N) N p = p + 5 := by omega
    rw [if_pos e]
    rw [← e2] at b1 b2
    refine ⟨⟨a1, fun z => absurd e z, fun _ => b1⟩, ?_⟩
    rcases b2 with ⟨b2, _, b3⟩ | ⟨b2, b3⟩
    · exact .inl ⟨b2, g, fun j hj => b3 j (by omega) hj⟩
    · exact .inr ⟨b2, fun z => b3 ⟨rfl, fun j _ hj => z.2 j hj⟩⟩
  · have e : ¬ nI (z_xn (z_xL T N) N p - p) = Int32.ofNat 5 := fun z => g ((z_eq (b := 5) (by omega) (by omega)).mp z)
    obtain ⟨f, hf⟩ : ∃ f, ux_fuel = f + 1 := ⟨ux_fuel - 1, by have := z_fuel; omega⟩
    have e1 : p_154w9_27 ux_fuel (nI (z_xn (z_xL T N) N p)) 0 0 M := by rw [hf, p_154w9_27]; exact ⟨fun _ => .inl rfl, fun z => absurd rfl z⟩
    have e2 : r_154w9_27 ux_fuel (nI (z_xn (z_xL T N) N p)) 0 0 M = 0 := by rw [hf, r_154w9_27, if_pos rfl]
    rw [if_neg e]
    exact ⟨⟨a1, fun _ => e1, fun z => absurd z e⟩, .inr ⟨e2, fun z => g z.1⟩⟩
theorem z_13w10l (h : z_rd4 M T N) (h4 : M 4 671757 0 4 = nI p) (hp : p + 5 ≤ N) : ∀ n f i, i + n = 5 → n < f → p_13w10_28 f (nI i) M ∧ ((r_13w10_28 f (nI i) M = 1 ∧ ∀ j, i ≤ j → j < 5 → T (p + j) = Int32.ofNat ((ux_words.getD 10 []).getD j 0)) ∨ (r_13w10_28 f (nI i) M = 0 ∧ ¬ ∀ j, i ≤ j → j < 5 → T (p + j) = Int32.ofNat ((ux_words.getD 10 []).getD j 0))) := by
  obtain ⟨hN, h1, h2, hT⟩ := h
  intro n
  induction n with
  | zero =>
    intro f i hi hf
    obtain ⟨f, rfl⟩ : ∃ g, f = g + 1 := ⟨f - 1, by omega⟩
    have le : Int32.ofNat 5 ≤ nI i := (z_le (a := 5) (by omega) (by omega)).mpr (by omega)
    rw [p_13w10_28, r_13w10_28, if_pos le]
    exact ⟨⟨fun _ => trivial, fun z => absurd le z⟩, .inl ⟨rfl, fun j z1 z2 => absurd z2 (by omega)⟩⟩
  | succ n ih =>
    intro f i hi hf
    obtain ⟨f, rfl⟩ : ∃ g, f = g + 1 := ⟨f - 1, by omega⟩
    have le : ¬ Int32.ofNat 5 ≤ nI i := fun z => by have := (z_le (a := 5) (by omega) (by omega)).mp z; omega
    have le8 : ¬ Int32.ofNat 800 ≤ nI (p + i) := fun z => by have := (z_le (a := 800) (by omega) (by omega)).mp z; omega
    rw [p_13w10_28, r_13w10_28, if_neg le, h4, z_add, if_neg le8, h1, z_cls (show p + i < 2000000000 by omega), z_cls (show i < 2000000000 by omega), hT (p + i) (by omega), z_nx]
    have v1 : vp_in (nI (p + i)) 800 := vp_in_nI (by omega) (by omega)
    have v2 : vp_in (nI i) 5 := vp_in_nI (by omega) (by omega)
    by_cases q : T (p + i) = Int32.ofNat ((ux_words.getD 10 []).getD i 0)
    · obtain ⟨i1, i2⟩ := ih f (i + 1) (by omega) (by omega)
      have g : (∀ j, i ≤ j → j < 5 → T (p + j) = Int32.ofNat ((ux_words.getD 10 []).getD j 0)) ↔ ∀ j, i + 1 ≤ j → j < 5 → T (p + j) = Int32.ofNat ((ux_words.getD 10 []).getD j 0) :=
        ⟨fun z j z1 z2 => z j (by omega) z2, fun z j z1 z2 => by
          by_cases e : j = i
          · subst e; exact q
          · exact z j (by omega) z2⟩
      rw [if_pos q, g]
      exact ⟨⟨fun z => absurd z le, fun _ => ⟨rfl, fun z => absurd z le8, fun _ => ⟨rfl, v1, v2, fun _ => i1, fun z => absurd q z⟩⟩⟩, i2⟩
    · rw [if_neg q]
      exact ⟨⟨fun z => absurd z le, fun _ => ⟨rfl, fun z => absurd z le8, fun _ => ⟨rfl, v1, v2, fun z => absurd z q, fun _ => trivial⟩⟩⟩, .inr ⟨rfl, fun z => q (z i (Nat.le_refl _) (by omega))⟩⟩
theorem z_13w10 (h : z_rd4 M T N) (hp : p ≤ N) (h3 : M 4 671757 0 3 = z_xp T N p) (h4 : M 4 671757 0 4 = nI p) (h5 : M 4 671757 0 5 = nI (z_xe T N p)) : p_13w10 M ∧ ((r_13w10 M = 1 ∧ z_iwd T N p 10 5) ∨ (r_13w10 M = 0 ∧ ¬ z_iwd T N p 10 5)) := by
  have hN := h.1
  obtain ⟨x1, x2, x3⟩ := z_xpe (T := T) hp
  unfold p_13w10 r_13w10
  rw [h3]
  by_cases q : z_xL T N p = true
  · obtain ⟨y1, y2⟩ := x2 q
    obtain ⟨_, w2, _, _⟩ := z_xn_b (P := z_xL T N) (N := N) (N - p) p (by omega)
    rw [h4, h5, y1, z_sbn (show p ≤ z_xn (z_xL T N) N p by omega), if_pos (x1.mpr q)]
    by_cases g : z_xn (z_xL T N) N p - p = 5
    · obtain ⟨a1, a2⟩ := z_13w10l h h4 (by omega) 5 ux_fuel 0 (by omega) (by have := z_fuel; omega)
      have e : nI (z_xn (z_xL T N) N p - p) = Int32.ofNat 5 := by rw [g]; rfl
      rw [if_pos e]
      refine ⟨⟨fun z => absurd (x1.mpr q) z, fun _ => ⟨fun _ => a1, fun z => absurd e z⟩⟩, ?_⟩
      rcases a2 with ⟨a2, a3⟩ | ⟨a2, a3⟩
      · exact .inl ⟨a2, g, fun j hj => a3 j (by omega) hj⟩
      · exact .inr ⟨a2, fun z => a3 (fun j _ hj => z.2 j hj)⟩
    · have e : ¬ nI (z_xn (z_xL T N) N p - p) = Int32.ofNat 5 := fun z => g ((z_eq (b := 5) (by omega) (by omega)).mp z)
      rw [if_neg e]
      exact ⟨⟨fun z => absurd (x1.mpr q) z, fun _ => ⟨fun z => absurd z e, fun _ => trivial⟩⟩, .inr ⟨rfl, fun z => g z.1⟩⟩
  · have n1 : ¬ z_xp T N p = 1 := fun z => q (x1.mp z)
    rw [if_neg n1]
    exact ⟨⟨fun _ => trivial, fun z => absurd z n1⟩, .inr ⟨rfl, fun z => by have := z.1; rw [x3 q] at this; omega⟩⟩
theorem z_154w10l (h : z_rd5 M T N) (hb : M 5 819253 0 10 = nI p) (hp : p + 5 ≤ N) : ∀ n f i (x3 : Int32), i + n = 5 → n < f → (x3 = 0 ∨ x3 = 1) → p_154w10_27 f (nI (p + 5)) x3 (nI i) M ∧ ((r_154w10_27 f (nI (p + 5)) x3 (nI i) M = 1 ∧ x3 = 1 ∧ ∀ j, i ≤ j → j < 5 → T (p + j) = Int32.ofNat ((ux_words.getD 10 []).getD j 0)) ∨ (r_154w10_27 f (nI (p + 5)) x3 (nI i) M = 0 ∧ ¬ (x3 = 1 ∧ ∀ j, i ≤ j → j < 5 → T (p + j) = Int32.ofNat ((ux_words.getD 10 []).getD j 0)))) := by
  have hN := h.1
  have h10 : ¬ (1 : Int32) = 0 := by decide
  have h01 : ¬ (0 : Int32) = 1 := by decide
  intro n
  induction n with
  | zero =>
    intro f i x3 hi hf hx
    obtain ⟨f, rfl⟩ : ∃ g, f = g + 1 := ⟨f - 1, by omega⟩
    have le : nI (p + 5) ≤ nI (p + i) := (z_le (by omega) (by omega)).mpr (by omega)
    rw [p_154w10_27, r_154w10_27, hb, z_add]
    rcases hx with rfl | rfl
    · rw [if_pos rfl]
      exact ⟨⟨fun _ => .inl rfl, fun z => absurd rfl z⟩, .inr ⟨rfl, fun z => h01 z.1⟩⟩
    · rw [if_neg h10, if_pos le]
      exact ⟨⟨fun z => absurd z h10, fun _ => ⟨fun _ => .inr rfl, fun z => absurd le z⟩⟩, .inl ⟨rfl, rfl, fun j z1 z2 => absurd z2 (by omega)⟩⟩
  | succ n ih =>
    intro f i x3 hi hf hx
    obtain ⟨f, rfl⟩ : ∃ g, f = g + 1 := ⟨f - 1, by omega⟩
    have le : ¬ nI (p + 5) ≤ nI (p + i) := fun z => by have := (z_le (by omega) (by omega)).mp z; omega
    obtain ⟨b1, b2⟩ := z_153 (i := p + i) h (by omega)
    rw [if_neg (show ¬ N ≤ p + i by omega)] at b2
    rw [p_154w10_27, r_154w10_27, hb, z_add, b2, z_cls (show i < 2000000000 by omega), z_nx]
    rcases hx with rfl | rfl
    · rw [if_pos rfl]
      exact ⟨⟨fun _ => .inl rfl, fun z => absurd rfl z⟩, .inr ⟨rfl, fun z => h01 z.1⟩⟩
    · have v2 : vp_in (nI i) 5 := vp_in_nI (by omega) (by omega)
      rw [if_neg h10, if_neg le]
      by_cases q : T (p + i) = Int32.ofNat ((ux_words.getD 10 []).getD i 0)
      · obtain ⟨i1, i2⟩ := ih f (i + 1) 1 (by omega) (by omega) (.inr rfl)
        have g : (∀ j, i ≤ j → j < 5 → T (p + j) = Int32.ofNat ((ux_words.getD 10 []).getD j 0)) ↔ ∀ j, i + 1 ≤ j → j < 5 → T (p + j) = Int32.ofNat ((ux_words.getD 10 []).getD j 0) :=
          ⟨fun z j z1 z2 => z j (by omega) z2, fun z j z1 z2 => by
            by_cases e : j = i
            · subst e; exact q
            · exact z j (by omega) z2⟩
        rw [if_pos q, g]
        exact ⟨⟨fun z => absurd z h10, fun _ => ⟨fun z => absurd z le, fun _ => ⟨b1, v2, fun z => absurd q z, fun _ => i1⟩⟩⟩, i2⟩
      · obtain ⟨i1, i2⟩ := ih f (i + 1) 0 (by omega) (by omega) (.inl rfl)
        rw [if_neg q]
        refine ⟨⟨fun z => absurd z h10, fun _ => ⟨fun z => absurd z le, fun _ => ⟨b1, v2, fun _ => i1, fun z => absurd z q⟩⟩⟩, .inr ⟨?_, fun z => q (z.2 i (Nat.le_refl _) (by omega))⟩⟩
        rcases i2 with ⟨_, z, _⟩ | ⟨i2, _⟩
        · exact absurd z h01
        · exact i2
theorem z_154w10 (h : z_rd5 M T N) (hp : p ≤ N) (hb : M 5 819253 0 10 = nI p) : p_154w10 M ∧ ((r_154w10 M = 1 ∧ z_iwd T N p 10 5) ∨ (r_154w10 M = 0 ∧ ¬ z_iwd T N p 10 5)) := by
  have hN := h.1
  obtain ⟨a1, a2⟩ := z_155 h hp hb
  obtain ⟨w1, w2, _, _⟩ := z_xn_b (P := z_xL T N) (N := N) (N - p) p (by omega)
  unfold p_154w10 r_154w10
  rw [a2, hb, z_sbn w1]
  by_cases g : z_xn (z_xL T N) N p - p = 5
  · obtain ⟨b1, b2⟩ := z_154w10l h hb (by omega) 5 ux_fuel 0 1 (by omega) (by have := z_fuel; omega) (.inr rfl)
    have e : nI (z_xn (z_xL T N) N p - p) = Int32.ofNat 5 := by rw [g]; rfl
    have e2 : z_xn (z_xL T N) N p = p + 5 := by omega
    rw [if_pos e]
    rw [← e2] at b1 b2
    refine ⟨⟨a1, fun z => absurd e z, fun _ => b1⟩, ?_⟩
    rcases b2 with ⟨b2, _, b3⟩ | ⟨b2, b3⟩
    · exact .inl ⟨b2, g, fun j hj => b3 j (by omega) hj⟩
    · exact .inr ⟨b2, fun z => b3 ⟨rfl, fun j _ hj => z.2 j hj⟩⟩
  · have e : ¬ nI (z_xn (z_xL T N) N p - p) = Int32.ofNat 5 := fun z => g ((z_eq (b := 5) (by omega) (by omega)).mp z)
    obtain ⟨f, hf⟩ : ∃ f, ux_fuel = f + 1 := ⟨ux_fuel - 1, by have := z_fuel; omega⟩
    have e1 : p_154w10_27 ux_fuel (nI (z_xn (z_xL T N) N p)) 0 0 M := by rw [hf, p_154w10_27]; exact ⟨fun _ => .inl rfl, fun z => absurd rfl z⟩
    have e2 : r_154w10_27 ux_fuel (nI (z_xn (z_xL T N) N p)) 0 0 M = 0 := by rw [hf, r_154w10_27, if_pos rfl]
    rw [if_neg e]
    exact ⟨⟨a1, fun _ => e1, fun z => absurd z e⟩, .inr ⟨e2, fun z => g z.1⟩⟩
end ZL2
