/-! LOAD, 2: words (by wip/whole/gen99w.py) -/
section ZL2
variable {M M' m : ux_M} {T : Nat → Int32} {N i j p n : Nat} {a b c v : Int32} {P : Nat → Bool}
theorem z_13w11l (h : z_rd4 M T N) (h4 : M 4 671757 0 4 = nI p) (hp : p + 4 ≤ N) : ∀ n f i, i + n = 4 → n < f → p_13w11_28 f (nI i) M ∧ ((r_13w11_28 f (nI i) M = 1 ∧ ∀ j, i ≤ j → j < 4 → T (p + j) = Int32.ofNat ((ux_words.getD 11 []).getD j 0)) ∨ (r_13w11_28 f (nI i) M = 0 ∧ ¬ ∀ j, i ≤ j → j < 4 → T (p + j) = Int32.ofNat ((ux_words.getD 11 []).getD j 0))) := by
  obtain ⟨hN, h1, h2, hT⟩ := h
  intro n
  induction n with
  | zero =>
    intro f i hi hf
    obtain ⟨f, rfl⟩ : ∃ g, f = g + 1 := ⟨f - 1, by omega⟩
    have le : Int32.ofNat 4 ≤ nI i := (z_le (a := 4) (by omega) (by omega)).mpr (by omega)
    rw [p_13w11_28, r_13w11_28, if_pos le]
    exact ⟨⟨fun _ => trivial, fun z => absurd le z⟩, .inl ⟨rfl, fun j z1 z2 => absurd z2 (by omega)⟩⟩
  | succ n ih =>
    intro f i hi hf
    obtain ⟨f, rfl⟩ : ∃ g, f = g + 1 := ⟨f - 1, by omega⟩
    have le : ¬ Int32.ofNat 4 ≤ nI i := fun z => by have := (z_le (a := 4) (by omega) (by omega)).mp z; omega
    have le8 : ¬ Int32.ofNat 800 ≤ nI (p + i) := fun z => by have := (z_le (a := 800) (by omega) (by omega)).mp z; omega
    rw [p_13w11_28, r_13w11_28, if_neg le, h4, z_add, if_neg le8, h1, z_cls (show p + i < 2000000000 by omega), z_cls (show i < 2000000000 by omega), hT (p + i) (by omega), z_nx]
    have v1 : vp_in (nI (p + i)) 800 := vp_in_nI (by omega) (by omega)
    have v2 : vp_in (nI i) 4 := vp_in_nI (by omega) (by omega)
    by_cases q : T (p + i) = Int32.ofNat ((ux_words.getD 11 []).getD i 0)
    · obtain ⟨i1, i2⟩ := ih f (i + 1) (by omega) (by omega)
      have g : (∀ j, i ≤ j → j < 4 → T (p + j) = Int32.ofNat ((ux_words.getD 11 []).getD j 0)) ↔ ∀ j, i + 1 ≤ j → j < 4 → T (p + j) = Int32.ofNat ((ux_words.getD 11 []).getD j 0) :=
        ⟨fun z j z1 z2 => z j (by omega) z2, fun z j z1 z2 => by
          by_cases e : j = i
          · subst e; exact q
          · exact z j (by omega) z2⟩
      rw [if_pos q, g]
      exact ⟨⟨fun z => absurd z le, fun _ => ⟨rfl, fun z => absurd z le8, fun _ => ⟨rfl, v1, v2, fun _ => i1, fun z => absurd q z⟩⟩⟩, i2⟩
    · rw [if_neg q]
      exact ⟨⟨fun z => absurd z le, fun _ => ⟨rfl, fun z => absurd z le8, fun _ => ⟨rfl, v1, v2, fun z => absurd z q, fun _ => trivial⟩⟩⟩, .inr ⟨rfl, fun z => q (z i (Nat.le_refl _) (by omega))⟩⟩
theorem z_13w11 (h : z_rd4 M T N) (hp : p ≤ N) (h3 : M 4 671757 0 3 = z_xp T N p) (h4 : M 4 671757 0 4 = nI p) (h5 : M 4 671757 0 5 = nI (z_xe T N p)) : p_13w11 M ∧ ((r_13w11 M = 1 ∧ z_iwd T N p 11 4) ∨ (r_13w11 M = 0 ∧ ¬ z_iwd T N p 11 4)) := by
  have hN := h.1
  obtain ⟨x1, x2, x3⟩ := z_xpe (T := T) hp
  unfold p_13w11 r_13w11
  rw [h3]
  by_cases q : z_xL T N p = true
  · obtain ⟨y1, y2⟩ := x2 q
    obtain ⟨_, w2, _, _⟩ := z_xn_b (P := z_xL T N) (N := N) (N - p) p (by omega)
    rw [h4, h5, y1, z_sbn (show p ≤ z_xn (z_xL T N) N p by omega), if_pos (x1.mpr q)]
    by_cases g : z_xn (z_xL T N) N p - p = 4
    · obtain ⟨a1, a2⟩ := z_13w11l h h4 (by omega) 4 ux_fuel 0 (by omega) (by have := z_fuel; omega)
      have e : nI (z_xn (z_xL T N) N p - p) = Int32.ofNat 4 := by rw [g]; rfl
      rw [if_pos e]
      refine ⟨⟨fun z => absurd (x1.mpr q) z, fun _ => ⟨fun _ => a1, fun z => absurd e z⟩⟩, ?_⟩
      rcases a2 with ⟨a2, a3⟩ | ⟨a2, a3⟩
      · exact .inl ⟨a2, g, fun j hj => a3 j (by omega) hj⟩
      · exact .inr ⟨a2, fun z => a3 (fun j _ hj => z.2 j hj)⟩
    · have e : ¬ nI (z_xn (z_xL T N) N p - p) = Int32.ofNat 4 := fun z => g ((z_eq (b := 4) (by omega) (by omega)).mp z)
      rw [if_neg e]
      exact ⟨⟨fun z => absurd (x1.mpr q) z, fun _ => ⟨fun z => absurd z e, fun _ => trivial⟩⟩, .inr ⟨rfl, fun z => g z.1⟩⟩
  · have n1 : ¬ z_xp T N p = 1 := fun z => q (x1.mp z)
    rw [if_neg n1]
    exact ⟨⟨fun _ => trivial, fun z => absurd z n1⟩, .inr ⟨rfl, fun z => by have := z.1; rw [x3 q] at this; omega⟩⟩
theorem z_154w11l (h : z_rd5 M T N) (hb : M 5 819253 0 10 = nI p) (hp : p + 4 ≤ N) : ∀ n f i (x3 : Int32), i + n = 4 → n < f → (x3 = 0 ∨ x3 = 1) → p_154w11_27 f (nI (p + 4)) x3 (nI i) M ∧ ((r_154w11_27 f (nI (p + 4)) x3 (nI i) M = 1 ∧ x3 = 1 ∧ ∀ j, i ≤ j → j < 4 → T (p + j) = Int32.ofNat ((ux_words.getD 11 []).getD j 0)) ∨ (r_154w11_27 f (nI (p + 4)) x3 (nI i) M = 0 ∧ ¬ (x3 = 1 ∧ ∀ j, i ≤ j → j < 4 → T (p + j) = Int32.ofNat ((ux_words.getD 11 []).getD j 0)))) := by
  have hN := h.1
  have h10 : ¬ (1 : Int32) = 0 := by decide
  have h01 : ¬ (0 : Int32) = 1 := by decide
  intro n
  induction n with
  | zero =>
    intro f i x3 hi hf hx
    obtain ⟨f, rfl⟩ : ∃ g, f = g + 1 := ⟨f - 1, by omega⟩
    have le : nI (p + 4) ≤ nI (p + i) := (z_le (by omega) (by omega)).mpr (by omega)
    rw [p_154w11_27, r_154w11_27, hb, z_add]
    rcases hx with rfl | rfl
    · rw [if_pos rfl]
      exact ⟨⟨fun _ => .inl rfl, fun z => absurd rfl z⟩, .inr ⟨rfl, fun z => h01 z.1⟩⟩
    · rw [if_neg h10, if_pos le]
      exact ⟨⟨fun z => absurd z h10, fun _ => ⟨fun _ => .inr rfl, fun z => absurd le z⟩⟩, .inl ⟨rfl, rfl, fun j z1 z2 => absurd z2 (by omega)⟩⟩
  | succ n ih =>
    intro f i x3 hi hf hx
    obtain ⟨f, rfl⟩ : ∃ g, f = g + 1 := ⟨f - 1, by omega⟩
    have le : ¬ nI (p + 4) ≤ nI (p + i) := fun z => by have := (z_le (by omega) (by omega)).mp z; omega
    obtain ⟨b1, b2⟩ := z_153 (i := p + i) h (by omega)
    rw [if_neg (show ¬ N ≤ p + i by omega)] at b2
    rw [p_154w11_27, r_154w11_27, hb, z_add, b2, z_cls (show i < 2000000000 by omega), z_nx]
    rcases hx with rfl | rfl
    · rw [if_pos rfl]
      exact ⟨⟨fun _ => .inl rfl, fun z => absurd rfl z⟩, .inr ⟨rfl, fun z => h01 z.1⟩⟩
    · have v2 : vp_in (nI i) 4 := vp_in_nI (by omega) (by omega)
      rw [if_neg h10, if_neg le]
      by_cases q : T (p + i) = Int32.ofNat ((ux_words.getD 11 []).getD i 0)
      · obtain ⟨i1, i2⟩ := ih f (i + 1) 1 (by omega) (by omega) (.inr rfl)
        have g : (∀ j, i ≤ j → j < 4 → T (p + j) = Int32.ofNat ((ux_words.getD 11 []).getD j 0)) ↔ ∀ j, i + 1 ≤ j → j < 4 → T (p + j) = Int32.ofNat ((ux_words.getD 11 []).getD j 0) :=
          ⟨fun z j z1 z2 => z j (by omega) z2, fun z j z1 z2 => by
            by_cases e : j = i
            · subst e; exact q
            · exact z j (by omega) z2⟩
        rw [if_pos q, g]
        exact ⟨⟨fun z => absurd z h10, fun _ => ⟨fun z => absurd z le, fun _ => ⟨b1, v2, fun z => absurd q z, fun _ => i1⟩⟩⟩, i2⟩
      · obtain ⟨i1, i2⟩ := ih f (i + 1) 0 (by omega) (by omega) (.inl rfl)
        rw [if_neg q]
        refine ⟨⟨fun z => absurd z h10, fun _ => ⟨fun z => absurd z le, fun _ => ⟨b1, v2, fun _ => i1, fun z => absurd z q⟩⟩⟩, .inr ⟨?_, fun z => q (z.2 i (Nat.le_refl _) (by omega))⟩⟩
        rcases i2 with ⟨_, z, _⟩ | ⟨i2, _⟩
        · exact absurd z h01
        · exact i2
theorem z_154w11 (h : z_rd5 M T N) (hp : p ≤ N) (hb : M 5 819253 0 10 = nI p) : p_154w11 M ∧ ((r_154w11 M = 1 ∧ z_iwd T N p 11 4) ∨ (r_154w11 M = 0 ∧ ¬ z_iwd T N p 11 4)) := by
  have hN := h.1
  obtain ⟨a1, a2⟩ := z_155 h hp hb
  obtain ⟨w1, w2, _, _⟩ := z_xn_b (P := z_xL T N) (N := N) (N - p) p (by omega)
  unfold p_154w11 r_154w11
  rw [a2, hb, z_sbn w1]
  by_cases g : z_xn (z_xL T N) N p - p = 4
  · obtain ⟨b1, b2⟩ := z_154w11l h hb (by omega) 4 ux_fuel 0 1 (by omega) (by have := z_fuel; omega) (.inr rfl)
    have e : nI (z_xn (z_xL T N) N p - p) = Int32.ofNat 4 := by rw [g]; rfl
    have e2 : z_xn (z_xL T N) N p = p + 4 := by omega
    rw [if_pos e]
    rw [← e2] at b1 b2
    refine ⟨⟨a1, fun z => absurd e z, fun _ => b1⟩, ?_⟩
    rcases b2 with ⟨b2, _, b3⟩ | ⟨b2, b3⟩
    · exact .inl ⟨b2, g, fun j hj => b3 j (by omega) hj⟩
    · exact .inr ⟨b2, fun z => b3 ⟨rfl, fun j _ hj => z.2 j hj⟩⟩
  · have e : ¬ nI (z_xn (z_xL T N) N p - p) = Int32.ofNat 4 := fun z => g ((z_eq (b := 4) (by omega) (by omega)).mp z)
    obtain ⟨f, hf⟩ : ∃ f, ux_fuel = f + 1 := ⟨ux_fuel - 1, by have := z_fuel; omega⟩
    have e1 : p_154w11_27 ux_fuel (nI (z_xn (z_xL T N) N p)) 0 0 M := by rw [hf, p_154w11_27]; exact ⟨fun _ => .inl rfl, fun z => absurd rfl z⟩
    have e2 : r_154w11_27 ux_fuel (nI (z_xn (z_xL T N) N p)) 0 0 M = 0 := by rw [hf, r_154w11_27, if_pos rfl]
    rw [if_neg e]
    exact ⟨⟨a1, fun _ => e1, fun z => absurd z e⟩, .inr ⟨e2, fun z => g z.1⟩⟩
theorem z_13w12l (h : z_rd4 M T N) (h4 : M 4 671757 0 4 = nI p) (hp : p + 5 ≤ N) : ∀ n f i, i + n = 5 → n < f → p_13w12_28 f (nI i) M ∧ ((r_13w12_28 f (nI i) M = 1 ∧ ∀ j, i ≤ j → j < 5 → T (p + j) = Int32.ofNat ((ux_words.getD 12 []).getD j 0)) ∨ (r_13w12_28 f (nI i) M = 0 ∧ ¬ ∀ j, i ≤ j → j < 5 → T (p + j) = Int32.ofNat ((ux_words.getD 12 []).getD j 0))) := by
  obtain ⟨hN, h1, h2, hT⟩ := h
  intro n
  induction n with
  | zero =>
    intro f i hi hf
    obtain ⟨f, rfl⟩ : ∃ g, f = g + 1 := ⟨f - 1, by omega⟩
    have le : Int32.ofNat 5 ≤ nI i := (z_le (a := 5) (by omega) (by omega)).mpr (by omega)
    rw [p_13w12_28, r_13w12_28, if_pos le]
    exact ⟨⟨fun _ => trivial, fun z => absurd le z⟩, .inl ⟨rfl, fun j z1 z2 => absurd z2 (by omega)⟩⟩
  | succ n ih =>
    intro f i hi hf
    obtain ⟨f, rfl⟩ : ∃ g, f = g + 1 := ⟨f - 1, by omega⟩
    have le : ¬ Int32.ofNat 5 ≤ nI i := fun z => by have := (z_le (a := 5) (by omega) (by omega)).mp z; omega
    have le8 : ¬ Int32.ofNat 800 ≤ nI (p + i) := fun z => by have := (z_le (a := 800) (by omega) (by omega)).mp z; omega
    rw [p_13w12_28, r_13w12_28, if_neg le, h4, z_add, if_neg le8, h1, z_cls (show p + i < 2000000000 by omega), z_cls (show i < 2000000000 by omega), hT (p + i) (by omega), z_nx]
    have v1 : vp_in (nI (p + i)) 800 := vp_in_nI (by omega) (by omega)
    have v2 : vp_in (nI i) 5 := vp_in_nI (by omega) (by omega)
    by_cases q : T (p + i) = Int32.ofNat ((ux_words.getD 12 []).getD i 0)
    · obtain ⟨i1, i2⟩ := ih f (i + 1) (by omega) (by omega)
      have g : (∀ j, i ≤ j → j < 5 → T (p + j) = Int32.ofNat ((ux_words.getD 12 []).getD j 0)) ↔ ∀ j, i + 1 ≤ j → j < 5 → T (p + j) = Int32.ofNat ((ux_words.getD 12 []).getD j 0) :=
        ⟨fun z j z1 z2 => z j (by omega) z2, fun z j z1 z2 => by
          by_cases e : j = i
          · subst e; exact q
          · exact z j (by omega) z2⟩
      rw [if_pos q, g]
      exact ⟨⟨fun z => absurd z le, fun _ => ⟨rfl, fun z => absurd z le8, fun _ => ⟨rfl, v1, v2, fun _ => i1, fun z => absurd q z⟩⟩⟩, i2⟩
    · rw [if_neg q]
      exact ⟨⟨fun z => absurd z le, fun _ => ⟨rfl, fun z => absurd z le8, fun _ => ⟨rfl, v1, v2, fun z => absurd z q, fun _ => trivial⟩⟩⟩, .inr ⟨rfl, fun z => q (z i (Nat.le_refl _) (by omega))⟩⟩
theorem z_13w12 (h : z_rd4 M T N) (hp : p ≤ N) (h3 : M 4 671757 0 3 = z_xp T N p) (h4 : M 4 671757 0 4 = nI p) (h5 : M 4 671757 0 5 = nI (z_xe T N p)) : p_13w12 M ∧ ((r_13w12 M = 1 ∧ z_iwd T N p 12 5) ∨ (r_13w12 M = 0 ∧ ¬ z_iwd T N p 12 5)) := by
  have hN := h.1
  obtain ⟨x1, x2, x3⟩ := z_xpe (T := T) hp
  unfold p_13w12 r_13w12
  rw [h3]
  by_cases q : z_xL T N p = true
  · obtain ⟨y1, y2⟩ := x2 q
    obtain ⟨_, w2, _, _⟩ := z_xn_b (P := z_xL T N) (N := N) (N - p) p (by omega)
    rw [h4, h5, y1, z_sbn (show p ≤ z_xn (z_xL T N) N p by omega), if_pos (x1.mpr q)]
    by_cases g : z_xn (z_xL T N) N p - p = 5
    · obtain ⟨a1, a2⟩ := z_13w12l h h4 (by omega) 5 ux_fuel 0 (by omega) (by have := z_fuel; omega)
      have e : nI (z_xn (z_xL T N) N p - p) = Int32.ofNat 5 := by rw [g]; rfl
      rw [if_pos e]
      refine ⟨⟨fun z => absurd (x1.mpr q) z, fun _ => ⟨fun _ => a1, fun z => absurd e z⟩⟩, ?_⟩
      rcases a2 with ⟨a2, a3⟩ | ⟨a2, a3⟩
      · exact .inl ⟨a2, g, fun j hj => a3 j (by omega) hj⟩
      · exact .inr ⟨a2, fun z => a3 (fun j _ hj => z.2 j hj)⟩
    · have e : ¬ nI (z_xn (z_xL T N) N p - p) = Int32.ofNat 5 := fun z => g ((z_eq (b := 5) (by omega) (by omega)).mp z)
      rw [if_neg e]
      exact ⟨⟨fun z => absurd (x1.mpr q) z, fun _ => ⟨fun z => absurd z e, fun _ => trivial⟩⟩, .inr ⟨rfl, fun z => g z.1⟩⟩
  · have n1 : ¬ z_xp T N p = 1 := fun z => q (x1.mp z)
    rw [if_neg n1]
    exact ⟨⟨fun _ => trivial, fun z => absurd z n1⟩, .inr ⟨rfl, fun z => by have := z.1; rw [x3 q] at this; omega⟩⟩
theorem z_154w12l (h : z_rd5 M T N) (hb : M 5 819253 0 10 = nI p) (hp : p + 5 ≤ N) : ∀ n f i (x3 : Int32), i + n = 5 → n < f → (x3 = 0 ∨ x3 = 1) → p_154w12_27 f (nI (p + 5)) x3 (nI i) M ∧ ((r_154w12_27 f (nI (p + 5)) x3 (nI i) M = 1 ∧ x3 = 1 ∧ ∀ j, i ≤ j → j < 5 → T (p + j) = Int32.ofNat ((ux_words.getD 12 []).getD j 0)) ∨ (r_154w12_27 f (nI (p + 5)) x3 (nI i) M = 0 ∧ ¬ (x3 = 1 ∧ ∀ j, i ≤ j → j < 5 → T (p + j) = Int32.ofNat ((ux_words.getD 12 []).getD j 0)))) := by
  have hN := h.1
  have h10 : ¬ (1 : Int32) = 0 := by decide
  have h01 : ¬ (0 : Int32) = 1 := by decide
  intro n
  induction n with
  | zero =>
    intro f i x3 hi hf hx
    obtain ⟨f, rfl⟩ : ∃ g, f = g + 1 := ⟨f - 1, by omega⟩
    have le : nI (p + 5) ≤ nI (p + i) := (z_le (by omega) (by omega)).mpr (by omega)
    rw [p_154w12_27, r_154w12_27, hb, z_add]
    rcases hx with rfl | rfl
    · rw [if_pos rfl]
      exact ⟨⟨fun _ => .inl rfl, fun z => absurd rfl z⟩, .inr ⟨rfl, fun z => h01 z.1⟩⟩
    · rw [if_neg h10, if_pos le]
      exact ⟨⟨fun z => absurd z h10, fun _ => ⟨fun _ => .inr rfl, fun z => absurd le z⟩⟩, .inl ⟨rfl, rfl, fun j z1 z2 => absurd z2 (by omega)⟩⟩
  | succ n ih =>
    intro f i x3 hi hf hx
    obtain ⟨f, rfl⟩ : ∃ g, f = g + 1 := ⟨f - 1, by omega⟩
    have le : ¬ nI (p + 5) ≤ nI (p + i) := fun z => by have := (z_le (by omega) (by omega)).mp z; omega
    obtain ⟨b1, b2⟩ := z_153 (i := p + i) h (by omega)
    rw [if_neg (show ¬ N ≤ p + i by omega)] at b2
    rw [p_154w12_27, r_154w12_27, hb, z_add, b2, z_cls (show i < 2000000000 by omega), z_nx]
    rcases hx with rfl | rfl
    · rw [if_pos rfl]
      exact ⟨⟨fun _ => .inl rfl, fun z => absurd rfl z⟩, .inr ⟨rfl, fun z => h01 z.1⟩⟩
    · have v2 : vp_in (nI i) 5 := vp_in_nI (by omega) (by omega)
      rw [if_neg h10, if_neg le]
      by_cases q : T (p + i) = Int32.ofNat ((ux_words.getD 12 []).getD i 0)
      · obtain ⟨i1, i2⟩ := ih f (i + 1) 1 (by omega) (by omega) (.inr rfl)
        have g : (∀ j, i ≤ j → j < 5 → T (p + j) = Int32.ofNat ((ux_words.getD 12 []).getD j 0)) ↔ ∀ j, i + 1 ≤ j → j < 5 → T (p + j) = Int32.ofNat ((ux_words.getD 12 []).getD j 0) :=
          ⟨fun z j z1 z2 => z j (by omega) z2, fun z j z1 z2 => by
            by_cases e : j = i
            · subst e; exact q
            · exact z j (by omega) z2⟩
        rw [if_pos q, g]
        exact ⟨⟨fun z => absurd z h10, fun _ => ⟨fun z => absurd z le, fun _ => ⟨b1, v2, fun z => absurd q z, fun _ => i1⟩⟩⟩, i2⟩
      · obtain ⟨i1, i2⟩ := ih f (i + 1) 0 (by omega) (by omega) (.inl rfl)
        rw [if_neg q]
        refine ⟨⟨fun z => absurd z h10, fun _ => ⟨fun z => absurd z le, fun _ => ⟨b1, v2, fun _ => i1, fun z => absurd z q⟩⟩⟩, .inr ⟨?_, fun z => q (z.2 i (Nat.le_refl _) (by omega))⟩⟩
        rcases i2 with ⟨_, z, _⟩ | ⟨i2, _⟩
        · exact absurd z h01
        · exact i2
theorem z_154w12 (h : z_rd5 M T N) (hp : p ≤ N) (hb : M 5 819253 0 10 = nI p) : p_154w12 M ∧ ((r_154w12 M = 1 ∧ z_iwd T N p 12 5) ∨ (r_154w12 M = 0 ∧ ¬ z_iwd T N p 12 5)) := by
  have hN := h.1
  obtain ⟨a1, a2⟩ := z_155 h hp hb
  obtain ⟨w1, w2, _, _⟩ := z_xn_b (P := z_xL T N) (N := N) (N - p) p (by omega)
  unfold p_154w12 r_154w12
  rw [a2, hb, z_sbn w1]
  by_cases g : z_xn (z_xL T N) N p - p = 5
  · obtain ⟨b1, b2⟩ := z_154w12l h hb (by omega) 5 ux_fuel 0 1 (by omega) (by have := z_fuel; omega) (.inr rfl)
    have e : nI (z_xn (z_xL T N) N p - p) = Int32.ofNat 5 := by rw [g]; rfl
    have e2 : z_xn (z_xL T N) N p = p + 5 := by omega
    rw [if_pos e]
    rw [← e2] at b1 b2
    refine ⟨⟨a1, fun z => absurd e z, fun _ => b1⟩, ?_⟩
    rcases b2 with ⟨b2, _, b3⟩ | ⟨b2, b3⟩
    · exact .inl ⟨b2, g, fun j hj => b3 j (by omega) hj⟩
    · exact .inr ⟨b2, fun z => b3 ⟨rfl, fun j _ hj => z.2 j hj⟩⟩
  · have e : ¬ nI (z_xn (z_xL T N) N p - p) = Int32.ofNat 5 := fun z => g ((z_eq (b := 5) (by omega) (by omega)).mp z)
    obtain ⟨f, hf⟩ : ∃ f, ux_fuel = f + 1 := ⟨ux_fuel - 1, by have := z_fuel; omega⟩
    have e1 : p_154w12_27 ux_fuel (nI (z_xn (z_xL T N) N p)) 0 0 M := by rw [hf, p_154w12_27]; exact ⟨fun _ => .inl rfl, fun z => absurd rfl z⟩
    have e2 : r_154w12_27 ux_fuel (nI (z_xn (z_xL T N) N p)) 0 0 M = 0 := by rw [hf, r_154w12_27, if_pos rfl]
    rw [if_neg e]
    exact ⟨⟨a1, fun _ => e1, fun z => absurd z e⟩, .inr ⟨e2, fun z => g z.1⟩⟩
theorem z_13w13l (h : z_rd4 M T N) (h4 : M 4 671757 0 4 = nI p) (hp : p + 7 ≤ N) : ∀ n f i, i + n = 7 → n < f → p_13w13_28 f (nI i) M ∧ ((r_13w13_28 f (nI i) M = 1 ∧ ∀ j, i ≤ j → j < 7 → T (p + j) = Int32.ofNat ((ux_words.getD 13 []).getD j 0)) ∨ (r_13w13_28 f (nI i) M = 0 ∧ ¬ ∀ j, i ≤ j → j < 7 → T (p + j) = Int32.ofNat ((ux_words.getD 13 []).getD j 0))) := by
  obtain ⟨hN, h1, h2, hT⟩ := h
  intro n
  induction n with
  | zero =>
    intro f i hi hf
    obtain ⟨f, rfl⟩ : ∃ g, f = g + 1 := ⟨f - 1, by omega⟩
    have le : Int32.ofNat 7 ≤ nI i := (z_le (a := 7) (by omega) (by omega)).mpr (by omega)
    rw [p_13w13_28, r_13w13_28, if_pos le]
    exact ⟨⟨fun _ => trivial, fun z => absurd le z⟩, .inl ⟨rfl, fun j z1 z2 => absurd z2 (by omega)⟩⟩
  | succ n ih =>
    intro f i hi hf
    obtain ⟨f, rfl⟩ : ∃ g, f = g + 1 := ⟨f - 1, by omega⟩
    have le : ¬ Int32.ofNat 7 ≤ nI i := fun z => by have := (z_le (a := 7) (by omega) (by omega)).mp z; omega
    have le8 : ¬ Int32.ofNat 800 ≤ nI (p + i) := fun z => by have := (z_le (a := 800) (by omega) (by omega)).mp z; omega
    rw [p_13w13_28, r_13w13_28, if_neg le, h4, z_add, if_neg le8, h1, z_cls (show p + i < 2000000000 by omega), z_cls (show i < 2000000000 by omega), hT (p + i) (by omega), z_nx]
    have v1 : vp_in (nI (p + i)) 800 := vp_in_nI (by omega) (by omega)
    have v2 : vp_in (nI i) 7 := vp_in_nI (by omega) (by omega)
    by_cases q : T (p + i) = Int32.ofNat ((ux_words.getD 13 []).getD i 0)
    · obtain ⟨i1, i2⟩ := ih f (i + 1) (by omega) (by omega)
      have g : (∀ j, i ≤ j → j < 7 → T (p + j) = Int32.ofNat ((ux_words.getD 13 []).getD j 0)) ↔ ∀ j, i + 1 ≤ j → j < 7 → T (p + j) = Int32.ofNat ((ux_words.getD 13 []).getD j 0) :=
        ⟨fun z j z1 z2 => z j (by omega) z2, fun z j z1 z2 => by
          by_cases e : j = i
          · subst e; exact q
          · exact z j (by omega) z2⟩
      rw [if_pos q, g]
      exact ⟨⟨fun z => absurd z le, fun _ => ⟨rfl, fun z => absurd z le8, fun _ => ⟨rfl, v1, v2, fun _ => i1, fun z => absurd q z⟩⟩⟩, i2⟩
    · rw [if_neg q]
      exact ⟨⟨fun z => absurd z le, fun _ => ⟨rfl, fun z => absurd z le8, fun _ => ⟨rfl, v1, v2, fun z => absurd z q, fun _ => trivial⟩⟩⟩, .inr ⟨rfl, fun z => q (z i (Nat.le_refl _) (by omega))⟩⟩
theorem z_13w13 (h : z_rd4 M T N) (hp : p ≤ N) (h3 : M 4 671757 0 3 = z_xp T N p) (h4 : M 4 671757 0 4 = nI p) (h5 : M 4 671757 0 5 = nI (z_xe T N p)) : p_13w13 M ∧ ((r_13w13 M = 1 ∧ z_iwd T N p 13 7) ∨ (r_13w13 M = 0 ∧ ¬ z_iwd T N p 13 7)) := by
  have hN := h.1
  obtain ⟨x1, x2, x3⟩ := z_xpe (T := T) hp
  unfold p_13w13 r_13w13
  rw [h3]
  by_cases q : z_xL T N p = true
  · obtain ⟨y1, y2⟩ := x2 q
    obtain ⟨_, w2, _, _⟩ := z_xn_b (P := z_xL T N) (N := N) (N - p) p (by omega)
    rw [h4, h5, y1, z_sbn (show p ≤ z_xn (z_xL T N) N p by omega), if_pos (x1.mpr q)]
    by_cases g : z_xn (z_xL T N) N p - p = 7
    · obtain ⟨a1, a2⟩ := z_13w13l h h4 (by omega) 7 ux_fuel 0 (by omega) (by have := z_fuel; omega)
      have e : nI (z_xn (z_xL T N) N p - p) = Int32.ofNat 7 := by rw [g]; rfl
      rw [if_pos e]
      refine ⟨⟨fun z => absurd (x1.mpr q) z, fun _ => ⟨fun _ => a1, fun z => absurd e z⟩⟩, ?_⟩
      rcases a2 with ⟨a2, a3⟩ | ⟨a2, a3⟩
      · exact .inl ⟨a2, g, fun j hj => a3 j (by omega) hj⟩
      · exact .inr ⟨a2, fun z => a3 (fun j _ hj => z.2 j hj)⟩
    · have e : ¬ nI (z_xn (z_xL T N) N p - p) = Int32.ofNat 7 := fun z => g ((z_eq (b := 7) (by omega) (by omega)).mp z)
      rw [if_neg e]
      exact ⟨⟨fun z => absurd (x1.mpr q) z, fun _ => ⟨fun z => absurd z e, fun _ => trivial⟩⟩, .inr ⟨rfl, fun z => g z.1⟩⟩
  · have n1 : ¬ z_xp T N p = 1 := fun z => q (x1.mp z)
    rw [if_neg n1]
    exact ⟨⟨fun _ => trivial, fun z => absurd z n1⟩, .inr ⟨rfl, fun z => by have := z.1; rw [x3 q] at this; omega⟩⟩
theorem z_154w13l (h : z_rd5 M T N) (hb : M 5 819253 0 10 = nI p) (hp : p + 7 ≤ N) : ∀ n f i (x3 : Int32), i + n = 7 → n < f → (x3 = 0 ∨ x3 = 1) → p_154w13_27 f (nI (p + 7)) x3 (nI i) M ∧ ((r_154w13_27 f (nI (p + 7)) x3 (nI i) M = 1 ∧ x3 = 1 ∧ ∀ j, i ≤ j → j < 7 → T (p + j) = Int32.ofNat ((ux_words.getD 13 []).getD j 0)) ∨ (r_154w13_27 f (nI (p + 7)) x3 (nI i) M = 0 ∧ ¬ (x3 = 1 ∧ ∀ j, i ≤ j → j < 7 → T (p + j) = Int32.ofNat ((ux_words.getD 13 []).getD j 0)))) := by
  have hN := h.1
  have h10 : ¬ (1 : Int32) = 0 := by decide
  have h01 : ¬ (0 : Int32) = 1 := by decide
  intro n
  induction n with
  | zero =>
    intro f i x3 hi hf hx
    obtain ⟨f, rfl⟩ : ∃ g, f = g + 1 := ⟨f - 1, by omega⟩
    have le : nI (p + 7) ≤ nI (p + i) := (z_le (by omega) (by omega)).mpr (by omega)
    rw [p_154w13_27, r_154w13_27, hb, z_add]
    rcases hx with rfl | rfl
    · rw [if_pos rfl]
      exact ⟨⟨fun _ => .inl rfl, fun z => absurd rfl z⟩, .inr ⟨rfl, fun z => h01 z.1⟩⟩
    · rw [if_neg h10, if_pos le]
      exact ⟨⟨fun z => absurd z h10, fun _ => ⟨fun _ => .inr rfl, fun z => absurd le z⟩⟩, .inl ⟨rfl, rfl, fun j z1 z2 => absurd z2 (by omega)⟩⟩
  | succ n ih =>
    intro f i x3 hi hf hx
    obtain ⟨f, rfl⟩ : ∃ g, f = g + 1 := ⟨f - 1, by omega⟩
    have le : ¬ nI (p + 7) ≤ nI (p + i) := fun z => by have := (z_le (by omega) (by omega)).mp z; omega
    obtain ⟨b1, b2⟩ := z_153 (i := p + i) h (by omega)
    rw [if_neg (show ¬ N ≤ p + i by omega)] at b2
    rw [p_154w13_27, r_154w13_27, hb, z_add, b2, z_cls (show i < 2000000000 by omega), z_nx]
    rcases hx with rfl | rfl
    · rw [if_pos rfl]
      exact ⟨⟨fun _ => .inl rfl, fun z => absurd rfl z⟩, .inr ⟨rfl, fun z => h01 z.1⟩⟩
    · have v2 : vp_in (nI i) 7 := vp_in_nI (by omega) (by omega)
      rw [if_neg h10, if_neg le]
      by_cases q : T (p + i) = Int32.ofNat ((ux_words.getD 13 []).getD i 0)
      · obtain ⟨i1, i2⟩ := ih f (i + 1) 1 (by omega) (by omega) (.inr rfl)
        have g : (∀ j, i ≤ j → j < 7 → T (p + j) = Int32.ofNat ((ux_words.getD 13 []).getD j 0)) ↔ ∀ j, i + 1 ≤ j → j < 7 → T (p + j) = Int32.ofNat ((ux_words.getD 13 []).getD j 0) :=
          ⟨fun z j z1 z2 => z j (by omega) z2, fun z j z1 z2 => by
            by_cases e : j = i
            · subst e; exact q
            · exact z j (by omega) z2⟩
        rw [if_pos q, g]
        exact ⟨⟨fun z => absurd z h10, fun _ => ⟨fun z => absurd z le, fun _ => ⟨b1, v2, fun z => absurd q z, fun _ => i1⟩⟩⟩, i2⟩
      · obtain ⟨i1, i2⟩ := ih f (i + 1) 0 (by omega) (by omega) (.inl rfl)
        rw [if_neg q]
        refine ⟨⟨fun z => absurd z h10, fun _ => ⟨fun z => absurd z le, fun _ => ⟨b1, v2, fun _ => i1, fun z => absurd z q⟩⟩⟩, .inr ⟨?_, fun z => q (z.2 i (Nat.le_refl _) (by omega))⟩⟩
        rcases i2 with ⟨_, z, _⟩ | ⟨i2, _⟩
        · exact absurd z h01
        · exact i2
theorem z_154w13 (h : z_rd5 M T N) (hp : p ≤ N) (hb : M 5 819253 0 10 = nI p) : p_154w13 M ∧ ((r_154w13 M = 1 ∧ z_iwd T N p 13 7) ∨ (r_154w13 M = 0 ∧ ¬ z_iwd T N p 13 7)) := by
  have hN := h.1
  obtain ⟨a1, a2⟩ := z_155 h hp hb
  obtain ⟨w1, w2, _, _⟩ := z_xn_b (P := z_xL T N) (N := N) (N - p) p (by omega)
  unfold p_154w13 r_154w13
  rw [a2, hb, z_sbn w1]
  by_cases g : z_xn (z_xL T N) N p - p = 7
  · obtain ⟨b1, b2⟩ := z_154w13l h hb (by omega) 7 ux_fuel 0 1 (by omega) (by have := z_fuel; omega) (.inr rfl)
    have e : nI (z_xn (z_xL T N) N p - p) = Int32.ofNat 7 := by rw [g]; rfl
    have e2 : z_xn (z_xL T N) N p = p + 7 := by omega
    rw [if_pos e]
    rw [← e2] at b1 b2
    refine ⟨⟨a1, fun z => absurd e z, fun _ => b1⟩, ?_⟩
    rcases b2 with ⟨b2, _, b3⟩ | ⟨b2, b3⟩
    · exact .inl ⟨b2, g, fun j hj => b3 j (by omega) hj⟩
    · exact .inr ⟨b2, fun z => b3 ⟨rfl, fun j _ hj => z.2 j hj⟩⟩
  · have e : ¬ nI (z_xn (z_xL T N) N p - p) = Int32.ofNat 7 := fun z => g ((z_eq (b := 7) (by omega) (by omega)).mp z)
    obtain ⟨f, hf⟩ : ∃ f, ux_fuel = f + 1 := ⟨ux_fuel - 1, by have := z_fuel; omega⟩
    have e1 : p_154w13_27 ux_fuel (nI (z_xn (z_xL T N) N p)) 0 0 M := by rw [hf, p_154w13_27]; exact ⟨fun _ => .inl rfl, fun z => absurd rfl z⟩
    have e2 : r_154w13_27 ux_fuel (nI (z_xn (z_xL T N) N p)) 0 0 M = 0 := by rw [hf, r_154w13_27, if_pos rfl]
    rw [if_neg e]
    exact ⟨⟨a1, fun _ => e1, fun z => absurd z e⟩, .inr ⟨e2, fun z => g z.1⟩⟩
theorem z_13w14l (h : z_rd4 M T N) (h4 : M 4 671757 0 4 = nI p) (hp : p + 6 ≤ N) : ∀ n f i, i + n = 6 → n < f → p_13w14_28 f (nI i) M ∧ ((r_13w14_28 f (nI i) M = 1 ∧ ∀ j, i ≤ j → j < 6 → T (p + j) = Int32.ofNat ((ux_words.getD 14 []).getD j 0)) ∨ (r_13w14_28 f (nI i) M = 0 ∧ ¬ ∀ j, i ≤ j → j < 6 → T (p + j) = Int32.ofNat ((ux_words.getD 14 []).getD j 0))) := by
  obtain ⟨hN, h1, h2, hT⟩ := h
  intro n
  induction n with
  | zero =>
    intro f i hi hf
    obtain ⟨f, rfl⟩ : ∃ g, f = g + 1 := ⟨f - 1, by omega⟩
    have le : Int32.ofNat 6 ≤ nI i := (z_le (a := 6) (by omega) (by omega)).mpr (by omega)
    rw [p_13w14_28, r_13w14_28, if_pos le]
    exact ⟨⟨fun _ => trivial, fun z => absurd le z⟩, .inl ⟨rfl, fun j z1 z2 => absurd z2 (by omega)⟩⟩
  | succ n ih =>
    intro f i hi hf
    obtain ⟨f, rfl⟩ : ∃ g, f = g + 1 := ⟨f - 1, by omega⟩
    have le : ¬ Int32.ofNat 6 ≤ nI i := fun z => by have := (z_le (a := 6) (by omega) (by omega)).mp z; omega
    have le8 : ¬ Int32.ofNat 800 ≤ nI (p + i) := fun z => by have := (z_le (a := 800) (by omega) (by omega)).mp z; omega
    rw [p_13w14_28, r_13w14_28, if_neg le, h4, z_add, if_neg le8, h1, z_cls (show p + i < 2000000000 by omega), z_cls (show i < 2000000000 by omega), hT (p + i) (by omega), z_nx]
    have v1 : vp_in (nI (p + i)) 800 := vp_in_nI (by omega) (by omega)
    have v2 : vp_in (nI i) 6 := vp_in_nI (by omega) (by omega)
    by_cases q : T (p + i) = Int32.ofNat ((ux_words.getD 14 []).getD i 0)
    · obtain ⟨i1, i2⟩ := ih f (i + 1) (by omega) (by omega)
      have g : (∀ j, i ≤ j → j < 6 → T (p + j) = Int32.ofNat ((ux_words.getD 14 []).getD j 0)) ↔ ∀ j, i + 1 ≤ j → j < 6 → T (p + j) = Int32.ofNat ((ux_words.getD 14 []).getD j 0) :=
        ⟨fun z j z1 z2 => z j (by omega) z2, fun z j z1 z2 => by
          by_cases e : j = i
          · subst e; exact q
          · exact z j (by omega) z2⟩
      rw [if_pos q, g]
      exact ⟨⟨fun z => absurd z le, fun _ => ⟨rfl, fun z => absurd z le8, fun _ => ⟨rfl, v1, v2, fun _ => i1, fun z => absurd q z⟩⟩⟩, i2⟩
    · rw [if_neg q]
      exact ⟨⟨fun z => absurd z le, fun _ => ⟨rfl, fun z => absurd z le8, fun _ => ⟨rfl, v1, v2, fun z => absurd z q, fun _ => trivial⟩⟩⟩, .inr ⟨rfl, fun z => q (z i (Nat.le_refl _) (by omega))⟩⟩
theorem z_13w14 (h : z_rd4 M T N) (hp : p ≤ N) (h3 : M 4 671757 0 3 = z_xp T N p) (h4 : M 4 671757 0 4 = nI p) (h5 : M 4 671757 0 5 = nI (z_xe T N p)) : p_13w14 M ∧ ((r_13w14 M = 1 ∧ z_iwd T N p 14 6) ∨ (r_13w14 M = 0 ∧ ¬ z_iwd T N p 14 6)) := by
  have hN := h.1
  obtain ⟨x1, x2, x3⟩ := z_xpe (T := T) hp
  unfold p_13w14 r_13w14
  rw [h3]
  by_cases q : z_xL T N p = true
  · obtain ⟨y1, y2⟩ := x2 q
    obtain ⟨_, w2, _, _⟩ := z_xn_b (P := z_xL T N) (N := N) (N - p) p (by omega)
    rw [h4, h5, y1, z_sbn (show p ≤ z_xn (z_xL T N) N p by omega), if_pos (x1.mpr q)]
    by_cases g : z_xn (z_xL T N) N p - p = 6
    · obtain ⟨a1, a2⟩ := z_13w14l h h4 (by omega) 6 ux_fuel 0 (by omega) (by have := z_fuel; omega)
      have e : nI (z_xn (z_xL T N) N p - p) = Int32.ofNat 6 := by rw [g]; rfl
      rw [if_pos e]
      refine ⟨⟨fun z => absurd (x1.mpr q) z, fun _ => ⟨fun _ => a1, fun z => absurd e z⟩⟩, ?_⟩
      rcases a2 with ⟨a2, a3⟩ | ⟨a2, a3⟩
      · exact .inl ⟨a2, g, fun j hj => a3 j (by omega) hj⟩
      · exact .inr ⟨a2, fun z => a3 (fun j _ hj => z.2 j hj)⟩
    · have e : ¬ nI (z_xn (z_xL T N) N p - p) = Int32.ofNat 6 := fun z => g ((z_eq (b := 6) (by omega) (by omega)).mp z)
      rw [if_neg e]
      exact ⟨⟨fun z => absurd (x1.mpr q) z, fun _ => ⟨fun z => absurd z e, fun _ => trivial⟩⟩, .inr ⟨rfl, fun z => g z.1⟩⟩
  · have n1 : ¬ z_xp T N p = 1 := fun z => q (x1.mp z)
    rw [if_neg n1]
    exact ⟨⟨fun _ => trivial, fun z => absurd z n1⟩, .inr ⟨rfl, fun z => by have := z.1; rw [x3 q] at this; omega⟩⟩
theorem z_154w14l (h : z_rd5 M T N) (hb : M 5 819253 0 10 = nI p) (hp : p + 6 ≤ N) : ∀ n f i (x3 : Int32), i + n = 6 → n < f → (x3 = 0 ∨ x3 = 1) → p_154w14_27 f (nI (p + 6)) x3 (nI i) M ∧ ((r_154w14_27 f (nI (p + 6)) x3 (nI i) M = 1 ∧ x3 = 1 ∧ ∀ j, i ≤ j → j < 6 → T (p + j) = Int32.ofNat ((ux_words.getD 14 []).getD j 0)) ∨ (r_154w14_27 f (nI (p + 6)) x3 (nI i) M = 0 ∧ ¬ (x3 = 1 ∧ ∀ j, i ≤ j → j < 6 → T (p + j) = Int32.ofNat ((ux_words.getD 14 []).getD j 0)))) := by
  have hN := h.1
  have h10 : ¬ (1 : Int32) = 0 := by decide
  have h01 : ¬ (0 : Int32) = 1 := by decide
  intro n
  induction n with
  | zero =>
    intro f i x3 hi hf hx
    obtain ⟨f, rfl⟩ : ∃ g, f = g + 1 := ⟨f - 1, by omega⟩
    have le : nI (p + 6) ≤ nI (p + i) := (z_le (by omega) (by omega)).mpr (by omega)
    rw [p_154w14_27, r_154w14_27, hb, z_add]
    rcases hx with rfl | rfl
    · rw [if_pos rfl]
      exact ⟨⟨fun _ => .inl rfl, fun z => absurd rfl z⟩, .inr ⟨rfl, fun z => h01 z.1⟩⟩
    · rw [if_neg h10, if_pos le]
      exact ⟨⟨fun z => absurd z h10, fun _ => ⟨fun _ => .inr rfl, fun z => absurd le z⟩⟩, .inl ⟨rfl, rfl, fun j z1 z2 => absurd z2 (by omega)⟩⟩
  | succ n ih =>
    intro f i x3 hi hf hx
    obtain ⟨f, rfl⟩ : ∃ g, f = g + 1 := ⟨f - 1, by omega⟩
    have le : ¬ nI (p + 6) ≤ nI (p + i) := fun z => by have := (z_le (by omega) (by omega)).mp z; omega
    obtain ⟨b1, b2⟩ := z_153 (i := p + i) h (by omega)
    rw [if_neg (show ¬ N ≤ p + i by omega)] at b2
    rw [p_154w14_27, r_154w14_27, hb, z_add, b2, z_cls (show i < 2000000000 by omega), z_nx]
    rcases hx with rfl | rfl
    · rw [if_pos rfl]
      exact ⟨⟨fun _ => .inl rfl, fun z => absurd rfl z⟩, .inr ⟨rfl, fun z => h01 z.1⟩⟩
    · have v2 : vp_in (nI i) 6 := vp_in_nI (by omega) (by omega)
      rw [if_neg h10, if_neg le]
      by_cases q : T (p + i) = Int32.ofNat ((ux_words.getD 14 []).getD i 0)
      · obtain ⟨i1, i2⟩ := ih f (i + 1) 1 (by omega) (by omega) (.inr rfl)
        have g : (∀ j, i ≤ j → j < 6 → T (p + j) = Int32.ofNat ((ux_words.getD 14 []).getD j 0)) ↔ ∀ j, i + 1 ≤ j → j < 6 → T (p + j) = Int32.ofNat ((ux_words.getD 14 []).getD j 0) :=
          ⟨fun z j z1 z2 => z j (by omega) z2, fun z j z1 z2 => by
            by_cases e : j = i
            · subst e; exact q
            · exact z j (by omega) z2⟩
        rw [if_pos q, g]
        exact ⟨⟨fun z => absurd z h10, fun _ => ⟨fun z => absurd z le, fun _ => ⟨b1, v2, fun z => absurd q z, fun _ => i1⟩⟩⟩, i2⟩
      · obtain ⟨i1, i2⟩ := ih f (i + 1) 0 (by omega) (by omega) (.inl rfl)
        rw [if_neg q]
        refine ⟨⟨fun z => absurd z h10, fun _ => ⟨fun z => absurd z le, fun _ => ⟨b1, v2, fun _ => i1, fun z => absurd z q⟩⟩⟩, .inr ⟨?_, fun z => q (z.2 i (Nat.le_refl _) (by omega))⟩⟩
        rcases i2 with ⟨_, z, _⟩ | ⟨i2, _⟩
        · exact absurd z h01
        · exact i2
theorem z_154w14 (h : z_rd5 M T N) (hp : p ≤ N) (hb : M 5 819253 0 10 = nI p) : p_154w14 M ∧ ((r_154w14 M = 1 ∧ z_iwd T N p 14 6) ∨ (r_154w14 M = 0 ∧ ¬ z_iwd T N p 14 6)) := by
  have hN := h.1
  obtain ⟨a1, a2⟩ := z_155 h hp hb
  obtain ⟨w1, w2, _, _⟩ := z_xn_b (P := z_xL T N) (N := N) (N - p) p (by omega)
  unfold p_154w14 r_154w14
  rw [a2, hb, z_sbn w1]
  by_cases g : z_xn (z_xL T N) N p - p = 6
  · obtain ⟨b1, b2⟩ := z_154w14l h hb (by omega) 6 ux_fuel 0 1 (by omega) (by have := z_fuel; omega) (.inr rfl)
    have e : nI (z_xn (z_xL T N) N p - p) = Int32.ofNat 6 := by rw [g]; rfl
    have e2 : z_xn (z_xL T N) N p = p + 6 := by omega
    rw [if_pos e]
    rw [← e2] at b1 b2
    refine ⟨⟨a1, fun z => absurd e z, fun _ => b1⟩, ?_⟩
    rcases b2 with ⟨b2, _, b3⟩ | ⟨b2, b3⟩
    · exact .inl ⟨b2, g, fun j hj => b3 j (by omega) hj⟩
    · exact .inr ⟨b2, fun z => b3 ⟨rfl, fun j _ hj => z.2 j hj⟩⟩
  · have e : ¬ nI (z_xn (z_xL T N) N p - p) = Int32.ofNat 6 := fun z => g ((z_eq (b := 6) (by omega) (by omega)).mp z)
    obtain ⟨f, hf⟩ : ∃ f, ux_fuel = f + 1 := ⟨ux_fuel - 1, by have := z_fuel; omega⟩
    have e1 : p_154w14_27 ux_fuel (nI (z_xn (z_xL T N) N p)) 0 0 M := by rw [hf, p_154w14_27]; exact ⟨fun _ => .inl rfl, fun z => absurd rfl z⟩
    have e2 : r_154w14_27 ux_fuel (nI (z_xn (z_xL T N) N p)) 0 0 M = 0 := by rw [hf, r_154w14_27, if_pos rfl]
    rw [if_neg e]
    exact ⟨⟨a1, fun _ => e1, fun z => absurd z e⟩, .inr ⟨e2, fun z => g z.1⟩⟩
theorem z_13w15l (h : z_rd4 M T N) (h4 : M 4 671757 0 4 = nI p) (hp : p + 8 ≤ N) : ∀ n f i, i + n = 8 → n < f → p_13w15_28 f (nI i) M ∧ ((r_13w15_28 f (nI i) M = 1 ∧ ∀ j, i ≤ j → j < 8 → T (p + j) = Int32.ofNat ((ux_words.getD 15 []).getD j 0)) ∨ (r_13w15_28 f (nI i) M = 0 ∧ ¬ ∀ j, i ≤ j → j < 8 → T (p + j) = Int32.ofNat ((ux_words.getD 15 []).getD j 0))) := by
  obtain ⟨hN, h1, h2, hT⟩ := h
  intro n
  induction n with
  | zero =>
    intro f i hi hf
    obtain ⟨f, rfl⟩ : ∃ g, f = g + 1 := ⟨f - 1, by omega⟩
    have le : Int32.ofNat 8 ≤ nI i := (z_le (a := 8) (by omega) (by omega)).mpr (by omega)
    rw [p_13w15_28, r_13w15_28, if_pos le]
    exact ⟨⟨fun _ => trivial, fun z => absurd le z⟩, .inl ⟨rfl, fun j z1 z2 => absurd z2 (by omega)⟩⟩
  | succ n ih =>
    intro f i hi hf
    obtain ⟨f, rfl⟩ : ∃ g, f = g + 1 := ⟨f - 1, by omega⟩
    have le : ¬ Int32.ofNat 8 ≤ nI i := fun z => by have := (z_le (a := 8) (by omega) (by omega)).mp z; omega
    have le8 : ¬ Int32.ofNat 800 ≤ nI (p + i) := fun z => by have := (z_le (a := 800) (by omega) (by omega)).mp z; omega
    rw [p_13w15_28, r_13w15_28, if_neg le, h4, z_add, if_neg le8, h1, z_cls (show p + i < 2000000000 by omega), z_cls (show i < 2000000000 by omega), hT (p + i) (by omega), z_nx]
    have v1 : vp_in (nI (p + i)) 800 := vp_in_nI (by omega) (by omega)
    have v2 : vp_in (nI i) 8 := vp_in_nI (by omega) (by omega)
    by_cases q : T (p + i) = Int32.ofNat ((ux_words.getD 15 []).getD i 0)
    · obtain ⟨i1, i2⟩ := ih f (i + 1) (by omega) (by omega)
      have g : (∀ j, i ≤ j → j < 8 → T (p + j) = Int32.ofNat ((ux_words.getD 15 []).getD j 0)) ↔ ∀ j, i + 1 ≤ j → j < 8 → T (p + j) = Int32.ofNat ((ux_words.getD 15 []).getD j 0) :=
        ⟨fun z j z1 z2 => z j (by omega) z2, fun z j z1 z2 => by
          by_cases e : j = i
          · subst e; exact q
          · exact z j (by omega) z2⟩
      rw [if_pos q, g]
      exact ⟨⟨fun z => absurd z le, fun _ => ⟨rfl, fun z => absurd z le8, fun _ => ⟨rfl, v1, v2, fun _ => i1, fun z => absurd q z⟩⟩⟩, i2⟩
    · rw [if_neg q]
      exact ⟨⟨fun z => absurd z le, fun _ => ⟨rfl, fun z => absurd z le8, fun _ => ⟨rfl, v1, v2, fun z => absurd z q, fun _ => trivial⟩⟩⟩, .inr ⟨rfl, fun z => q (z i (Nat.le_refl _) (by omega))⟩⟩
theorem z_13w15 (h : z_rd4 M T N) (hp : p ≤ N) (h3 : M 4 671757 0 3 = z_xp T N p) (h4 : M 4 671757 0 4 = nI p) (h5 : M 4 671757 0 5 = nI (z_xe T N p)) : p_13w15 M ∧ ((r_13w15 M = 1 ∧ z_iwd T N p 15 8) ∨ (r_13w15 M = 0 ∧ ¬ z_iwd T N p 15 8)) := by
  have hN := h.1
  obtain ⟨x1, x2, x3⟩ := z_xpe (T := T) hp
  unfold p_13w15 r_13w15
  rw [h3]
  by_cases q : z_xL T N p = true
  · obtain ⟨y1, y2⟩ := x2 q
    obtain ⟨_, w2, _, _⟩ := z_xn_b (P := z_xL T N) (N := N) (N - p) p (by omega)
    rw [h4, h5, y1, z_sbn (show p ≤ z_xn (z_xL T N) N p by omega), if_pos (x1.mpr q)]
    by_cases g : z_xn (z_xL T N) N p - p = 8
    · obtain ⟨a1, a2⟩ := z_13w15l h h4 (by omega) 8 ux_fuel 0 (by omega) (by have := z_fuel; omega)
      have e : nI (z_xn (z_xL T N) N p - p) = Int32.ofNat 8 := by rw [g]; rfl
      rw [if_pos e]
      refine ⟨⟨fun z => absurd (x1.mpr q) z, fun _ => ⟨fun _ => a1, fun z => absurd e z⟩⟩, ?_⟩
      rcases a2 with ⟨a2, a3⟩ | ⟨a2, a3⟩
      · exact .inl ⟨a2, g, fun j hj => a3 j (by omega) hj⟩
      · exact .inr ⟨a2, fun z => a3 (fun j _ hj => z.2 j hj)⟩
    · have e : ¬ nI (z_xn (z_xL T N) N p - p) = Int32.ofNat 8 := fun z => g ((z_eq (b := 8) (by omega) (by omega)).mp z)
      rw [if_neg e]
      exact ⟨⟨fun z => absurd (x1.mpr q) z, fun _ => ⟨fun z => absurd z e, fun _ => trivial⟩⟩, .inr ⟨rfl, fun z => g z.1⟩⟩
  · have n1 : ¬ z_xp T N p = 1 := fun z => q (x1.mp z)
    rw [if_neg n1]
    exact ⟨⟨fun _ => trivial, fun z => absurd z n1⟩, .inr ⟨rfl, fun z => by have := z.1; rw [x3 q] at this; omega⟩⟩
theorem z_154w15l (h : z_rd5 M T N) (hb : M 5 819253 0 10 = nI p) (hp : p + 8 ≤ N) : ∀ n f i (x3 : Int32), i + n = 8 → n < f → (x3 = 0 ∨ x3 = 1) → p_154w15_27 f (nI (p + 8)) x3 (nI i) M ∧ ((r_154w15_27 f (nI (p + 8)) x3 (nI i) M = 1 ∧ x3 = 1 ∧ ∀ j, i ≤ j → j < 8 → T (p + j) = Int32.ofNat ((ux_words.getD 15 []).getD j 0)) ∨ (r_154w15_27 f (nI (p + 8)) x3 (nI i) M = 0 ∧ ¬ (x3 = 1 ∧ ∀ j, i ≤ j → j < 8 → T (p + j) = Int32.ofNat ((ux_words.getD 15 []).getD j 0)))) := by
  have hN := h.1
  have h10 : ¬ (1 : Int32) = 0 := by decide
  have h01 : ¬ (0 : Int32) = 1 := by decide
  intro n
  induction n with
  | zero =>
    intro f i x3 hi hf hx
    obtain ⟨f, rfl⟩ : ∃ g, f = g + 1 := ⟨f - 1, by omega⟩
    have le : nI (p + 8) ≤ nI (p + i) := (z_le (by omega) (by omega)).mpr (by omega)
    rw [p_154w15_27, r_154w15_27, hb, z_add]
    rcases hx with rfl | rfl
    · rw [if_pos rfl]
      exact ⟨⟨fun _ => .inl rfl, fun z => absurd rfl z⟩, .inr ⟨rfl, fun z => h01 z.1⟩⟩
    · rw [if_neg h10, if_pos le]
      exact ⟨⟨fun z => absurd z h10, fun _ => ⟨fun _ => .inr rfl, fun z => absurd le z⟩⟩, .inl ⟨rfl, rfl, fun j z1 z2 => absurd z2 (by omega)⟩⟩
  | succ n ih =>
    intro f i x3 hi hf hx
    obtain ⟨f, rfl⟩ : ∃ g, f = g + 1 := ⟨f - 1, by omega⟩
    have le : ¬ nI (p + 8) ≤ nI (p + i) := fun z => by have := (z_le (by omega) (by omega)).mp z; omega
    obtain ⟨b1, b2⟩ := z_153 (i := p + i) h (by omega)
    rw [if_neg (show ¬ N ≤ p + i by omega)] at b2
    rw [p_154w15_27, r_154w15_27, hb, z_add, b2, z_cls (show i < 2000000000 by omega), z_nx]
    rcases hx with rfl | rfl
    · rw [if_pos rfl]
      exact ⟨⟨fun _ => .inl rfl, fun z => absurd rfl z⟩, .inr ⟨rfl, fun z => h01 z.1⟩⟩
    · have v2 : vp_in (nI i) 8 := vp_in_nI (by omega) (by omega)
      rw [if_neg h10, if_neg le]
      by_cases q : T (p + i) = Int32.ofNat ((ux_words.getD 15 []).getD i 0)
      · obtain ⟨i1, i2⟩ := ih f (i + 1) 1 (by omega) (by omega) (.inr rfl)
        have g : (∀ j, i ≤ j → j < 8 → T (p + j) = Int32.ofNat ((ux_words.getD 15 []).getD j 0)) ↔ ∀ j, i + 1 ≤ j → j < 8 → T (p + j) = Int32.ofNat ((ux_words.getD 15 []).getD j 0) :=
          ⟨fun z j z1 z2 => z j (by omega) z2, fun z j z1 z2 => by
            by_cases e : j = i
            · subst e; exact q
            · exact z j (by omega) z2⟩
        rw [if_pos q, g]
        exact ⟨⟨fun z => absurd z h10, fun _ => ⟨fun z => absurd z le, fun _ => ⟨b1, v2, fun z => absurd q z, fun _ => i1⟩⟩⟩, i2⟩
      · obtain ⟨i1, i2⟩ := ih f (i + 1) 0 (by omega) (by omega) (.inl rfl)
        rw [if_neg q]
        refine ⟨⟨fun z => absurd z h10, fun _ => ⟨fun z => absurd z le, fun _ => ⟨b1, v2, fun _ => i1, fun z => absurd z q⟩⟩⟩, .inr ⟨?_, fun z => q (z.2 i (Nat.le_refl _) (by omega))⟩⟩
        rcases i2 with ⟨_, z, _⟩ | ⟨i2, _⟩
        · exact absurd z h01
        · exact i2
theorem z_154w15 (h : z_rd5 M T N) (hp : p ≤ N) (hb : M 5 819253 0 10 = nI p) : p_154w15 M ∧ ((r_154w15 M = 1 ∧ z_iwd T N p 15 8) ∨ (r_154w15 M = 0 ∧ ¬ z_iwd T N p 15 8)) := by
  have hN := h.1
  obtain ⟨a1, a2⟩ := z_155 h hp hb
  obtain ⟨w1, w2, _, _⟩ := z_xn_b (P := z_xL T N) (N := N) (N - p) p (by omega)
  unfold p_154w15 r_154w15
  rw [a2, hb, z_sbn w1]
  by_cases g : z_xn (z_xL T N) N p - p = 8
  · obtain ⟨b1, b2⟩ := z_154w15l h hb (by omega) 8 ux_fuel 0 1 (by omega) (by have := z_fuel; omega) (.inr rfl)
    have e : nI (z_xn (z_xL T N) N p - p) = Int32.ofNat 8 := by rw [g]; rfl
    have e2 : z_xn (z_xL T N) N p = p + 8 := by omega
    rw [if_pos e]
    rw [← e2] at b1 b2
    refine ⟨⟨a1, fun z => absurd e z, fun _ => b1⟩, ?_⟩
    rcases b2 with ⟨b2, _, b3⟩ | ⟨b2, b3⟩
    · exact .inl ⟨b2, g, fun j hj => b3 j (by omega) hj⟩
    · exact .inr ⟨b2, fun z => b3 ⟨rfl, fun j _ hj => z.2 j hj⟩⟩
  · have e : ¬ nI (z_xn (z_xL T N) N p - p) = Int32.ofNat 8 := fun z => g ((z_eq (b := 8) (by omega) (by omega)).mp z)
    obtain ⟨f, hf⟩ : ∃ f, ux_fuel = f + 1 := ⟨ux_fuel - 1, by have := z_fuel; omega⟩
    have e1 : p_154w15_27 ux_fuel (nI (z_xn (z_xL T N) N p)) 0 0 M := by rw [hf, p_154w15_27]; exact ⟨fun _ => .inl rfl, fun z => absurd rfl z⟩
    have e2 : r_154w15_27 ux_fuel (nI (z_xn (z_xL T N) N p)) 0 0 M = 0 := by rw [hf, r_154w15_27, if_pos rfl]
    rw [if_neg e]
    exact ⟨⟨a1, fun _ => e1, fun z => absurd z e⟩, .inr ⟨e2, fun z => g z.1⟩⟩
theorem z_13w16l (h : z_rd4 M T N) (h4 : M 4 671757 0 4 = nI p) (hp : p + 5 ≤ N) : ∀ n f i, i + n = 5 → n < f → p_13w16_28 f (nI i) M ∧ ((r_13w16_28 f (nI i) M = 1 ∧ ∀ j, i ≤ j → j < 5 → T (p + j) = Int32.ofNat ((ux_words.getD 16 []).getD j 0)) ∨ (r_13w16_28 f (nI i) M = 0 ∧ ¬ ∀ j, i ≤ j → j < 5 → T (p + j) = Int32.ofNat ((ux_words.getD 16 []).getD j 0))) := by
  obtain ⟨hN, h1, h2, hT⟩ := h
  intro n
  induction n with
  | zero =>
    intro f i hi hf
    obtain ⟨f, rfl⟩ : ∃ g, f = g + 1 := ⟨f - 1, by omega⟩
    have le : Int32.ofNat 5 ≤ nI i := (z_le (a := 5) (by omega) (by omega)).mpr (by omega)
    rw [p_13w16_28, r_13w16_28, if_pos le]
    exact ⟨⟨fun _ => trivial, fun z => absurd le z⟩, .inl ⟨rfl, fun j z1 z2 => absurd z2 (by omega)⟩⟩
  | succ n ih =>
    intro f i hi hf
    obtain ⟨f, rfl⟩ : ∃ g, f = g + 1 := ⟨f - 1, by omega⟩
    have le : ¬ Int32.ofNat 5 ≤ nI i := fun z => by have := (z_le (a := 5) (by omega) (by omega)).mp z; omega
    have le8 : ¬ Int32.ofNat 800 ≤ nI (p + i) := fun z => by have := (z_le (a := 800) (by omega) (by omega)).mp z; omega
    rw [p_13w16_28, r_13w16_28, if_neg le, h4, z_add, if_neg le8, h1, z_cls (show p + i < 2000000000 by omega), z_cls (show i < 2000000000 by omega), hT (p + i) (by omega), z_nx]
    have v1 : vp_in (nI (p + i)) 800 := vp_in_nI (by omega) (by omega)
    have v2 : vp_in (nI i) 5 := vp_in_nI (by omega) (by omega)
    by_cases q : T (p + i) = Int32.ofNat ((ux_words.getD 16 []).getD i 0)
    · obtain ⟨i1, i2⟩ := ih f (i + 1) (by omega) (by omega)
      have g : (∀ j, i ≤ j → j < 5 → T (p + j) = Int32.ofNat ((ux_words.getD 16 []).getD j 0)) ↔ ∀ j, i + 1 ≤ j → j < 5 → T (p + j) = Int32.ofNat ((ux_words.getD 16 []).getD j 0) :=
        ⟨fun z j z1 z2 => z j (by omega) z2, fun z j z1 z2 => by
          by_cases e : j = i
          · subst e; exact q
          · exact z j (by omega) z2⟩
      rw [if_pos q, g]
      exact ⟨⟨fun z => absurd z le, fun _ => ⟨rfl, fun z => absurd z le8, fun _ => ⟨rfl, v1, v2, fun _ => i1, fun z => absurd q z⟩⟩⟩, i2⟩
    · rw [if_neg q]
      exact ⟨⟨fun z => absurd z le, fun _ => ⟨rfl, fun z => absurd z le8, fun _ => ⟨rfl, v1, v2, fun z => absurd z q, fun _ => trivial⟩⟩⟩, .inr ⟨rfl, fun z => q (z i (Nat.le_refl _) (by omega))⟩⟩
theorem z_13w16 (h : z_rd4 M T N) (hp : p ≤ N) (h3 : M 4 671757 0 3 = z_xp T N p) (h4 : M 4 671757 0 4 = nI p) (h5 : M 4 671757 0 5 = nI (z_xe T N p)) : p_13w16 M ∧ ((r_13w16 M = 1 ∧ z_iwd T N p 16 5) ∨ (r_13w16 M = 0 ∧ ¬ z_iwd T N p 16 5)) := by
  have hN := h.1
  obtain ⟨x1, x2, x3⟩ := z_xpe (T := T) hp
  unfold p_13w16 r_13w16
  rw [h3]
  by_cases q : z_xL T N p = true
  · obtain ⟨y1, y2⟩ := x2 q
    obtain ⟨_, w2, _, _⟩ := z_xn_b (P := z_xL T N) (N := N) (N - p) p (by omega)
    rw [h4, h5, y1, z_sbn (show p ≤ z_xn (z_xL T N) N p by omega), if_pos (x1.mpr q)]
    by_cases g : z_xn (z_xL T N) N p - p = 5
    · obtain ⟨a1, a2⟩ := z_13w16l h h4 (by omega) 5 ux_fuel 0 (by omega) (by have := z_fuel; omega)
      have e : nI (z_xn (z_xL T N) N p - p) = Int32.ofNat 5 := by rw [g]; rfl
      rw [if_pos e]
      refine ⟨⟨fun z => absurd (x1.mpr q) z, fun _ => ⟨fun _ => a1, fun z => absurd e z⟩⟩, ?_⟩
      rcases a2 with ⟨a2, a3⟩ | ⟨a2, a3⟩
      · exact .inl ⟨a2, g, fun j hj => a3 j (by omega) hj⟩
      · exact .inr ⟨a2, fun z => a3 (fun j _ hj => z.2 j hj)⟩
    · have e : ¬ nI (z_xn (z_xL T N) N p - p) = Int32.ofNat 5 := fun z => g ((z_eq (b := 5) (by omega) (by omega)).mp z)
      rw [if_neg e]
      exact ⟨⟨fun z => absurd (x1.mpr q) z, fun _ => ⟨fun z => absurd z e, fun _ => trivial⟩⟩, .inr ⟨rfl, fun z => g z.1⟩⟩
  · have n1 : ¬ z_xp T N p = 1 := fun z => q (x1.mp z)
    rw [if_neg n1]
    exact ⟨⟨fun _ => trivial, fun z => absurd z n1⟩, .inr ⟨rfl, fun z => by have := z.1; rw [x3 q] at this; omega⟩⟩
theorem z_154w16l (h : z_rd5 M T N) (hb : M 5 819253 0 10 = nI p) (hp : p + 5 ≤ N) : ∀ n f i (x3 : Int32), i + n = 5 → n < f → (x3 = 0 ∨ x3 = 1) → p_154w16_27 f (nI (p + 5)) x3 (nI i) M ∧ ((r_154w16_27 f (nI (p + 5)) x3 (nI i) M = 1 ∧ x3 = 1 ∧ ∀ j, i ≤ j → j < 5 → T (p + j) = Int32.ofNat ((ux_words.getD 16 []).getD j 0)) ∨ (r_154w16_27 f (nI (p + 5)) x3 (nI i) M = 0 ∧ ¬ (x3 = 1 ∧ ∀ j, i ≤ j → j < 5 → T (p + j) = Int32.ofNat ((ux_words.getD 16 []).getD j 0)))) := by
  have hN := h.1
  have h10 : ¬ (1 : Int32) = 0 := by decide
  have h01 : ¬ (0 : Int32) = 1 := by decide
  intro n
  induction n with
  | zero =>
    intro f i x3 hi hf hx
    obtain ⟨f, rfl⟩ : ∃ g, f = g + 1 := ⟨f - 1, by omega⟩
    have le : nI (p + 5) ≤ nI (p + i) := (z_le (by omega) (by omega)).mpr (by omega)
    rw [p_154w16_27, r_154w16_27, hb, z_add]
    rcases hx with rfl | rfl
    · rw [if_pos rfl]
      exact ⟨⟨fun _ => .inl rfl, fun z => absurd rfl z⟩, .inr ⟨rfl, fun z => h01 z.1⟩⟩
    · rw [if_neg h10, if_pos le]
      exact ⟨⟨fun z => absurd z h10, fun _ => ⟨fun _ => .inr rfl, fun z => absurd le z⟩⟩, .inl ⟨rfl, rfl, fun j z1 z2 => absurd z2 (by omega)⟩⟩
  | succ n ih =>
    intro f i x3 hi hf hx
    obtain ⟨f, rfl⟩ : ∃ g, f = g + 1 := ⟨f - 1, by omega⟩
    have le : ¬ nI (p + 5) ≤ nI (p + i) := fun z => by have := (z_le (by omega) (by omega)).mp z; omega
    obtain ⟨b1, b2⟩ := z_153 (i := p + i) h (by omega)
    rw [if_neg (show ¬ N ≤ p + i by omega)] at b2
    rw [p_154w16_27, r_154w16_27, hb, z_add, b2, z_cls (show i < 2000000000 by omega), z_nx]
    rcases hx with rfl | rfl
    · rw [if_pos rfl]
      exact ⟨⟨fun _ => .inl rfl, fun z => absurd rfl z⟩, .inr ⟨rfl, fun z => h01 z.1⟩⟩
    · have v2 : vp_in (nI i) 5 := vp_in_nI (by omega) (by omega)
      rw [if_neg h10, if_neg le]
      by_cases q : T (p + i) = Int32.ofNat ((ux_words.getD 16 []).getD i 0)
      · obtain ⟨i1, i2⟩ := ih f (i + 1) 1 (by omega) (by omega) (.inr rfl)
        have g : (∀ j, i ≤ j → j < 5 → T (p + j) = Int32.ofNat ((ux_words.getD 16 []).getD j 0)) ↔ ∀ j, i + 1 ≤ j → j < 5 → T (p + j) = Int32.ofNat ((ux_words.getD 16 []).getD j 0) :=
          ⟨fun z j z1 z2 => z j (by omega) z2, fun z j z1 z2 => by
            by_cases e : j = i
            · subst e; exact q
            · exact z j (by omega) z2⟩
        rw [if_pos q, g]
        exact ⟨⟨fun z => absurd z h10, fun _ => ⟨fun z => absurd z le, fun _ => ⟨b1, v2, fun z => absurd q z, fun _ => i1⟩⟩⟩, i2⟩
      · obtain ⟨i1, i2⟩ := ih f (i + 1) 0 (by omega) (by omega) (.inl rfl)
        rw [if_neg q]
        refine ⟨⟨fun z => absurd z h10, fun _ => ⟨fun z => absurd z le, fun _ => ⟨b1, v2, fun _ => i1, fun z => absurd z q⟩⟩⟩, .inr ⟨?_, fun z => q (z.2 i (Nat.le_refl _) (by omega))⟩⟩
        rcases i2 with ⟨_, z, _⟩ | ⟨i2, _⟩
        · exact absurd z h01
        · exact i2
theorem z_154w16 (h : z_rd5 M T N) (hp : p ≤ N) (hb : M 5 819253 0 10 = nI p) : p_154w16 M ∧ ((r_154w16 M = 1 ∧ z_iwd T N p 16 5) ∨ (r_154w16 M = 0 ∧ ¬ z_iwd T N p 16 5)) := by
  have hN := h.1
  obtain ⟨a1, a2⟩ := z_155 h hp hb
  obtain ⟨w1, w2, _, _⟩ := z_xn_b (P := z_xL T N) (N := N) (N - p) p (by omega)
  unfold p_154w16 r_154w16
  rw [a2, hb, z_sbn w1]
  by_cases g : z_xn (z_xL T N) N p - p = 5
  · obtain ⟨b1, b2⟩ := z_154w16l h hb (by omega) 5 ux_fuel 0 1 (by omega) (by have := z_fuel; omega) (.inr rfl)
    have e : nI (z_xn (z_xL T N) N p - p) = Int32.ofNat 5 := by rw [g]; rfl
    have e2 : z_xn (z_xL T N) N p = p + 5 := by omega
    rw [if_pos e]
    rw [← e2] at b1 b2
    refine ⟨⟨a1, fun z => absurd e z, fun _ => b1⟩, ?_⟩
    rcases b2 with ⟨b2, _, b3⟩ | ⟨b2, b3⟩
    · exact .inl ⟨b2, g, fun j hj => b3 j (by omega) hj⟩
    · exact .inr ⟨b2, fun z => b3 ⟨rfl, fun j _ hj => z.2 j hj⟩⟩
  · have e : ¬ nI (z_xn (z_xL T N) N p - p) = Int32.ofNat 5 := fun z => g ((z_eq (b := 5) (by omega) (by omega)).mp z)
    obtain ⟨f, hf⟩ : ∃ f, ux_fuel = f + 1 := ⟨ux_fuel - 1, by have := z_fuel; omega⟩
    have e1 : p_154w16_27 ux_fuel (nI (z_xn (z_xL T N) N p)) 0 0 M := by rw [hf, p_154w16_27]; exact ⟨fun _ => .inl rfl, fun z => absurd rfl z⟩
    have e2 : r_154w16_27 ux_fuel (nI (z_xn (z_xL T N) N p)) 0 0 M = 0 := by rw [hf, r_154w16_27, if_pos rfl]
    rw [if_neg e]
    exact ⟨⟨a1, fun _ => e1, fun z => absurd z e⟩, .inr ⟨e2, fun z => g z.1⟩⟩
theorem z_13w17l (h : z_rd4 M T N) (h4 : M 4 671757 0 4 = nI p) (hp : p + 5 ≤ N) : ∀ n f i, i + n = 5 → n < f → p_13w17_28 f (nI i) M ∧ ((r_13w17_28 f (nI i) M = 1 ∧ ∀ j, i ≤ j → j < 5 → T (p + j) = Int32.ofNat ((ux_words.getD 17 []).getD j 0)) ∨ (r_13w17_28 f (nI i) M = 0 ∧ ¬ ∀ j, i ≤ j → j < 5 → T (p + j) = Int32.ofNat ((ux_words.getD 17 []).getD j 0))) := by
  obtain ⟨hN, h1, h2, hT⟩ := h
  intro n
  induction n with
  | zero =>
    intro f i hi hf
    obtain ⟨f, rfl⟩ : ∃ g, f = g + 1 := ⟨f - 1, by omega⟩
    have le : Int32.ofNat 5 ≤ nI i := (z_le (a := 5) (by omega) (by omega)).mpr (by omega)
    rw [p_13w17_28, r_13w17_28, if_pos le]
    exact ⟨⟨fun _ => trivial, fun z => absurd le z⟩, .inl ⟨rfl, fun j z1 z2 => absurd z2 (by omega)⟩⟩
  | succ n ih =>
    intro f i hi hf
    obtain ⟨f, rfl⟩ : ∃ g, f = g + 1 := ⟨f - 1, by omega⟩
    have le : ¬ Int32.ofNat 5 ≤ nI i := fun z => by have := (z_le (a := 5) (by omega) (by omega)).mp z; omega
    have le8 : ¬ Int32.ofNat 800 ≤ nI (p + i) := fun z => by have := (z_le (a := 800) (by omega) (by omega)).mp z; omega
    rw [p_13w17_28, r_13w17_28, if_neg le, h4, z_add, if_neg le8, h1, z_cls (show p + i < 2000000000 by omega), z_cls (show i < 2000000000 by omega), hT (p + i) (by omega), z_nx]
    have v1 : vp_in (nI (p + i)) 800 := vp_in_nI (by omega) (by omega)
    have v2 : vp_in (nI i) 5 := vp_in_nI (by omega) (by omega)
    by_cases q : T (p + i) = Int32.ofNat ((ux_words.getD 17 []).getD i 0)
    · obtain ⟨i1, i2⟩ := ih f (i + 1) (by omega) (by omega)
      have g : (∀ j, i ≤ j → j < 5 → T (p + j) = Int32.ofNat ((ux_words.getD 17 []).getD j 0)) ↔ ∀ j, i + 1 ≤ j → j < 5 → T (p + j) = Int32.ofNat ((ux_words.getD 17 []).getD j 0) :=
        ⟨fun z j z1 z2 => z j (by omega) z2, fun z j z1 z2 => by
          by_cases e : j = i
          · subst e; exact q
          · exact z j (by omega) z2⟩
      rw [if_pos q, g]
      exact ⟨⟨fun z => absurd z le, fun _ => ⟨rfl, fun z => absurd z le8, fun _ => ⟨rfl, v1, v2, fun _ => i1, fun z => absurd q z⟩⟩⟩, i2⟩
    · rw [if_neg q]
      exact ⟨⟨fun z => absurd z le, fun _ => ⟨rfl, fun z => absurd z le8, fun _ => ⟨rfl, v1, v2, fun z => absurd z q, fun _ => trivial⟩⟩⟩, .inr ⟨rfl, fun z => q (z i (Nat.le_refl _) (by omega))⟩⟩
theorem z_13w17 (h : z_rd4 M T N) (hp : p ≤ N) (h3 : M 4 671757 0 3 = z_xp T N p) (h4 : M 4 671757 0 4 = nI p) (h5 : M 4 671757 0 5 = nI (z_xe T N p)) : p_13w17 M ∧ ((r_13w17 M = 1 ∧ z_iwd T N p 17 5) ∨ (r_13w17 M = 0 ∧ ¬ z_iwd T N p 17 5)) := by
  have hN := h.1
  obtain ⟨x1, x2, x3⟩ := z_xpe (T := T) hp
  unfold p_13w17 r_13w17
  rw [h3]
  by_cases q : z_xL T N p = true
  · obtain ⟨y1, y2⟩ := x2 q
    obtain ⟨_, w2, _, _⟩ := z_xn_b (P := z_xL T N) (N := N) (N - p) p (by omega)
    rw [h4, h5, y1, z_sbn (show p ≤ z_xn (z_xL T N) N p by omega), if_pos (x1.mpr q)]
    by_cases g : z_xn (z_xL T N) N p - p = 5
    · obtain ⟨a1, a2⟩ := z_13w17l h h4 (by omega) 5 ux_fuel 0 (by omega) (by have := z_fuel; omega)
      have e : nI (z_xn (z_xL T N) N p - p) = Int32.ofNat 5 := by rw [g]; rfl
      rw [if_pos e]
      refine ⟨⟨fun z => absurd (x1.mpr q) z, fun _ => ⟨fun _ => a1, fun z => absurd e z⟩⟩, ?_⟩
      rcases a2 with ⟨a2, a3⟩ | ⟨a2, a3⟩
      · exact .inl ⟨a2, g, fun j hj => a3 j (by omega) hj⟩
      · exact .inr ⟨a2, fun z => a3 (fun j _ hj => z.2 j hj)⟩
    · have e : ¬ nI (z_xn (z_xL T N) N p - p) = Int32.ofNat 5 := fun z => g ((z_eq (b := 5) (by omega) (by omega)).mp z)
      rw [if_neg e]
      exact ⟨⟨fun z => absurd (x1.mpr q) z, fun _ => ⟨fun z => absurd z e, fun _ => trivial⟩⟩, .inr ⟨rfl, fun z => g z.1⟩⟩
  · have n1 : ¬ z_xp T N p = 1 := fun z => q (x1.mp z)
    rw [if_neg n1]
    exact ⟨⟨fun _ => trivial, fun z => absurd z n1⟩, .inr ⟨rfl, fun z => by have := z.1; rw [x3 q] at this; omega⟩⟩
theorem z_154w17l (h : z_rd5 M T N) (hb : M 5 819253 0 10 = nI p) (hp : p + 5 ≤ N) : ∀ n f i (x3 : Int32), i + n = 5 → n < f → (x3 = 0 ∨ x3 = 1) → p_154w17_27 f (nI (p + 5)) x3 (nI i) M ∧ ((r_154w17_27 f (nI (p + 5)) x3 (nI i) M = 1 ∧ x3 = 1 ∧ ∀ j, i ≤ j → j < 5 → T (p + j) = Int32.ofNat ((ux_words.getD 17 []).getD j 0)) ∨ (r_154w17_27 f (nI (p + 5)) x3 (nI i) M = 0 ∧ ¬ (x3 = 1 ∧ ∀ j, i ≤ j → j < 5 → T (p + j) = Int32.ofNat ((ux_words.getD 17 []).getD j 0)))) := by
  have hN := h.1
  have h10 : ¬ (1 : Int32) = 0 := by decide
  have h01 : ¬ (0 : Int32) = 1 := by decide
  intro n
  induction n with
  | zero =>
    intro f i x3 hi hf hx
    obtain ⟨f, rfl⟩ : ∃ g, f = g + 1 := ⟨f - 1, by omega⟩
    have le : nI (p + 5) ≤ nI (p + i) := (z_le (by omega) (by omega)).mpr (by omega)
    rw [p_154w17_27, r_154w17_27, hb, z_add]
    rcases hx with rfl | rfl
    · rw [if_pos rfl]
      exact ⟨⟨fun _ => .inl rfl, fun z => absurd rfl z⟩, .inr ⟨rfl, fun z => h01 z.1⟩⟩
    · rw [if_neg h10, if_pos le]
      exact ⟨⟨fun z => absurd z h10, fun _ => ⟨fun _ => .inr rfl, fun z => absurd le z⟩⟩, .inl ⟨rfl, rfl, fun j z1 z2 => absurd z2 (by omega)⟩⟩
  | succ n ih =>
    intro f i x3 hi hf hx
    obtain ⟨f, rfl⟩ : ∃ g, f = g + 1 := ⟨f - 1, by omega⟩
    have le : ¬ nI (p + 5) ≤ nI (p + i) := fun z => by have := (z_le (by omega) (by omega)).mp z; omega
    obtain ⟨b1, b2⟩ := z_153 (i := p + i) h (by omega)
    rw [if_neg (show ¬ N ≤ p + i by omega)] at b2
    rw [p_154w17_27, r_154w17_27, hb, z_add, b2, z_cls (show i < 2000000000 by omega), z_nx]
    rcases hx with rfl | rfl
    · rw [if_pos rfl]
      exact ⟨⟨fun _ => .inl rfl, fun z => absurd rfl z⟩, .inr ⟨rfl, fun z => h01 z.1⟩⟩
    · have v2 : vp_in (nI i) 5 := vp_in_nI (by omega) (by omega)
      rw [if_neg h10, if_neg le]
      by_cases q : T (p + i) = Int32.ofNat ((ux_words.getD 17 []).getD i 0)
      · obtain ⟨i1, i2⟩ := ih f (i + 1) 1 (by omega) (by omega) (.inr rfl)
        have g : (∀ j, i ≤ j → j < 5 → T (p + j) = Int32.ofNat ((ux_words.getD 17 []).getD j 0)) ↔ ∀ j, i + 1 ≤ j → j < 5 → T (p + j) = Int32.ofNat ((ux_words.getD 17 []).getD j 0) :=
          ⟨fun z j z1 z2 => z j (by omega) z2, fun z j z1 z2 => by
            by_cases e : j = i
            · subst e; exact q
            · exact z j (by omega) z2⟩
        rw [if_pos q, g]
        exact ⟨⟨fun z => absurd z h10, fun _ => ⟨fun z => absurd z le, fun _ => ⟨b1, v2, fun z => absurd q z, fun _ => i1⟩⟩⟩, i2⟩
      · obtain ⟨i1, i2⟩ := ih f (i + 1) 0 (by omega) (by omega) (.inl rfl)
        rw [if_neg q]
        refine ⟨⟨fun z => absurd z h10, fun _ => ⟨fun z => absurd z le, fun _ => ⟨b1, v2, fun _ => i1, fun z => absurd z q⟩⟩⟩, .inr ⟨?_, fun z => q (z.2 i (Nat.le_refl _) (by omega))⟩⟩
        rcases i2 with ⟨_, z, _⟩ | ⟨i2, _⟩
        · exact absurd z h01
        · exact i2
theorem z_154w17 (h : z_rd5 M T N) (hp : p ≤ N) (hb : M 5 819253 0 10 = nI p) : p_154w17 M ∧ ((r_154w17 M = 1 ∧ z_iwd T N p 17 5) ∨ (r_154w17 M = 0 ∧ ¬ z_iwd T N p 17 5)) := by
  have hN := h.1
  obtain ⟨a1, a2⟩ := z_155 h hp hb
  obtain ⟨w1, w2, _, _⟩ := z_xn_b (P := z_xL T N) (N := N) (N - p) p (by omega)
  unfold p_154w17 r_154w17
  rw [a2, hb, z_sbn w1]
  by_cases g : z_xn (z_xL T N) N p - p = 5
  · obtain ⟨b1, b2⟩ := z_154w17l h hb (by omega) 5 ux_fuel 0 1 (by omega) (by have := z_fuel; omega) (.inr rfl)
    have e : nI (z_xn (z_xL T N) N p - p) = Int32.ofNat 5 := by rw [g]; rfl
    have e2 : z_xn (z_xL T N) N p = p + 5 := by omega
    rw [if_pos e]
    rw [← e2] at b1 b2
    refine ⟨⟨a1, fun z => absurd e z, fun _ => b1⟩, ?_⟩
    rcases b2 with ⟨b2, _, b3⟩ | ⟨b2, b3⟩
    · exact .inl ⟨b2, g, fun j hj => b3 j (by omega) hj⟩
    · exact .inr ⟨b2, fun z => b3 ⟨rfl, fun j _ hj => z.2 j hj⟩⟩
  · have e : ¬ nI (z_xn (z_xL T N) N p - p) = Int32.ofNat 5 := fun z => g ((z_eq (b := 5) (by omega) (by omega)).mp z)
    obtain ⟨f, hf⟩ : ∃ f, ux_fuel = f + 1 := ⟨ux_fuel - 1, by have := z_fuel; omega⟩
    have e1 : p_154w17_27 ux_fuel (nI (z_xn (z_xL T N) N p)) 0 0 M := by rw [hf, p_154w17_27]; exact ⟨fun _ => .inl rfl, fun z => absurd rfl z⟩
    have e2 : r_154w17_27 ux_fuel (nI (z_xn (z_xL T N) N p)) 0 0 M = 0 := by rw [hf, r_154w17_27, if_pos rfl]
    rw [if_neg e]
    exact ⟨⟨a1, fun _ => e1, fun z => absurd z e⟩, .inr ⟨e2, fun z => g z.1⟩⟩
theorem z_13w18l (h : z_rd4 M T N) (h4 : M 4 671757 0 4 = nI p) (hp : p + 6 ≤ N) : ∀ n f i, i + n = 6 → n < f → p_13w18_28 f (nI i) M ∧ ((r_13w18_28 f (nI i) M = 1 ∧ ∀ j, i ≤ j → j < 6 → T (p + j) = Int32.ofNat ((ux_words.getD 18 []).getD j 0)) ∨ (r_13w18_28 f (nI i) M = 0 ∧ ¬ ∀ j, i ≤ j → j < 6 → T (p + j) = Int32.ofNat ((ux_words.getD 18 []).getD j 0))) := by
  obtain ⟨hN, h1, h2, hT⟩ := h
  intro n
  induction n with
  | zero =>
    intro f i hi hf
    obtain ⟨f, rfl⟩ : ∃ g, f = g + 1 := ⟨f - 1, by omega⟩
    have le : Int32.ofNat 6 ≤ nI i := (z_le (a := 6) (by omega) (by omega)).mpr (by omega)
    rw [p_13w18_28, r_13w18_28, if_pos le]
    exact ⟨⟨fun _ => trivial, fun z => absurd le z⟩, .inl ⟨rfl, fun j z1 z2 => absurd z2 (by omega)⟩⟩
  | succ n ih =>
    intro f i hi hf
    obtain ⟨f, rfl⟩ : ∃ g, f = g + 1 := ⟨f - 1, by omega⟩
    have le : ¬ Int32.ofNat 6 ≤ nI i := fun z => by have := (z_le (a := 6) (by omega) (by omega)).mp z; omega
    have le8 : ¬ Int32.ofNat 800 ≤ nI (p + i) := fun z => by have := (z_le (a := 800) (by omega) (by omega)).mp z; omega
    rw [p_13w18_28, r_13w18_28, if_neg le, h4, z_add, if_neg le8, h1, z_cls (show p + i < 2000000000 by omega), z_cls (show i < 2000000000 by omega), hT (p + i) (by omega), z_nx]
    have v1 : vp_in (nI (p + i)) 800 := vp_in_nI (by omega) (by omega)
    have v2 : vp_in (nI i) 6 := vp_in_nI (by omega) (by omega)
    by_cases q : T (p + i) = Int32.ofNat ((ux_words.getD 18 []).getD i 0)
    · obtain ⟨i1, i2⟩ := ih f (i + 1) (by omega) (by omega)
      have g : (∀ j, i ≤ j → j < 6 → T (p + j) = Int32.ofNat ((ux_words.getD 18 []).getD j 0)) ↔ ∀ j, i + 1 ≤ j → j < 6 → T (p + j) = Int32.ofNat ((ux_words.getD 18 []).getD j 0) :=
        ⟨fun z j z1 z2 => z j (by omega) z2, fun z j z1 z2 => by
          by_cases e : j = i
          · subst e; exact q
          · exact z j (by omega) z2⟩
      rw [if_pos q, g]
      exact ⟨⟨fun z => absurd z le, fun _ => ⟨rfl, fun z => absurd z le8, fun _ => ⟨rfl, v1, v2, fun _ => i1, fun z => absurd q z⟩⟩⟩, i2⟩
    · rw [if_neg q]
      exact ⟨⟨fun z => absurd z le, fun _ => ⟨rfl, fun z => absurd z le8, fun _ => ⟨rfl, v1, v2, fun z => absurd z q, fun _ => trivial⟩⟩⟩, .inr ⟨rfl, fun z => q (z i (Nat.le_refl _) (by omega))⟩⟩
theorem z_13w18 (h : z_rd4 M T N) (hp : p ≤ N) (h3 : M 4 671757 0 3 = z_xp T N p) (h4 : M 4 671757 0 4 = nI p) (h5 : M 4 671757 0 5 = nI (z_xe T N p)) : p_13w18 M ∧ ((r_13w18 M = 1 ∧ z_iwd T N p 18 6) ∨ (r_13w18 M = 0 ∧ ¬ z_iwd T N p 18 6)) := by
  have hN := h.1
  obtain ⟨x1, x2, x3⟩ := z_xpe (T := T) hp
  unfold p_13w18 r_13w18
  rw [h3]
  by_cases q : z_xL T N p = true
  · obtain ⟨y1, y2⟩ := x2 q
    obtain ⟨_, w2, _, _⟩ := z_xn_b (P := z_xL T N) (N := N) (N - p) p (by omega)
    rw [h4, h5, y1, z_sbn (show p ≤ z_xn (z_xL T N) N p by omega), if_pos (x1.mpr q)]
    by_cases g : z_xn (z_xL T N) N p - p = 6
    · obtain ⟨a1, a2⟩ := z_13w18l h h4 (by omega) 6 ux_fuel 0 (by omega) (by have := z_fuel; omega)
      have e : nI (z_xn (z_xL T N) N p - p) = Int32.ofNat 6 := by rw [g]; rfl
      rw [if_pos e]
      refine ⟨⟨fun z => absurd (x1.mpr q) z, fun _ => ⟨fun _ => a1, fun z => absurd e z⟩⟩, ?_⟩
      rcases a2 with ⟨a2, a3⟩ | ⟨a2, a3⟩
      · exact .inl ⟨a2, g, fun j hj => a3 j (by omega) hj⟩
      · exact .inr ⟨a2, fun z => a3 (fun j _ hj => z.2 j hj)⟩
    · have e : ¬ nI (z_xn (z_xL T N) N p - p) = Int32.ofNat 6 := fun z => g ((z_eq (b := 6) (by omega) (by omega)).mp z)
      rw [if_neg e]
      exact ⟨⟨fun z => absurd (x1.mpr q) z, fun _ => ⟨fun z => absurd z e, fun _ => trivial⟩⟩, .inr ⟨rfl, fun z => g z.1⟩⟩
  · have n1 : ¬ z_xp T N p = 1 := fun z => q (x1.mp z)
    rw [if_neg n1]
    exact ⟨⟨fun _ => trivial, fun z => absurd z n1⟩, .inr ⟨rfl, fun z => by have := z.1; rw [x3 q] at this; omega⟩⟩
theorem z_154w18l (h : z_rd5 M T N) (hb : M 5 819253 0 10 = nI p) (hp : p + 6 ≤ N) : ∀ n f i (x3 : Int32), i + n = 6 → n < f → (x3 = 0 ∨ x3 = 1) → p_154w18_27 f (nI (p + 6)) x3 (nI i) M ∧ ((r_154w18_27 f (nI (p + 6)) x3 (nI i) M = 1 ∧ x3 = 1 ∧ ∀ j, i ≤ j → j < 6 → T (p + j) = Int32.ofNat ((ux_words.getD 18 []).getD j 0)) ∨ (r_154w18_27 f (nI (p + 6)) x3 (nI i) M = 0 ∧ ¬ (x3 = 1 ∧ ∀ j, i ≤ j → j < 6 → T (p + j) = Int32.ofNat ((ux_words.getD 18 []).getD j 0)))) := by
  have hN := h.1
  have h10 : ¬ (1 : Int32) = 0 := by decide
  have h01 : ¬ (0 : Int32) = 1 := by decide
  intro n
  induction n with
  | zero =>
    intro f i x3 hi hf hx
    obtain ⟨f, rfl⟩ : ∃ g, f = g + 1 := ⟨f - 1, by omega⟩
    have le : nI (p + 6) ≤ nI (p + i) := (z_le (by omega) (by omega)).mpr (by omega)
    rw [p_154w18_27, r_154w18_27, hb, z_add]
    rcases hx with rfl | rfl
    · rw [if_pos rfl]
      exact ⟨⟨fun _ => .inl rfl, fun z => absurd rfl z⟩, .inr ⟨rfl, fun z => h01 z.1⟩⟩
    · rw [if_neg h10, if_pos le]
      exact ⟨⟨fun z => absurd z h10, fun _ => ⟨fun _ => .inr rfl, fun z => absurd le z⟩⟩, .inl ⟨rfl, rfl, fun j z1 z2 => absurd z2 (by omega)⟩⟩
  | succ n ih =>
    intro f i x3 hi hf hx
    obtain ⟨f, rfl⟩ : ∃ g, f = g + 1 := ⟨f - 1, by omega⟩
    have le : ¬ nI (p + 6) ≤ nI (p + i) := fun z => by have := (z_le (by omega) (by omega)).mp z; omega
    obtain ⟨b1, b2⟩ := z_153 (i := p + i) h (by omega)
    rw [if_neg (show ¬ N ≤ p + i by omega)] at b2
    rw [p_154w18_27, r_154w18_27, hb, z_add, b2, z_cls (show i < 2000000000 by omega), z_nx]
    rcases hx with rfl | rfl
    · rw [if_pos rfl]
      exact ⟨⟨fun _ => .inl rfl, fun z => absurd rfl z⟩, .inr ⟨rfl, fun z => h01 z.1⟩⟩
    · have v2 : vp_in (nI i) 6 := vp_in_nI (by omega) (by omega)
      rw [if_neg h10, if_neg le]
      by_cases q : T (p + i) = Int32.ofNat ((ux_words.getD 18 []).getD i 0)
      · obtain ⟨i1, i2⟩ := ih f (i + 1) 1 (by omega) (by omega) (.inr rfl)
        have g : (∀ j, i ≤ j → j < 6 → T (p + j) = Int32.ofNat ((ux_words.getD 18 []).getD j 0)) ↔ ∀ j, i + 1 ≤ j → j < 6 → T (p + j) = Int32.ofNat ((ux_words.getD 18 []).getD j 0) :=
          ⟨fun z j z1 z2 => z j (by omega) z2, fun z j z1 z2 => by
            by_cases e : j = i
            · subst e; exact q
            · exact z j (by omega) z2⟩
        rw [if_pos q, g]
        exact ⟨⟨fun z => absurd z h10, fun _ => ⟨fun z => absurd z le, fun _ => ⟨b1, v2, fun z => absurd q z, fun _ => i1⟩⟩⟩, i2⟩
      · obtain ⟨i1, i2⟩ := ih f (i + 1) 0 (by omega) (by omega) (.inl rfl)
        rw [if_neg q]
        refine ⟨⟨fun z => absurd z h10, fun _ => ⟨fun z => absurd z le, fun _ => ⟨b1, v2, fun _ => i1, fun z => absurd z q⟩⟩⟩, .inr ⟨?_, fun z => q (z.2 i (Nat.le_refl _) (by omega))⟩⟩
        rcases i2 with ⟨_, z, _⟩ | ⟨i2, _⟩
        · exact absurd z h01
        · exact i2
theorem z_154w18 (h : z_rd5 M T N) (hp : p ≤ N) (hb : M 5 819253 0 10 = nI p) : p_154w18 M ∧ ((r_154w18 M = 1 ∧ z_iwd T N p 18 6) ∨ (r_154w18 M = 0 ∧ ¬ z_iwd T N p 18 6)) := by
  have hN := h.1
  obtain ⟨a1, a2⟩ := z_155 h hp hb
  obtain ⟨w1, w2, _, _⟩ := z_xn_b (P := z_xL T N) (N := N) (N - p) p (by omega)
  unfold p_154w18 r_154w18
  rw [a2, hb, z_sbn w1]
  by_cases g : z_xn (z_xL T N) N p - p = 6
  · obtain ⟨b1, b2⟩ := z_154w18l h hb (by omega) 6 ux_fuel 0 1 (by omega) (by have := z_fuel; omega) (.inr rfl)
    have e : nI (z_xn (z_xL T N) N p - p) = Int32.ofNat 6 := by rw [g]; rfl
    have e2 : z_xn (z_xL T N) N p = p + 6 := by omega
    rw [if_pos e]
    rw [← e2] at b1 b2
    refine ⟨⟨a1, fun z => absurd e z, fun _ => b1⟩, ?_⟩
    rcases b2 with ⟨b2, _, b3⟩ | ⟨b2, b3⟩
    · exact .inl ⟨b2, g, fun j hj => b3 j (by omega) hj⟩
    · exact .inr ⟨b2, fun z => b3 ⟨rfl, fun j _ hj => z.2 j hj⟩⟩
  · have e : ¬ nI (z_xn (z_xL T N) N p - p) = Int32.ofNat 6 := fun z => g ((z_eq (b := 6) (by omega) (by omega)).mp z)
    obtain ⟨f, hf⟩ : ∃ f, ux_fuel = f + 1 := ⟨ux_fuel - 1, by have := z_fuel; omega⟩
    have e1 : p_154w18_27 ux_fuel (nI (z_xn (z_xL T N) N p)) 0 0 M := by rw [hf, p_154w18_27]; exact ⟨fun _ => .inl rfl, fun z => absurd rfl z⟩
    have e2 : r_154w18_27 ux_fuel (nI (z_xn (z_xL T N) N p)) 0 0 M = 0 := by rw [hf, r_154w18_27, if_pos rfl]
    rw [if_neg e]
    exact ⟨⟨a1, fun _ => e1, fun z => absurd z e⟩, .inr ⟨e2, fun z => g z.1⟩⟩
theorem z_13w19l (h : z_rd4 M T N) (h4 : M 4 671757 0 4 = nI p) (hp : p + 9 ≤ N) : ∀ n f i, i + n = 9 → n < f → p_13w19_28 f (nI i) M ∧ ((r_13w19_28 f (nI i) M = 1 ∧ ∀ j, i ≤ j → j < 9 → T (p + j) = Int32.ofNat ((ux_words.getD 19 []).getD j 0)) ∨ (r_13w19_28 f (nI i) M = 0 ∧ ¬ ∀ j, i ≤ j → j < 9 → T (p + j) = Int32.ofNat ((ux_words.getD 19 []).getD j 0))) := by
  obtain ⟨hN, h1, h2, hT⟩ := h
  intro n
  induction n with
  | zero =>
    intro f i hi hf
    obtain ⟨f, rfl⟩ : ∃ g, f = g + 1 := ⟨f - 1, by omega⟩
    have le : Int32.ofNat 9 ≤ nI i := (z_le (a := 9) (by omega) (by omega)).mpr (by omega)
    rw [p_13w19_28, r_13w19_28, if_pos le]
    exact ⟨⟨fun _ => trivial, fun z => absurd le z⟩, .inl ⟨rfl, fun j z1 z2 => absurd z2 (by omega)⟩⟩
  | succ n ih =>
    intro f i hi hf
    obtain ⟨f, rfl⟩ : ∃ g, f = g + 1 := ⟨f - 1, by omega⟩
    have le : ¬ Int32.ofNat 9 ≤ nI i := fun z => by have := (z_le (a := 9) (by omega) (by omega)).mp z; omega
    have le8 : ¬ Int32.ofNat 800 ≤ nI (p + i) := fun z => by have := (z_le (a := 800) (by omega) (by omega)).mp z; omega
    rw [p_13w19_28, r_13w19_28, if_neg le, h4, z_add, if_neg le8, h1, z_cls (show p + i < 2000000000 by omega), z_cls (show i < 2000000000 by omega), hT (p + i) (by omega), z_nx]
    have v1 : vp_in (nI (p + i)) 800 := vp_in_nI (by omega) (by omega)
    have v2 : vp_in (nI i) 9 := vp_in_nI (by omega) (by omega)
    by_cases q : T (p + i) = Int32.ofNat ((ux_words.getD 19 []).getD i 0)
    · obtain ⟨i1, i2⟩ := ih f (i + 1) (by omega) (by omega)
      have g : (∀ j, i ≤ j → j < 9 → T (p + j) = Int32.ofNat ((ux_words.getD 19 []).getD j 0)) ↔ ∀ j, i + 1 ≤ j → j < 9 → T (p + j) = Int32.ofNat ((ux_words.getD 19 []).getD j 0) :=
        ⟨fun z j z1 z2 => z j (by omega) z2, fun z j z1 z2 => by
          by_cases e : j = i
          · subst e; exact q
          · exact z j (by omega) z2⟩
      rw [if_pos q, g]
      exact ⟨⟨fun z => absurd z le, fun _ => ⟨rfl, fun z => absurd z le8, fun _ => ⟨rfl, v1, v2, fun _ => i1, fun z => absurd q z⟩⟩⟩, i2⟩
    · rw [if_neg q]
      exact ⟨⟨fun z => absurd z le, fun _ => ⟨rfl, fun z => absurd z le8, fun _ => ⟨rfl, v1, v2, fun z => absurd z q, fun _ => trivial⟩⟩⟩, .inr ⟨rfl, fun z => q (z i (Nat.le_refl _) (by omega))⟩⟩
theorem z_13w19 (h : z_rd4 M T N) (hp : p ≤ N) (h3 : M 4 671757 0 3 = z_xp T N p) (h4 : M 4 671757 0 4 = nI p) (h5 : M 4 671757 0 5 = nI (z_xe T N p)) : p_13w19 M ∧ ((r_13w19 M = 1 ∧ z_iwd T N p 19 9) ∨ (r_13w19 M = 0 ∧ ¬ z_iwd T N p 19 9)) := by
  have hN := h.1
  obtain ⟨x1, x2, x3⟩ := z_xpe (T := T) hp
  unfold p_13w19 r_13w19
  rw [h3]
  by_cases q : z_xL T N p = true
  · obtain ⟨y1, y2⟩ := x2 q
    obtain ⟨_, w2, _, _⟩ := z_xn_b (P := z_xL T N) (N := N) (N - p) p (by omega)
    rw [h4, h5, y1, z_sbn (show p ≤ z_xn (z_xL T N) N p by omega), if_pos (x1.mpr q)]
    by_cases g : z_xn (z_xL T N) N p - p = 9
    · obtain ⟨a1, a2⟩ := z_13w19l h h4 (by omega) 9 ux_fuel 0 (by omega) (by have := z_fuel; omega)
      have e : nI (z_xn (z_xL T N) N p - p) = Int32.ofNat 9 := by rw [g]; rfl
      rw [if_pos e]
      refine ⟨⟨fun z => absurd (x1.mpr q) z, fun _ => ⟨fun _ => a1, fun z => absurd e z⟩⟩, ?_⟩
      rcases a2 with ⟨a2, a3⟩ | ⟨a2, a3⟩
      · exact .inl ⟨a2, g, fun j hj => a3 j (by omega) hj⟩
      · exact .inr ⟨a2, fun z => a3 (fun j _ hj => z.2 j hj)⟩
    · have e : ¬ nI (z_xn (z_xL T N) N p - p) = Int32.ofNat 9 := fun z => g ((z_eq (b := 9) (by omega) (by omega)).mp z)
      rw [if_neg e]
      exact ⟨⟨fun z => absurd (x1.mpr q) z, fun _ => ⟨fun z => absurd z e, fun _ => trivial⟩⟩, .inr ⟨rfl, fun z => g z.1⟩⟩
  · have n1 : ¬ z_xp T N p = 1 := fun z => q (x1.mp z)
    rw [if_neg n1]
    exact ⟨⟨fun _ => trivial, fun z => absurd z n1⟩, .inr ⟨rfl, fun z => by have := z.1; rw [x3 q] at this; omega⟩⟩
theorem z_154w19l (h : z_rd5 M T N) (hb : M 5 819253 0 10 = nI p) (hp : p + 9 ≤ N) : ∀ n f i (x3 : Int32), i + n = 9 → n < f → (x3 = 0 ∨ x3 = 1) → p_154w19_27 f (nI (p + 9)) x3 (nI i) M ∧ ((r_154w19_27 f (nI (p + 9)) x3 (nI i) M = 1 ∧ x3 = 1 ∧ ∀ j, i ≤ j → j < 9 → T (p + j) = Int32.ofNat ((ux_words.getD 19 []).getD j 0)) ∨ (r_154w19_27 f (nI (p + 9)) x3 (nI i) M = 0 ∧ ¬ (x3 = 1 ∧ ∀ j, i ≤ j → j < 9 → T (p + j) = Int32.ofNat ((ux_words.getD 19 []).getD j 0)))) := by
  have hN := h.1
  have h10 : ¬ (1 : Int32) = 0 := by decide
  have h01 : ¬ (0 : Int32) = 1 := by decide
  intro n
  induction n with
  | zero =>
    intro f i x3 hi hf hx
    obtain ⟨f, rfl⟩ : ∃ g, f = g + 1 := ⟨f - 1, by omega⟩
    have le : nI (p + 9) ≤ nI (p + i) := (z_le (by omega) (by omega)).mpr (by omega)
    rw [p_154w19_27, r_154w19_27, hb, z_add]
    rcases hx with rfl | rfl
    · rw [if_pos rfl]
      exact ⟨⟨fun _ => .inl rfl, fun z => absurd rfl z⟩, .inr ⟨rfl, fun z => h01 z.1⟩⟩
    · rw [if_neg h10, if_pos le]
      exact ⟨⟨fun z => absurd z h10, fun _ => ⟨fun _ => .inr rfl, fun z => absurd le z⟩⟩, .inl ⟨rfl, rfl, fun j z1 z2 => absurd z2 (by omega)⟩⟩
  | succ n ih =>
    intro f i x3 hi hf hx
    obtain ⟨f, rfl⟩ : ∃ g, f = g + 1 := ⟨f - 1, by omega⟩
    have le : ¬ nI (p + 9) ≤ nI (p + i) := fun z => by have := (z_le (by omega) (by omega)).mp z; omega
    obtain ⟨b1, b2⟩ := z_153 (i := p + i) h (by omega)
    rw [if_neg (show ¬ N ≤ p + i by omega)] at b2
    rw [p_154w19_27, r_154w19_27, hb, z_add, b2, z_cls (show i < 2000000000 by omega), z_nx]
    rcases hx with rfl | rfl
    · rw [if_pos rfl]
      exact ⟨⟨fun _ => .inl rfl, fun z => absurd rfl z⟩, .inr ⟨rfl, fun z => h01 z.1⟩⟩
    · have v2 : vp_in (nI i) 9 := vp_in_nI (by omega) (by omega)
      rw [if_neg h10, if_neg le]
      by_cases q : T (p + i) = Int32.ofNat ((ux_words.getD 19 []).getD i 0)
      · obtain ⟨i1, i2⟩ := ih f (i + 1) 1 (by omega) (by omega) (.inr rfl)
        have g : (∀ j, i ≤ j → j < 9 → T (p + j) = Int32.ofNat ((ux_words.getD 19 []).getD j 0)) ↔ ∀ j, i + 1 ≤ j → j < 9 → T (p + j) = Int32.ofNat ((ux_words.getD 19 []).getD j 0) :=
          ⟨fun z j z1 z2 => z j (by omega) z2, fun z j z1 z2 => by
            by_cases e : j = i
            · subst e; exact q
            · exact z j (by omega) z2⟩
        rw [if_pos q, g]
        exact ⟨⟨fun z => absurd z h10, fun _ => ⟨fun z => absurd z le, fun _ => ⟨b1, v2, fun z => absurd q z, fun _ => i1⟩⟩⟩, i2⟩
      · obtain ⟨i1, i2⟩ := ih f (i + 1) 0 (by omega) (by omega) (.inl rfl)
        rw [if_neg q]
        refine ⟨⟨fun z => absurd z h10, fun _ => ⟨fun z => absurd z le, fun _ => ⟨b1, v2, fun _ => i1, fun z => absurd z q⟩⟩⟩, .inr ⟨?_, fun z => q (z.2 i (Nat.le_refl _) (by omega))⟩⟩
        rcases i2 with ⟨_, z, _⟩ | ⟨i2, _⟩
        · exact absurd z h01
        · exact i2
theorem z_154w19 (h : z_rd5 M T N) (hp : p ≤ N) (hb : M 5 819253 0 10 = nI p) : p_154w19 M ∧ ((r_154w19 M = 1 ∧ z_iwd T N p 19 9) ∨ (r_154w19 M = 0 ∧ ¬ z_iwd T N p 19 9)) := by
  have hN := h.1
  obtain ⟨a1, a2⟩ := z_155 h hp hb
  obtain ⟨w1, w2, _, _⟩ := z_xn_b (P := z_xL T N) (N := N) (N - p) p (by omega)
  unfold p_154w19 r_154w19
  rw [a2, hb, z_sbn w1]
  by_cases g : z_xn (z_xL T N) N p - p = 9
  · obtain ⟨b1, b2⟩ := z_154w19l h hb (by omega) 9 ux_fuel 0 1 (by omega) (by have := z_fuel; omega) (.inr rfl)
    have e : nI (z_xn (z_xL T N) N p - p) = Int32.ofNat 9 := by rw [g]; rfl
    have e2 : z_xn (z_xL T N) N p = p + 9 := by omega
    rw [if_pos e]
    rw [← e2] at b1 b2
    refine ⟨⟨a1, fun z => absurd e z, fun _ => b1⟩, ?_⟩
    rcases b2 with ⟨b2, _, b3⟩ | ⟨b2, b3⟩
    · exact .inl ⟨b2, g, fun j hj => b3 j (by omega) hj⟩
    · exact .inr ⟨b2, fun z => b3 ⟨rfl, fun j _ hj => z.2 j hj⟩⟩
  · have e : ¬ nI (z_xn (z_xL T N) N p - p) = Int32.ofNat 9 := fun z => g ((z_eq (b := 9) (by omega) (by omega)).mp z)
    obtain ⟨f, hf⟩ : ∃ f, ux_fuel = f + 1 := ⟨ux_fuel - 1, by have := z_fuel; omega⟩
    have e1 : p_154w19_27 ux_fuel (nI (z_xn (z_xL T N) N p)) 0 0 M := by rw [hf, p_154w19_27]; exact ⟨fun _ => .inl rfl, fun z => absurd rfl z⟩
    have e2 : r_154w19_27 ux_fuel (nI (z_xn (z_xL T N) N p)) 0 0 M = 0 := by rw [hf, r_154w19_27, if_pos rfl]
    rw [if_neg e]
    exact ⟨⟨a1, fun _ => e1, fun z => absurd z e⟩, .inr ⟨e2, fun z => g z.1⟩⟩
theorem z_13w20l (h : z_rd4 M T N) (h4 : M 4 671757 0 4 = nI p) (hp : p + 5 ≤ N) : ∀ n f i, i + n = 5 → n < f → p_13w20_28 f (nI i) M ∧ ((r_13w20_28 f (nI i) M = 1 ∧ ∀ j, i ≤ j → j < 5 → T (p + j) = Int32.ofNat ((ux_words.getD 20 []).getD j 0)) ∨ (r_13w20_28 f (nI i) M = 0 ∧ ¬ ∀ j, i ≤ j → j < 5 → T (p + j) = Int32.ofNat ((ux_words.getD 20 []).getD j 0))) := by
  obtain ⟨hN, h1, h2, hT⟩ := h
  intro n
  induction n with
  | zero =>
    intro f i hi hf
    obtain ⟨f, rfl⟩ : ∃ g, f = g + 1 := ⟨f - 1, by omega⟩
    have le : Int32.ofNat 5 ≤ nI i := (z_le (a := 5) (by omega) (by omega)).mpr (by omega)
    rw [p_13w20_28, r_13w20_28, if_pos le]
    exact ⟨⟨fun _ => trivial, fun z => absurd le z⟩, .inl ⟨rfl, fun j z1 z2 => absurd z2 (by omega)⟩⟩
  | succ n ih =>
    intro f i hi hf
    obtain ⟨f, rfl⟩ : ∃ g, f = g + 1 := ⟨f - 1, by omega⟩
    have le : ¬ Int32.ofNat 5 ≤ nI i := fun z => by have := (z_le (a := 5) (by omega) (by omega)).mp z; omega
    have le8 : ¬ Int32.ofNat 800 ≤ nI (p + i) := fun z => by have := (z_le (a := 800) (by omega) (by omega)).mp z; omega
    rw [p_13w20_28, r_13w20_28, if_neg le, h4, z_add, if_neg le8, h1, z_cls (show p + i < 2000000000 by omega), z_cls (show i < 2000000000 by omega), hT (p + i) (by omega), z_nx]
    have v1 : vp_in (nI (p + i)) 800 := vp_in_nI (by omega) (by omega)
    have v2 : vp_in (nI i) 5 := vp_in_nI (by omega) (by omega)
    by_cases q : T (p + i) = Int32.ofNat ((ux_words.getD 20 []).getD i 0)
    · obtain ⟨i1, i2⟩ := ih f (i + 1) (by omega) (by omega)
      have g : (∀ j, i ≤ j → j < 5 → T (p + j) = Int32.ofNat ((ux_words.getD 20 []).getD j 0)) ↔ ∀ j, i + 1 ≤ j → j < 5 → T (p + j) = Int32.ofNat ((ux_words.getD 20 []).getD j 0) :=
        ⟨fun z j z1 z2 => z j (by omega) z2, fun z j z1 z2 => by
          by_cases e : j = i
          · subst e; exact q
          · exact z j (by omega) z2⟩
      rw [if_pos q, g]
      exact ⟨⟨fun z => absurd z le, fun _ => ⟨rfl, fun z => absurd z le8, fun _ => ⟨rfl, v1, v2, fun _ => i1, fun z => absurd q z⟩⟩⟩, i2⟩
    · rw [if_neg q]
      exact ⟨⟨fun z => absurd z le, fun _ => ⟨rfl, fun z => absurd z le8, fun _ => ⟨rfl, v1, v2, fun z => absurd z q, fun _ => trivial⟩⟩⟩, .inr ⟨rfl, fun z => q (z i (Nat.le_refl _) (by omega))⟩⟩
theorem z_13w20 (h : z_rd4 M T N) (hp : p ≤ N) (h3 : M 4 671757 0 3 = z_xp T N p) (h4 : M 4 671757 0 4 = nI p) (h5 : M 4 671757 0 5 = nI (z_xe T N p)) : p_13w20 M ∧ ((r_13w20 M = 1 ∧ z_iwd T N p 20 5) ∨ (r_13w20 M = 0 ∧ ¬ z_iwd T N p 20 5)) := by
  have hN := h.1
  obtain ⟨x1, x2, x3⟩ := z_xpe (T := T) hp
  unfold p_13w20 r_13w20
  rw [h3]
  by_cases q : z_xL T N p = true
  · obtain ⟨y1, y2⟩ := x2 q
    obtain ⟨_, w2, _, _⟩ := z_xn_b (P := z_xL T N) (N := N) (N - p) p (by omega)
    rw [h4, h5, y1, z_sbn (show p ≤ z_xn (z_xL T N) N p by omega), if_pos (x1.mpr q)]
    by_cases g : z_xn (z_xL T N) N p - p = 5
    · obtain ⟨a1, a2⟩ := z_13w20l h h4 (by omega) 5 ux_fuel 0 (by omega) (by have := z_fuel; omega)
      have e : nI (z_xn (z_xL T N) N p - p) = Int32.ofNat 5 := by rw [g]; rfl
      rw [if_pos e]
      refine ⟨⟨fun z => absurd (x1.mpr q) z, fun _ => ⟨fun _ => a1, fun z => absurd e z⟩⟩, ?_⟩
      rcases a2 with ⟨a2, a3⟩ | ⟨a2, a3⟩
      · exact .inl ⟨a2, g, fun j hj => a3 j (by omega) hj⟩
      · exact .inr ⟨a2, fun z => a3 (fun j _ hj => z.2 j hj)⟩
    · have e : ¬ nI (z_xn (z_xL T N) N p - p) = Int32.ofNat 5 := fun z => g ((z_eq (b := 5) (by omega) (by omega)).mp z)
      rw [if_neg e]
      exact ⟨⟨fun z => absurd (x1.mpr q) z, fun _ => ⟨fun z => absurd z e, fun _ => trivial⟩⟩, .inr ⟨rfl, fun z => g z.1⟩⟩
  · have n1 : ¬ z_xp T N p = 1 := fun z => q (x1.mp z)
    rw [if_neg n1]
    exact ⟨⟨fun _ => trivial, fun z => absurd z n1⟩, .inr ⟨rfl, fun z => by have := z.1; rw [x3 q] at this; omega⟩⟩
theorem z_154w20l (h : z_rd5 M T N) (hb : M 5 819253 0 10 = nI p) (hp : p + 5 ≤ N) : ∀ n f i (x3 : Int32), i + n = 5 → n < f → (x3 = 0 ∨ x3 = 1) → p_154w20_27 f (nI (p + 5)) x3 (nI i) M ∧ ((r_154w20_27 f (nI (p + 5)) x3 (nI i) M = 1 ∧ x3 = 1 ∧ ∀ j, i ≤ j → j < 5 → T (p + j) = Int32.ofNat ((ux_words.getD 20 []).getD j 0)) ∨ (r_154w20_27 f (nI (p + 5)) x3 (nI i) M = 0 ∧ ¬ (x3 = 1 ∧ ∀ j, i ≤ j → j < 5 → T (p + j) = Int32.ofNat ((ux_words.getD 20 []).getD j 0)))) := by
  have hN := h.1
  have h10 : ¬ (1 : Int32) = 0 := by decide
  have h01 : ¬ (0 : Int32) = 1 := by decide
  intro n
  induction n with
  | zero =>
    intro f i x3 hi hf hx
    obtain ⟨f, rfl⟩ : ∃ g, f = g + 1 := ⟨f - 1, by omega⟩
    have le : nI (p + 5) ≤ nI (p + i) := (z_le (by omega) (by omega)).mpr (by omega)
    rw [p_154w20_27, r_154w20_27, hb, z_add]
    rcases hx with rfl | rfl
    · rw [if_pos rfl]
      exact ⟨⟨fun _ => .inl rfl, fun z => absurd rfl z⟩, .inr ⟨rfl, fun z => h01 z.1⟩⟩
    · rw [if_neg h10, if_pos le]
      exact ⟨⟨fun z => absurd z h10, fun _ => ⟨fun _ => .inr rfl, fun z => absurd le z⟩⟩, .inl ⟨rfl, rfl, fun j z1 z2 => absurd z2 (by omega)⟩⟩
  | succ n ih =>
    intro f i x3 hi hf hx
    obtain ⟨f, rfl⟩ : ∃ g, f = g + 1 := ⟨f - 1, by omega⟩
    have le : ¬ nI (p + 5) ≤ nI (p + i) := fun z => by have := (z_le (by omega) (by omega)).mp z; omega
    obtain ⟨b1, b2⟩ := z_153 (i := p + i) h (by omega)
    rw [if_neg (show ¬ N ≤ p + i by omega)] at b2
    rw [p_154w20_27, r_154w20_27, hb, z_add, b2, z_cls (show i < 2000000000 by omega), z_nx]
    rcases hx with rfl | rfl
    · rw [if_pos rfl]
      exact ⟨⟨fun _ => .inl rfl, fun z => absurd rfl z⟩, .inr ⟨rfl, fun z => h01 z.1⟩⟩
    · have v2 : vp_in (nI i) 5 := vp_in_nI (by omega) (by omega)
      rw [if_neg h10, if_neg le]
      by_cases q : T (p + i) = Int32.ofNat ((ux_words.getD 20 []).getD i 0)
      · obtain ⟨i1, i2⟩ := ih f (i + 1) 1 (by omega) (by omega) (.inr rfl)
        have g : (∀ j, i ≤ j → j < 5 → T (p + j) = Int32.ofNat ((ux_words.getD 20 []).getD j 0)) ↔ ∀ j, i + 1 ≤ j → j < 5 → T (p + j) = Int32.ofNat ((ux_words.getD 20 []).getD j 0) :=
          ⟨fun z j z1 z2 => z j (by omega) z2, fun z j z1 z2 => by
            by_cases e : j = i
            · subst e; exact q
            · exact z j (by omega) z2⟩
        rw [if_pos q, g]
        exact ⟨⟨fun z => absurd z h10, fun _ => ⟨fun z => absurd z le, fun _ => ⟨b1, v2, fun z => absurd q z, fun _ => i1⟩⟩⟩, i2⟩
      · obtain ⟨i1, i2⟩ := ih f (i + 1) 0 (by omega) (by omega) (.inl rfl)
        rw [if_neg q]
        refine ⟨⟨fun z => absurd z h10, fun _ => ⟨fun z => absurd z le, fun _ => ⟨b1, v2, fun _ => i1, fun z => absurd z q⟩⟩⟩, .inr ⟨?_, fun z => q (z.2 i (Nat.le_refl _) (by omega))⟩⟩
        rcases i2 with ⟨_, z, _⟩ | ⟨i2, _⟩
        · exact absurd z h01
        · exact i2
theorem z_154w20 (h : z_rd5 M T N) (hp : p ≤ N) (hb : M 5 819253 0 10 = nI p) : p_154w20 M ∧ ((r_154w20 M = 1 ∧ z_iwd T N p 20 5) ∨ (r_154w20 M = 0 ∧ ¬ z_iwd T N p 20 5)) := by
  have hN := h.1
  obtain ⟨a1, a2⟩ := z_155 h hp hb
  obtain ⟨w1, w2, _, _⟩ := z_xn_b (P := z_xL T N) (N := N) (N - p) p (by omega)
  unfold p_154w20 r_154w20
  rw [a2, hb, z_sbn w1]
  by_cases g : z_xn (z_xL T N) N p - p = 5
  · obtain ⟨b1, b2⟩ := z_154w20l h hb (by omega) 5 ux_fuel 0 1 (by omega) (by have := z_fuel; omega) (.inr rfl)
    have e : nI (z_xn (z_xL T N) N p - p) = Int32.ofNat 5 := by rw [g]; rfl
    have e2 : z_xn (z_xL T N) N p = p + 5 := by omega
    rw [if_pos e]
    rw [← e2] at b1 b2
    refine ⟨⟨a1, fun z => absurd e z, fun _ => b1⟩, ?_⟩
    rcases b2 with ⟨b2, _, b3⟩ | ⟨b2, b3⟩
    · exact .inl ⟨b2, g, fun j hj => b3 j (by omega) hj⟩
    · exact .inr ⟨b2, fun z => b3 ⟨rfl, fun j _ hj => z.2 j hj⟩⟩
  · have e : ¬ nI (z_xn (z_xL T N) N p - p) = Int32.ofNat 5 := fun z => g ((z_eq (b := 5) (by omega) (by omega)).mp z)
    obtain ⟨f, hf⟩ : ∃ f, ux_fuel = f + 1 := ⟨ux_fuel - 1, by have := z_fuel; omega⟩
    have e1 : p_154w20_27 ux_fuel (nI (z_xn (z_xL T N) N p)) 0 0 M := by rw [hf, p_154w20_27]; exact ⟨fun _ => .inl rfl, fun z => absurd rfl z⟩
    have e2 : r_154w20_27 ux_fuel (nI (z_xn (z_xL T N) N p)) 0 0 M = 0 := by rw [hf, r_154w20_27, if_pos rfl]
    rw [if_neg e]
    exact ⟨⟨a1, fun _ => e1, fun z => absurd z e⟩, .inr ⟨e2, fun z => g z.1⟩⟩
theorem z_13w21l (h : z_rd4 M T N) (h4 : M 4 671757 0 4 = nI p) (hp : p + 6 ≤ N) : ∀ n f i, i + n = 6 → n < f → p_13w21_28 f (nI i) M ∧ ((r_13w21_28 f (nI i) M = 1 ∧ ∀ j, i ≤ j → j < 6 → T (p + j) = Int32.ofNat ((ux_words.getD 21 []).getD j 0)) ∨ (r_13w21_28 f (nI i) M = 0 ∧ ¬ ∀ j, i ≤ j → j < 6 → T (p + j) = Int32.ofNat ((ux_words.getD 21 []).getD j 0))) := by
  obtain ⟨hN, h1, h2, hT⟩ := h
  intro n
  induction n with
  | zero =>
    intro f i hi hf
    obtain ⟨f, rfl⟩ : ∃ g, f = g + 1 := ⟨f - 1, by omega⟩
    have le : Int32.ofNat 6 ≤ nI i := (z_le (a := 6) (by omega) (by omega)).mpr (by omega)
    rw [p_13w21_28, r_13w21_28, if_pos le]
    exact ⟨⟨fun _ => trivial, fun z => absurd le z⟩, .inl ⟨rfl, fun j z1 z2 => absurd z2 (by omega)⟩⟩
  | succ n ih =>
    intro f i hi hf
    obtain ⟨f, rfl⟩ : ∃ g, f = g + 1 := ⟨f - 1, by omega⟩
    have le : ¬ Int32.ofNat 6 ≤ nI i := fun z => by have := (z_le (a := 6) (by omega) (by omega)).mp z; omega
    have le8 : ¬ Int32.ofNat 800 ≤ nI (p + i) := fun z => by have := (z_le (a := 800) (by omega) (by omega)).mp z; omega
    rw [p_13w21_28, r_13w21_28, if_neg le, h4, z_add, if_neg le8, h1, z_cls (show p + i < 2000000000 by omega), z_cls (show i < 2000000000 by omega), hT (p + i) (by omega), z_nx]
    have v1 : vp_in (nI (p + i)) 800 := vp_in_nI (by omega) (by omega)
    have v2 : vp_in (nI i) 6 := vp_in_nI (by omega) (by omega)
    by_cases q : T (p + i) = Int32.ofNat ((ux_words.getD 21 []).getD i 0)
    · obtain ⟨i1, i2⟩ := ih f (i + 1) (by omega) (by omega)
      have g : (∀ j, i ≤ j → j < 6 → T (p + j) = Int32.ofNat ((ux_words.getD 21 []).getD j 0)) ↔ ∀ j, i + 1 ≤ j → j < 6 → T (p + j) = Int32.ofNat ((ux_words.getD 21 []).getD j 0) :=
        ⟨fun z j z1 z2 => z j (by omega) z2, fun z j z1 z2 => by
          by_cases e : j = i
          · subst e; exact q
          · exact z j (by omega) z2⟩
      rw [if_pos q, g]
      exact ⟨⟨fun z => absurd z le, fun _ => ⟨rfl, fun z => absurd z le8, fun _ => ⟨rfl, v1, v2, fun _ => i1, fun z => absurd q z⟩⟩⟩, i2⟩
    · rw [if_neg q]
      exact ⟨⟨fun z => absurd z le, fun _ => ⟨rfl, fun z => absurd z le8, fun _ => ⟨rfl, v1, v2, fun z => absurd z q, fun _ => trivial⟩⟩⟩, .inr ⟨rfl, fun z => q (z i (Nat.le_refl _) (by omega))⟩⟩
theorem z_13w21 (h : z_rd4 M T N) (hp : p ≤ N) (h3 : M 4 671757 0 3 = z_xp T N p) (h4 : M 4 671757 0 4 = nI p) (h5 : M 4 671757 0 5 = nI (z_xe T N p)) : p_13w21 M ∧ ((r_13w21 M = 1 ∧ z_iwd T N p 21 6) ∨ (r_13w21 M = 0 ∧ ¬ z_iwd T N p 21 6)) := by
  have hN := h.1
  obtain ⟨x1, x2, x3⟩ := z_xpe (T := T) hp
  unfold p_13w21 r_13w21
  rw [h3]
  by_cases q : z_xL T N p = true
  · obtain ⟨y1, y2⟩ := x2 q
    obtain ⟨_, w2, _, _⟩ := z_xn_b (P := z_xL T N) (N := N) (N - p) p (by omega)
    rw [h4, h5, y1, z_sbn (show p ≤ z_xn (z_xL T N) N p by omega), if_pos (x1.mpr q)]
    by_cases g : z_xn (z_xL T N) N p - p = 6
    · obtain ⟨a1, a2⟩ := z_13w21l h h4 (by omega) 6 ux_fuel 0 (by omega) (by have := z_fuel; omega)
      have e : nI (z_xn (z_xL T N) N p - p) = Int32.ofNat 6 := by rw [g]; rfl
      rw [if_pos e]
      refine ⟨⟨fun z => absurd (x1.mpr q) z, fun _ => ⟨fun _ => a1, fun z => absurd e z⟩⟩, ?_⟩
      rcases a2 with ⟨a2, a3⟩ | ⟨a2, a3⟩
      · exact .inl ⟨a2, g, fun j hj => a3 j (by omega) hj⟩
      · exact .inr ⟨a2, fun z => a3 (fun j _ hj => z.2 j hj)⟩
    · have e : ¬ nI (z_xn (z_xL T N) N p - p) = Int32.ofNat 6 := fun z => g ((z_eq (b := 6) (by omega) (by omega)).mp z)
      rw [if_neg e]
      exact ⟨⟨fun z => absurd (x1.mpr q) z, fun _ => ⟨fun z => absurd z e, fun _ => trivial⟩⟩, .inr ⟨rfl, fun z => g z.1⟩⟩
  · have n1 : ¬ z_xp T N p = 1 := fun z => q (x1.mp z)
    rw [if_neg n1]
    exact ⟨⟨fun _ => trivial, fun z => absurd z n1⟩, .inr ⟨rfl, fun z => by have := z.1; rw [x3 q] at this; omega⟩⟩
theorem z_154w21l (h : z_rd5 M T N) (hb : M 5 819253 0 10 = nI p) (hp : p + 6 ≤ N) : ∀ n f i (x3 : Int32), i + n = 6 → n < f → (x3 = 0 ∨ x3 = 1) → p_154w21_27 f (nI (p + 6)) x3 (nI i) M ∧ ((r_154w21_27 f (nI (p + 6)) x3 (nI i) M = 1 ∧ x3 = 1 ∧ ∀ j, i ≤ j → j < 6 → T (p + j) = Int32.ofNat ((ux_words.getD 21 []).getD j 0)) ∨ (r_154w21_27 f (nI (p + 6)) x3 (nI i) M = 0 ∧ ¬ (x3 = 1 ∧ ∀ j, i ≤ j → j < 6 → T (p + j) = Int32.ofNat ((ux_words.getD 21 []).getD j 0)))) := by
  have hN := h.1
  have h10 : ¬ (1 : Int32) = 0 := by decide
  have h01 : ¬ (0 : Int32) = 1 := by decide
  intro n
  induction n with
  | zero =>
    intro f i x3 hi hf hx
    obtain ⟨f, rfl⟩ : ∃ g, f = g + 1 := ⟨f - 1, by omega⟩
    have le : nI (p + 6) ≤ nI (p + i) := (z_le (by omega) (by omega)).mpr (by omega)
    rw [p_154w21_27, r_154w21_27, hb, z_add]
    rcases hx with rfl | rfl
    · rw [if_pos rfl]
      exact ⟨⟨fun _ => .inl rfl, fun z => absurd rfl z⟩, .inr ⟨rfl, fun z => h01 z.1⟩⟩
    · rw [if_neg h10, if_pos le]
      exact ⟨⟨fun z => absurd z h10, fun _ => ⟨fun _ => .inr rfl, fun z => absurd le z⟩⟩, .inl ⟨rfl, rfl, fun j z1 z2 => absurd z2 (by omega)⟩⟩
  | succ n ih =>
    intro f i x3 hi hf hx
    obtain ⟨f, rfl⟩ : ∃ g, f = g + 1 := ⟨f - 1, by omega⟩
    have le : ¬ nI (p + 6) ≤ nI (p + i) := fun z => by have := (z_le (by omega) (by omega)).mp z; omega
    obtain ⟨b1, b2⟩ := z_153 (i := p + i) h (by omega)
    rw [if_neg (show ¬ N ≤ p + i by omega)] at b2
    rw [p_154w21_27, r_154w21_27, hb, z_add, b2, z_cls (show i < 2000000000 by omega), z_nx]
    rcases hx with rfl | rfl
    · rw [if_pos rfl]
      exact ⟨⟨fun _ => .inl rfl, fun z => absurd rfl z⟩, .inr ⟨rfl, fun z => h01 z.1⟩⟩
    · have v2 : vp_in (nI i) 6 := vp_in_nI (by omega) (by omega)
      rw [if_neg h10, if_neg le]
      by_cases q : T (p + i) = Int32.ofNat ((ux_words.getD 21 []).getD i 0)
      · obtain ⟨i1, i2⟩ := ih f (i + 1) 1 (by omega) (by omega) (.inr rfl)
        have g : (∀ j, i ≤ j → j < 6 → T (p + j) = Int32.ofNat ((ux_words.getD 21 []).getD j 0)) ↔ ∀ j, i + 1 ≤ j → j < 6 → T (p + j) = Int32.ofNat ((ux_words.getD 21 []).getD j 0) :=
          ⟨fun z j z1 z2 => z j (by omega) z2, fun z j z1 z2 => by
            by_cases e : j = i
            · subst e; exact q
            · exact z j (by omega) z2⟩
        rw [if_pos q, g]
        exact ⟨⟨fun z => absurd z h10, fun _ => ⟨fun z => absurd z le, fun _ => ⟨b1, v2, fun z => absurd q z, fun _ => i1⟩⟩⟩, i2⟩
      · obtain ⟨i1, i2⟩ := ih f (i + 1) 0 (by omega) (by omega) (.inl rfl)
        rw [if_neg q]
        refine ⟨⟨fun z => absurd z h10, fun _ => ⟨fun z => absurd z le, fun _ => ⟨b1, v2, fun _ => i1, fun z => absurd z q⟩⟩⟩, .inr ⟨?_, fun z => q (z.2 i (Nat.le_refl _) (by omega))⟩⟩
        rcases i2 with ⟨_, z, _⟩ | ⟨i2, _⟩
        · exact absurd z h01
        · exact i2
theorem z_154w21 (h : z_rd5 M T N) (hp : p ≤ N) (hb : M 5 819253 0 10 = nI p) : p_154w21 M ∧ ((r_154w21 M = 1 ∧ z_iwd T N p 21 6) ∨ (r_154w21 M = 0 ∧ ¬ z_iwd T N p 21 6)) := by
  have hN := h.1
  obtain ⟨a1, a2⟩ := z_155 h hp hb
  obtain ⟨w1, w2, _, _⟩ := z_xn_b (P := z_xL T N) (N := N) (N - p) p (by omega)
  unfold p_154w21 r_154w21
  rw [a2, hb, z_sbn w1]
  by_cases g : z_xn (z_xL T N) N p - p = 6
  · obtain ⟨b1, b2⟩ := z_154w21l h hb (by omega) 6 ux_fuel 0 1 (by omega) (by have := z_fuel; omega) (.inr rfl)
    have e : nI (z_xn (z_xL T N) N p - p) = Int32.ofNat 6 := by rw [g]; rfl
    have e2 : z_xn (z_xL T N) N p = p + 6 := by omega
    rw [if_pos e]
    rw [← e2] at b1 b2
    refine ⟨⟨a1, fun z => absurd e z, fun _ => b1⟩, ?_⟩
    rcases b2 with ⟨b2, _, b3⟩ | ⟨b2, b3⟩
    · exact .inl ⟨b2, g, fun j hj => b3 j (by omega) hj⟩
    · exact .inr ⟨b2, fun z => b3 ⟨rfl, fun j _ hj => z.2 j hj⟩⟩
  · have e : ¬ nI (z_xn (z_xL T N) N p - p) = Int32.ofNat 6 := fun z => g ((z_eq (b := 6) (by omega) (by omega)).mp z)
    obtain ⟨f, hf⟩ : ∃ f, ux_fuel = f + 1 := ⟨ux_fuel - 1, by have := z_fuel; omega⟩
    have e1 : p_154w21_27 ux_fuel (nI (z_xn (z_xL T N) N p)) 0 0 M := by rw [hf, p_154w21_27]; exact ⟨fun _ => .inl rfl, fun z => absurd rfl z⟩
    have e2 : r_154w21_27 ux_fuel (nI (z_xn (z_xL T N) N p)) 0 0 M = 0 := by rw [hf, r_154w21_27, if_pos rfl]
    rw [if_neg e]
    exact ⟨⟨a1, fun _ => e1, fun z => absurd z e⟩, .inr ⟨e2, fun z => g z.1⟩⟩
end ZL2
