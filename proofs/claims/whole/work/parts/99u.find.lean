/-! NAMES: find (by wip/whole/gen99u.py) -/
section ZN1
variable {k c b u v n s i j fr sz : Nat} {M M' Z m m' : ux_M} {x y w : Int32}
def z_nm (k : Nat) (M : ux_M) (fr sz v : Nat) : Prop := M k 376961 0 v = nI sz ∧ ∀ j, j < sz → M k 394241 0 (v * 8 + j) = M 4 694529 0 (fr + j)
def z_nr (s : Nat) (M : ux_M) (fr sz v : Nat) : Prop := M 5 s 0 (188 + 56 * v + 1) = nI sz ∧ ∀ j, j < sz → M 5 s 0 (188 + 56 * v + 2 + j) = M 5 940289 0 (fr + j)
theorem z_ix8 (a b : Nat) : nI a * (8 : Int32) + nI b = nI (a * 8 + b) := by
  show Int32.ofNat a * Int32.ofNat 8 + Int32.ofNat b = Int32.ofNat _
  rw [← Int32.ofNat_mul, ← Int32.ofNat_add]
theorem z_ixu (a : Nat) : (188 : Int32) + (56 : Int32) * nI a = nI (188 + 56 * a) := by
  show Int32.ofNat 188 + Int32.ofNat 56 * Int32.ofNat a = Int32.ofNat _
  rw [← Int32.ofNat_mul, ← Int32.ofNat_add]
theorem z_ixn (a b : Nat) : (188 : Int32) + (56 : Int32) * nI a + (2 : Int32) + nI b = nI (188 + 56 * a + 2 + b) := by
  rw [z_ixu]; show nI (188 + 56 * a) + nI 2 + nI b = _; rw [z_add, z_add]
theorem z_ixl (a : Nat) : (188 : Int32) + (56 : Int32) * nI a + (1 : Int32) = nI (188 + 56 * a + 1) := by
  rw [z_ixu]; exact z_nx _
theorem z_15i {kp : Nat → Int32 → Int32 → Int32 → ux_M → Prop} {kr : Nat → Int32 → Int32 → Int32 → ux_M → Int32} {km : Nat → Int32 → Int32 → Int32 → ux_M → ux_M} (hu : u < 16) (hs : sz ≤ 8) (hf : fr + sz ≤ 800) : ∀ (n f i : Nat) (x5 : Int32), i + n = sz → n < f → (x5 = 0 ∨ x5 = 1) →
    ((¬ (x5 = 1 ∧ ∀ j, i ≤ j → j < sz → M k 394241 0 (u * 8 + j) = M 4 694529 0 (fr + j)) → kp k (nI fr) (nI sz) (nI (u + 1)) M) → p_15_53 kp f k (nI fr) (nI sz) (nI u) x5 (nI i) M)
    ∧ ((x5 = 1 ∧ ∀ j, i ≤ j → j < sz → M k 394241 0 (u * 8 + j) = M 4 694529 0 (fr + j)) → r_15_53 kr f k (nI fr) (nI sz) (nI u) x5 (nI i) M = nI u ∧ m_15_53 km f k (nI fr) (nI sz) (nI u) x5 (nI i) M = M)
    ∧ (¬ (x5 = 1 ∧ ∀ j, i ≤ j → j < sz → M k 394241 0 (u * 8 + j) = M 4 694529 0 (fr + j)) → r_15_53 kr f k (nI fr) (nI sz) (nI u) x5 (nI i) M = kr k (nI fr) (nI sz) (nI (u + 1)) M ∧ m_15_53 km f k (nI fr) (nI sz) (nI u) x5 (nI i) M = km k (nI fr) (nI sz) (nI (u + 1)) M) := by
  have h10 : ¬ (1 : Int32) = 0 := by decide
  have h01 : ¬ (0 : Int32) = 1 := by decide
  intro n
  induction n with
  | zero =>
    intro f i x5 hi hn h5
    obtain ⟨f, rfl⟩ : ∃ g, f = g + 1 := ⟨f - 1, by omega⟩
    have hle : nI sz ≤ nI i := (z_le (by omega) (by omega)).mpr (by omega)
    rw [p_15_53, r_15_53, m_15_53, z_nx]
    rcases h5 with rfl | rfl
    · rw [if_pos rfl, if_pos rfl, if_pos rfl, if_pos rfl]
      exact ⟨fun h => ⟨fun _ => ⟨fun _ => h (fun z => h01 z.1), fun z => absurd rfl z⟩, fun z => absurd rfl z⟩, fun z => absurd z.1 h01, fun _ => ⟨rfl, rfl⟩⟩
    · rw [if_neg h10, if_neg h10, if_pos hle, if_pos hle, if_neg h10, if_neg h10]
      exact ⟨fun h => ⟨fun z => absurd z h10, fun _ => ⟨fun _ => ⟨fun z => absurd z h10, fun _ => trivial⟩, fun z => absurd hle z⟩⟩, fun _ => ⟨rfl, rfl⟩, fun z => absurd ⟨rfl, fun j h1 h2 => absurd h2 (by omega)⟩ z⟩
  | succ n ih =>
    intro f i x5 hi hn h5
    obtain ⟨f, rfl⟩ : ∃ g, f = g + 1 := ⟨f - 1, by omega⟩
    have hle : ¬ nI sz ≤ nI i := fun z => by have := (z_le (by omega) (by omega)).mp z; omega
    rw [p_15_53, r_15_53, m_15_53, z_nx, z_ix8, z_add, z_nx, z_cls (show u * 8 + i < 2000000000 by omega), z_cls (show fr + i < 2000000000 by omega)]
    rcases h5 with rfl | rfl
    · rw [if_pos rfl, if_pos rfl, if_pos rfl, if_pos rfl]
      exact ⟨fun h => ⟨fun _ => ⟨fun _ => h (fun z => h01 z.1), fun z => absurd rfl z⟩, fun z => absurd rfl z⟩, fun z => absurd z.1 h01, fun _ => ⟨rfl, rfl⟩⟩
    · have v1 : vp_in (nI (u * 8 + i)) 128 := vp_in_nI (by omega) (by omega)
      have v2 : vp_in (nI (fr + i)) 800 := vp_in_nI (by omega) (by omega)
      rw [if_neg h10, if_neg h10, if_neg hle, if_neg hle]
      by_cases q : M k 394241 0 (u * 8 + i) = M 4 694529 0 (fr + i)
      · obtain ⟨i1, i2, i3⟩ := ih f (i + 1) 1 (by omega) (by omega) (.inr rfl)
        have g : (∀ j, i ≤ j → j < sz → M k 394241 0 (u * 8 + j) = M 4 694529 0 (fr + j)) ↔ ∀ j, i + 1 ≤ j → j < sz → M k 394241 0 (u * 8 + j) = M 4 694529 0 (fr + j) :=
          ⟨fun h j h1 h2 => h j (by omega) h2, fun h j h1 h2 => by
            by_cases e : j = i
            · subst e; exact q
            · exact h j (by omega) h2⟩
        rw [if_pos q, if_pos q, g]
        exact ⟨fun h => ⟨fun z => absurd z h10, fun _ => ⟨fun z => absurd z hle, fun _ => ⟨v1, v2, fun z => absurd q z, fun _ => i1 h⟩⟩⟩, i2, i3⟩
      · obtain ⟨i1, i2, i3⟩ := ih f (i + 1) 0 (by omega) (by omega) (.inl rfl)
        have ng : ¬ ((1 : Int32) = 1 ∧ ∀ j, i ≤ j → j < sz → M k 394241 0 (u * 8 + j) = M 4 694529 0 (fr + j)) := fun z => q (z.2 i (Nat.le_refl _) (by omega))
        rw [if_neg q, if_neg q]
        exact ⟨fun h => ⟨fun z => absurd z h10, fun _ => ⟨fun z => absurd z hle, fun _ => ⟨v1, v2, fun _ => i1 (fun _ => h ng), fun z => absurd z q⟩⟩⟩, fun z => absurd z ng, fun _ => i3 (fun z => h01 z.1)⟩
theorem z_15l (hc : M k 344085 0 0 = nI c) (h16 : c ≤ 16) (hs : sz ≤ 8) (hf : fr + sz ≤ 800) : ∀ (n f u : Nat), u + n = c → n < f → p_15_23 f k (nI fr) (nI sz) (nI u) M ∧ m_15_23 f k (nI fr) (nI sz) (nI u) M = M ∧ ((r_15_23 f k (nI fr) (nI sz) (nI u) M = -1 ∧ ∀ v, u ≤ v → v < c → ¬ z_nm k M fr sz v) ∨ ∃ v, u ≤ v ∧ v < c ∧ z_nm k M fr sz v ∧ r_15_23 f k (nI fr) (nI sz) (nI u) M = nI v) := by
  intro n
  induction n with
  | zero =>
    intro f u hu hn
    obtain ⟨f, rfl⟩ : ∃ g, f = g + 1 := ⟨f - 1, by omega⟩
    have hle := z_yle (show c ≤ u by omega) (by omega)
    rw [p_15_23, r_15_23, m_15_23, hc, if_pos hle, if_pos hle]
    exact ⟨⟨fun _ => trivial, fun z => absurd hle z⟩, rfl, .inl ⟨rfl, fun v h1 h2 => absurd h2 (by omega)⟩⟩
  | succ n ih =>
    intro f u hu hn
    obtain ⟨f, rfl⟩ : ∃ g, f = g + 1 := ⟨f - 1, by omega⟩
    have uc : u < c := by omega
    have hle := z_nle uc h16
    have fu : sz < ux_fuel := by have := z_fuel; omega
    obtain ⟨j1, j2, j3⟩ := ih f (u + 1) (by omega) (by omega)
    have step : ∀ x5 : Int32, (x5 = 0 ∨ x5 = 1) → (x5 = 1 ↔ M k 376961 0 u = nI sz) →
        p_15_53 (fun a0 a1 a2 a3 a4 => p_15_23 f a0 a1 a2 a3 a4) ux_fuel k (nI fr) (nI sz) (nI u) x5 (nI 0) M ∧ m_15_53 (fun a0 a1 a2 a3 a4 => m_15_23 f a0 a1 a2 a3 a4) ux_fuel k (nI fr) (nI sz) (nI u) x5 (nI 0) M = M ∧ ((r_15_53 (fun a0 a1 a2 a3 a4 => r_15_23 f a0 a1 a2 a3 a4) ux_fuel k (nI fr) (nI sz) (nI u) x5 (nI 0) M = -1 ∧ ∀ v, u ≤ v → v < c → ¬ z_nm k M fr sz v) ∨ ∃ v, u ≤ v ∧ v < c ∧ z_nm k M fr sz v ∧ r_15_53 (fun a0 a1 a2 a3 a4 => r_15_23 f a0 a1 a2 a3 a4) ux_fuel k (nI fr) (nI sz) (nI u) x5 (nI 0) M = nI v) := by
      intro x5 h5 e5
      obtain ⟨i1, i2, i3⟩ := z_15i (k := k) (M := M) (fr := fr) (kp := fun a0 a1 a2 a3 a4 => p_15_23 f a0 a1 a2 a3 a4) (kr := fun a0 a1 a2 a3 a4 => r_15_23 f a0 a1 a2 a3 a4) (km := fun a0 a1 a2 a3 a4 => m_15_23 f a0 a1 a2 a3 a4) (show u < 16 by omega) hs hf sz ux_fuel 0 x5 (by omega) fu h5
      by_cases q : x5 = 1 ∧ ∀ j, 0 ≤ j → j < sz → M k 394241 0 (u * 8 + j) = M 4 694529 0 (fr + j)
      · obtain ⟨a, b⟩ := i2 q
        exact ⟨i1 (fun z => absurd q z), b, .inr ⟨u, Nat.le_refl _, uc, ⟨e5.mp q.1, fun j hj => q.2 j (by omega) hj⟩, a⟩⟩
      · obtain ⟨a, b⟩ := i3 q
        have nu : ¬ z_nm k M fr sz u := fun z => q ⟨e5.mpr z.1, fun j _ hj => z.2 j hj⟩
        refine ⟨i1 (fun _ => j1), b.trans j2, ?_⟩
        rw [a]
        rcases j3 with ⟨j3, j4⟩ | ⟨v, v1, v2, v3, v4⟩
        · exact .inl ⟨j3, fun v h1 h2 => by
            by_cases e : v = u
            · subst e; exact nu
            · exact j4 v (by omega) h2⟩
        · exact .inr ⟨v, by omega, v2, v3, v4⟩
    have s0 := step 0 (.inl rfl)
    have s1 := step 1 (.inr rfl)
    rw [p_15_23, r_15_23, m_15_23, hc, if_neg hle, if_neg hle, z_cl (show u < 16 by omega)]
    have vu : vp_in (nI u) 16 := z_i16 (by omega)
    by_cases q : M k 376961 0 u = nI sz
    · obtain ⟨a1, a2, a3⟩ := s1 ⟨fun _ => q, fun _ => rfl⟩
      rw [if_pos q, if_pos q]
      exact ⟨⟨fun z => absurd z hle, fun _ => ⟨vu, fun z => absurd q z, fun _ => a1⟩⟩, a2, a3⟩
    · obtain ⟨a1, a2, a3⟩ := s0 ⟨fun z => absurd z (by decide), fun z => absurd z q⟩
      rw [if_neg q, if_neg q]
      exact ⟨⟨fun z => absurd z hle, fun _ => ⟨vu, fun _ => a1, fun z => absurd z q⟩⟩, a2, a3⟩
/-- the class's named -/
theorem z_15 (hc : M k 344085 0 0 = nI c) (h16 : c ≤ 16) (hf : fr + sz ≤ 800) : p_15 k (nI fr) (nI sz) M ∧ m_15 k (nI fr) (nI sz) M = M ∧ ((r_15 k (nI fr) (nI sz) M = -1 ∧ (sz ≤ 8 → ∀ v, v < c → ¬ z_nm k M fr sz v)) ∨ (sz ≤ 8 ∧ ∃ v, v < c ∧ z_nm k M fr sz v ∧ r_15 k (nI fr) (nI sz) M = nI v)) := by
  have n0 : ¬ nI fr < 0 := nI_pos (by omega)
  have le : nI fr + nI sz ≤ Int32.ofNat 800 := by rw [z_add]; exact (z_le (b := 800) (by omega) (by omega)).mpr hf
  unfold p_15 r_15 m_15
  rw [if_neg n0, if_neg n0]
  by_cases q : sz ≤ 8
  · have q8 : ¬ (8 : Int32) < nI sz := fun z => by have := (z_lt (a := 8) (by omega) (by omega)).mp z; omega
    obtain ⟨a1, a2, a3⟩ := z_15l hc h16 q hf c ux_fuel 0 (by omega) (by have := z_fuel; omega)
    rw [if_neg q8, if_neg q8, if_pos le, if_pos le]
    refine ⟨⟨fun z => absurd z n0, fun _ => ⟨fun z => absurd z q8, fun _ => ⟨fun _ => a1, fun z => absurd le z⟩⟩⟩, a2, ?_⟩
    rcases a3 with ⟨a3, a4⟩ | ⟨v, v1, v2, v3, v4⟩
    · exact .inl ⟨a3, fun _ v hv => a4 v (by omega) hv⟩
    · exact .inr ⟨q, v, v2, v3, v4⟩
  · have q8 : (8 : Int32) < nI sz := (z_lt (a := 8) (by omega) (by omega)).mpr (by omega)
    rw [if_pos q8, if_pos q8]
    exact ⟨⟨fun z => absurd z n0, fun _ => ⟨fun _ => trivial, fun z => absurd q8 z⟩⟩, rfl, .inl ⟨rfl, fun z => absurd z q⟩⟩
theorem z_163wl (hv : v < 16) (hs : sz ≤ 8) (hf : fr + sz ≤ 800) : ∀ (n f i : Nat) (x5 : Int32), i + n = sz → n < f → (x5 = 0 ∨ x5 = 1) →
    p_163w_23 f (nI v) (nI fr) (nI sz) x5 (nI i) M
    ∧ ((x5 = 1 ∧ ∀ j, i ≤ j → j < sz → M 5 844257 0 (188 + 56 * v + 2 + j) = M 5 940289 0 (fr + j)) → r_163w_23 f (nI v) (nI fr) (nI sz) x5 (nI i) M = 1)
    ∧ (¬ (x5 = 1 ∧ ∀ j, i ≤ j → j < sz → M 5 844257 0 (188 + 56 * v + 2 + j) = M 5 940289 0 (fr + j)) → r_163w_23 f (nI v) (nI fr) (nI sz) x5 (nI i) M = 0) := by
  have h10 : ¬ (1 : Int32) = 0 := by decide
  have h01 : ¬ (0 : Int32) = 1 := by decide
  intro n
  induction n with
  | zero =>
    intro f i x5 hi hn h5
    obtain ⟨f, rfl⟩ : ∃ g, f = g + 1 := ⟨f - 1, by omega⟩
    have hle : nI sz ≤ nI i := (z_le (by omega) (by omega)).mpr (by omega)
    rw [p_163w_23, r_163w_23]
    rcases h5 with rfl | rfl
    · rw [if_pos rfl]
      exact ⟨⟨fun _ => .inl rfl, fun z => absurd rfl z⟩, fun z => absurd z.1 h01, fun _ => rfl⟩
    · rw [if_neg h10, if_pos hle]
      exact ⟨⟨fun z => absurd z h10, fun _ => ⟨fun _ => .inr rfl, fun z => absurd hle z⟩⟩, fun _ => rfl, fun z => absurd ⟨rfl, fun j h1 h2 => absurd h2 (by omega)⟩ z⟩
  | succ n ih =>
    intro f i x5 hi hn h5
    obtain ⟨f, rfl⟩ : ∃ g, f = g + 1 := ⟨f - 1, by omega⟩
    have hle : ¬ nI sz ≤ nI i := fun z => by have := (z_le (by omega) (by omega)).mp z; omega
    rw [p_163w_23, r_163w_23, z_ixn, z_add, z_nx, z_cls (show 188 + 56 * v + 2 + i < 2000000000 by omega), z_cls (show fr + i < 2000000000 by omega)]
    rcases h5 with rfl | rfl
    · rw [if_pos rfl]
      exact ⟨⟨fun _ => .inl rfl, fun z => absurd rfl z⟩, fun z => absurd z.1 h01, fun _ => rfl⟩
    · have v1 : vp_in (nI (188 + 56 * v + 2 + i)) 1084 := vp_in_nI (by omega) (by omega)
      have v2 : vp_in (nI (fr + i)) 800 := vp_in_nI (by omega) (by omega)
      rw [if_neg h10, if_neg hle]
      by_cases q : M 5 844257 0 (188 + 56 * v + 2 + i) = M 5 940289 0 (fr + i)
      · obtain ⟨i1, i2, i3⟩ := ih f (i + 1) 1 (by omega) (by omega) (.inr rfl)
        have g : (∀ j, i ≤ j → j < sz → M 5 844257 0 (188 + 56 * v + 2 + j) = M 5 940289 0 (fr + j)) ↔ ∀ j, i + 1 ≤ j → j < sz → M 5 844257 0 (188 + 56 * v + 2 + j) = M 5 940289 0 (fr + j) :=
          ⟨fun h j h1 h2 => h j (by omega) h2, fun h j h1 h2 => by
            by_cases e : j = i
            · subst e; exact q
            · exact h j (by omega) h2⟩
        rw [if_pos q, g]
        exact ⟨⟨fun z => absurd z h10, fun _ => ⟨fun z => absurd z hle, fun _ => ⟨v1, v2, fun z => absurd q z, fun _ => i1⟩⟩⟩, i2, i3⟩
      · obtain ⟨i1, i2, i3⟩ := ih f (i + 1) 0 (by omega) (by omega) (.inl rfl)
        rw [if_neg q]
        exact ⟨⟨fun z => absurd z h10, fun _ => ⟨fun z => absurd z hle, fun _ => ⟨v1, v2, fun _ => i1, fun z => absurd z q⟩⟩⟩, fun z => absurd (z.2 i (Nat.le_refl _) (by omega)) q, fun _ => i3 (fun z => h01 z.1)⟩
theorem z_163w (hv : v < 16) (h8 : sz ≤ 8 ∨ ¬ M 5 844257 0 (188 + 56 * v + 1) = nI sz) (hf : fr + sz ≤ 800) : p_163w (nI v) (nI fr) (nI sz) M ∧ ((r_163w (nI v) (nI fr) (nI sz) M = 1 ∧ z_nr 844257 M fr sz v) ∨ (r_163w (nI v) (nI fr) (nI sz) M = 0 ∧ ¬ z_nr 844257 M fr sz v)) := by
  have h01 : ¬ (0 : Int32) = 1 := by decide
  have v1 : vp_in (nI (188 + 56 * v + 1)) 1084 := vp_in_nI (by omega) (by omega)
  unfold p_163w r_163w
  rw [z_ixl, z_cls (show 188 + 56 * v + 1 < 2000000000 by omega)]
  by_cases q : M 5 844257 0 (188 + 56 * v + 1) = nI sz
  · have hs : sz ≤ 8 := h8.elim id (fun z => absurd q z)
    obtain ⟨i1, i2, i3⟩ := z_163wl (M := M) hv hs hf sz ux_fuel 0 1 (by omega) (by have := z_fuel; omega) (.inr rfl)
    rw [if_pos q]
    refine ⟨⟨v1, fun z => absurd q z, fun _ => i1⟩, ?_⟩
    by_cases g : ∀ j, 0 ≤ j → j < sz → M 5 844257 0 (188 + 56 * v + 2 + j) = M 5 940289 0 (fr + j)
    · exact .inl ⟨i2 ⟨rfl, g⟩, q, fun j hj => g j (by omega) hj⟩
    · exact .inr ⟨i3 (fun z => g z.2), fun z => g (fun j _ hj => z.2 j hj)⟩
  · rw [if_neg q]
    obtain ⟨g, hg⟩ : ∃ g, ux_fuel = g + 1 := ⟨ux_fuel - 1, by have := z_fuel; omega⟩
    have e1 : p_163w_23 ux_fuel (nI v) (nI fr) (nI sz) 0 0 M := by rw [hg, p_163w_23]; exact ⟨fun _ => .inl rfl, fun z => absurd rfl z⟩
    have e2 : r_163w_23 ux_fuel (nI v) (nI fr) (nI sz) 0 0 M = 0 := by rw [hg, r_163w_23, if_pos rfl]
    exact ⟨⟨v1, fun _ => e1, fun z => absurd z q⟩, .inr ⟨e2, fun z => q z.1⟩⟩
theorem z_163fl (hv : v < 16) (hs : sz ≤ 8) (hf : fr + sz ≤ 800) : ∀ (n f i : Nat) (x5 : Int32), i + n = sz → n < f → (x5 = 0 ∨ x5 = 1) →
    p_163f_23 f (nI v) (nI fr) (nI sz) x5 (nI i) M
    ∧ ((x5 = 1 ∧ ∀ j, i ≤ j → j < sz → M 5 877025 0 (188 + 56 * v + 2 + j) = M 5 940289 0 (fr + j)) → r_163f_23 f (nI v) (nI fr) (nI sz) x5 (nI i) M = 1)
    ∧ (¬ (x5 = 1 ∧ ∀ j, i ≤ j → j < sz → M 5 877025 0 (188 + 56 * v + 2 + j) = M 5 940289 0 (fr + j)) → r_163f_23 f (nI v) (nI fr) (nI sz) x5 (nI i) M = 0) := by
  have h10 : ¬ (1 : Int32) = 0 := by decide
  have h01 : ¬ (0 : Int32) = 1 := by decide
  intro n
  induction n with
  | zero =>
    intro f i x5 hi hn h5
    obtain ⟨f, rfl⟩ : ∃ g, f = g + 1 := ⟨f - 1, by omega⟩
    have hle : nI sz ≤ nI i := (z_le (by omega) (by omega)).mpr (by omega)
    rw [p_163f_23, r_163f_23]
    rcases h5 with rfl | rfl
    · rw [if_pos rfl]
      exact ⟨⟨fun _ => .inl rfl, fun z => absurd rfl z⟩, fun z => absurd z.1 h01, fun _ => rfl⟩
    · rw [if_neg h10, if_pos hle]
      exact ⟨⟨fun z => absurd z h10, fun _ => ⟨fun _ => .inr rfl, fun z => absurd hle z⟩⟩, fun _ => rfl, fun z => absurd ⟨rfl, fun j h1 h2 => absurd h2 (by omega)⟩ z⟩
  | succ n ih =>
    intro f i x5 hi hn h5
    obtain ⟨f, rfl⟩ : ∃ g, f = g + 1 := ⟨f - 1, by omega⟩
    have hle : ¬ nI sz ≤ nI i := fun z => by have := (z_le (by omega) (by omega)).mp z; omega
    rw [p_163f_23, r_163f_23, z_ixn, z_add, z_nx, z_cls (show 188 + 56 * v + 2 + i < 2000000000 by omega), z_cls (show fr + i < 2000000000 by omega)]
    rcases h5 with rfl | rfl
    · rw [if_pos rfl]
      exact ⟨⟨fun _ => .inl rfl, fun z => absurd rfl z⟩, fun z => absurd z.1 h01, fun _ => rfl⟩
    · have v1 : vp_in (nI (188 + 56 * v + 2 + i)) 1084 := vp_in_nI (by omega) (by omega)
      have v2 : vp_in (nI (fr + i)) 800 := vp_in_nI (by omega) (by omega)
      rw [if_neg h10, if_neg hle]
      by_cases q : M 5 877025 0 (188 + 56 * v + 2 + i) = M 5 940289 0 (fr + i)
      · obtain ⟨i1, i2, i3⟩ := ih f (i + 1) 1 (by omega) (by omega) (.inr rfl)
        have g : (∀ j, i ≤ j → j < sz → M 5 877025 0 (188 + 56 * v + 2 + j) = M 5 940289 0 (fr + j)) ↔ ∀ j, i + 1 ≤ j → j < sz → M 5 877025 0 (188 + 56 * v + 2 + j) = M 5 940289 0 (fr + j) :=
          ⟨fun h j h1 h2 => h j (by omega) h2, fun h j h1 h2 => by
            by_cases e : j = i
            · subst e; exact q
            · exact h j (by omega) h2⟩
        rw [if_pos q, g]
        exact ⟨⟨fun z => absurd z h10, fun _ => ⟨fun z => absurd z hle, fun _ => ⟨v1, v2, fun z => absurd q z, fun _ => i1⟩⟩⟩, i2, i3⟩
      · obtain ⟨i1, i2, i3⟩ := ih f (i + 1) 0 (by omega) (by omega) (.inl rfl)
        rw [if_neg q]
        exact ⟨⟨fun z => absurd z h10, fun _ => ⟨fun z => absurd z hle, fun _ => ⟨v1, v2, fun _ => i1, fun z => absurd z q⟩⟩⟩, fun z => absurd (z.2 i (Nat.le_refl _) (by omega)) q, fun _ => i3 (fun z => h01 z.1)⟩
theorem z_163f (hv : v < 16) (h8 : sz ≤ 8 ∨ ¬ M 5 877025 0 (188 + 56 * v + 1) = nI sz) (hf : fr + sz ≤ 800) : p_163f (nI v) (nI fr) (nI sz) M ∧ ((r_163f (nI v) (nI fr) (nI sz) M = 1 ∧ z_nr 877025 M fr sz v) ∨ (r_163f (nI v) (nI fr) (nI sz) M = 0 ∧ ¬ z_nr 877025 M fr sz v)) := by
  have h01 : ¬ (0 : Int32) = 1 := by decide
  have v1 : vp_in (nI (188 + 56 * v + 1)) 1084 := vp_in_nI (by omega) (by omega)
  unfold p_163f r_163f
  rw [z_ixl, z_cls (show 188 + 56 * v + 1 < 2000000000 by omega)]
  by_cases q : M 5 877025 0 (188 + 56 * v + 1) = nI sz
  · have hs : sz ≤ 8 := h8.elim id (fun z => absurd q z)
    obtain ⟨i1, i2, i3⟩ := z_163fl (M := M) hv hs hf sz ux_fuel 0 1 (by omega) (by have := z_fuel; omega) (.inr rfl)
    rw [if_pos q]
    refine ⟨⟨v1, fun z => absurd q z, fun _ => i1⟩, ?_⟩
    by_cases g : ∀ j, 0 ≤ j → j < sz → M 5 877025 0 (188 + 56 * v + 2 + j) = M 5 940289 0 (fr + j)
    · exact .inl ⟨i2 ⟨rfl, g⟩, q, fun j hj => g j (by omega) hj⟩
    · exact .inr ⟨i3 (fun z => g z.2), fun z => g (fun j _ hj => z.2 j hj)⟩
  · rw [if_neg q]
    obtain ⟨g, hg⟩ : ∃ g, ux_fuel = g + 1 := ⟨ux_fuel - 1, by have := z_fuel; omega⟩
    have e1 : p_163f_23 ux_fuel (nI v) (nI fr) (nI sz) 0 0 M := by rw [hg, p_163f_23]; exact ⟨fun _ => .inl rfl, fun z => absurd rfl z⟩
    have e2 : r_163f_23 ux_fuel (nI v) (nI fr) (nI sz) 0 0 M = 0 := by rw [hg, r_163f_23, if_pos rfl]
    exact ⟨⟨v1, fun _ => e1, fun z => absurd z q⟩, .inr ⟨e2, fun z => q z.1⟩⟩
/-- the reference's search: the last one -/
theorem z_174l (hc : M 5 844257 0 1 = nI c) (h16 : c ≤ 16) (hN : M 5 819253 0 8 = nI sz) (hs : sz ≤ 800) : ∀ (n f u : Nat) (x1 : Int32), u + n = c → n < f → p_174_9 f x1 (nI u) M ∧ m_174_9 f x1 (nI u) M = ux_set M 5 819253 0 8 0 ∧ ((r_174_9 f x1 (nI u) M = x1 ∧ (sz ≤ 8 → ∀ v, u ≤ v → v < c → ¬ z_nr 844257 M 0 sz v)) ∨ (sz ≤ 8 ∧ ∃ v, u ≤ v ∧ v < c ∧ z_nr 844257 M 0 sz v ∧ r_174_9 f x1 (nI u) M = nI v)) := by
  intro n
  induction n with
  | zero =>
    intro f u x1 hu hn
    obtain ⟨f, rfl⟩ : ∃ g, f = g + 1 := ⟨f - 1, by omega⟩
    have hle := z_yle (show c ≤ u by omega) (by omega)
    rw [p_174_9, r_174_9, m_174_9, z_c1, hc, if_pos hle, if_pos hle]
    exact ⟨⟨z_v1, fun _ => trivial, fun z => absurd hle z⟩, rfl, .inl ⟨rfl, fun _ v h1 h2 => absurd h2 (by omega)⟩⟩
  | succ n ih =>
    intro f u x1 hu hn
    obtain ⟨f, rfl⟩ : ∃ g, f = g + 1 := ⟨f - 1, by omega⟩
    have uc : u < c := by omega
    have hle := z_nle uc h16
    rw [p_174_9, r_174_9, m_174_9, z_c1, hc, hN, if_neg hle, if_neg hle, z_nx]
    by_cases q : sz ≤ 8
    · have q8 : ¬ (8 : Int32) < nI sz := fun z => by have := (z_lt (a := 8) (by omega) (by omega)).mp z; omega
      obtain ⟨a1, a2⟩ := z_163w (M := M) (v := u) (fr := 0) (sz := sz) (by omega) (.inl q) (by omega)
      have a1' : p_163w (nI u) 0 (nI sz) M := a1
      have z10 : ¬ (1 : Int32) = 0 := by decide
      rw [if_neg q8, if_neg q8]
      rcases a2 with ⟨a2, a3⟩ | ⟨a2, a3⟩
      · have a2' : r_163w (nI u) 0 (nI sz) M = 1 := a2
        obtain ⟨j1, j2, j3⟩ := ih f (u + 1) (nI u) (by omega) (by omega)
        rw [a2', if_neg z10, if_neg z10]
        refine ⟨⟨z_v1, fun z => absurd z hle, fun _ => ⟨fun z => absurd z q8, fun _ => ⟨a1', fun z => absurd z z10, fun _ => j1⟩⟩⟩, j2, ?_⟩
        rcases j3 with ⟨j3, _⟩ | ⟨_, v, v1, v2, v3, v4⟩
        · exact .inr ⟨q, u, Nat.le_refl _, uc, a3, j3⟩
        · exact .inr ⟨q, v, by omega, v2, v3, v4⟩
      · have a2' : r_163w (nI u) 0 (nI sz) M = 0 := a2
        obtain ⟨j1, j2, j3⟩ := ih f (u + 1) x1 (by omega) (by omega)
        rw [a2', if_pos rfl, if_pos rfl]
        refine ⟨⟨z_v1, fun z => absurd z hle, fun _ => ⟨fun z => absurd z q8, fun _ => ⟨a1', fun _ => j1, fun z => absurd rfl z⟩⟩⟩, j2, ?_⟩
        rcases j3 with ⟨j3, j4⟩ | ⟨_, v, v1, v2, v3, v4⟩
        · exact .inl ⟨j3, fun _ v h1 h2 => by
            by_cases e : v = u
            · subst e; exact a3
            · exact j4 q v (by omega) h2⟩
        · exact .inr ⟨q, v, by omega, v2, v3, v4⟩
    · have q8 : (8 : Int32) < nI sz := (z_lt (a := 8) (by omega) (by omega)).mpr (by omega)
      obtain ⟨j1, j2, j3⟩ := ih f (u + 1) x1 (by omega) (by omega)
      rw [if_pos q8, if_pos q8]
      refine ⟨⟨z_v1, fun z => absurd z hle, fun _ => ⟨fun _ => j1, fun z => absurd q8 z⟩⟩, j2, ?_⟩
      rcases j3 with ⟨j3, _⟩ | ⟨z, _⟩
      · exact .inl ⟨j3, fun z => absurd z q⟩
      · exact absurd z q
/-- both sides name alike -/
theorem z_nmr {t B : Nat} (h : z_W k c t B M m) (hv : v < c) (hs : sz ≤ 800) (hb : ∀ j, j < sz → M 4 694529 0 (fr + j) = m 5 940289 0 (fr + j)) : z_nm k M fr sz v ↔ z_nr 844257 m fr sz v := by
  obtain ⟨l, l1, l2, l3, l4⟩ := h.nm hv
  have nl : M k 376961 0 v = z_Y m 1 v := h.nl hv
  unfold z_nm z_nr
  rw [nl, show m 5 844257 0 (188 + 56 * v + 1) = z_Y m 1 v from rfl, l3]
  refine and_congr_right (fun e => ?_)
  have el : l = sz := (z_eq (by omega) (by omega)).mp e
  subst el
  refine forall_congr' (fun j => forall_congr' (fun hj => ?_))
  have ej : 188 + 56 * v + 2 + j = 188 + 56 * v + (2 + j) := by omega
  rw [l4 j hj, hb j hj, ej]; exact Iff.rfl
theorem z_nmu (h : z_nd k M) (hc : M k 344085 0 0 = nI c) (h16 : c ≤ 16) (hs : sz ≤ 8) (hu : u < c) (hv : v < c) (a : z_nm k M fr sz u) (b : z_nm k M fr sz v) : u = v := by
  have one : ∀ u v, u < v → v < c → z_nm k M fr sz u → z_nm k M fr sz v → False := fun u v huv hv a b =>
    h u v c hc h16 huv hv ⟨a.1.trans b.1.symm, fun i hi hl => by
      rw [a.1] at hl
      have hl' := (z_lt (by omega) (by omega)).mp hl
      exact (a.2 i hl').trans (b.2 i hl').symm⟩
  rcases Nat.lt_trichotomy u v with q | q | q
  · exact (one u v q hv a b).elim
  · exact q
  · exact (one v u q hu b a).elim
/-- find -/
theorem z_f_32 (h : z_Q n M) : z_op n M p_32 r_32 m_32 p_174 r_174 m_174 := by
  obtain ⟨c, t, B, ht, hB, hR, hs⟩ := h.w
  obtain ⟨N, n0, n1, n2, n3⟩ := h.2.1
  have hc := hR.1.le
  obtain ⟨K, eK⟩ : ∃ K, K = ux_set M 4 655365 0 1 0 := ⟨_, rfl⟩
  have k0 : ∀ a s r i, ¬ s = 655365 → K a s r i = M a s r i := fun a s r i q => by rw [eK]; exact z_so q
  obtain ⟨a1, a2, a3⟩ := z_15 (k := 0) (M := K) (c := c) (fr := 0) (sz := N) ((k0 _ _ _ _ (by decide)).trans hR.1.cnt) hc (by omega)
  have a1' : p_15 0 0 (nI N) K := a1
  have a2' : m_15 0 0 (nI N) K = K := a2
  have mc : m_32 M = K := by unfold m_32; rw [n1, ← eK]; exact a2'
  have rc : r_32 M = r_15 0 (nI 0) (nI N) K := by unfold r_32; rw [n1, ← eK]; rfl
  have y0 : ∀ a s r i, ¬ s = 819253 → z_th K 0 a s r i = K a s r i := fun a s r i q => by unfold z_th; exact z_so q
  have y8 : z_th K 0 5 819253 0 8 = nI N := by unfold z_th; rw [z_si (by decide), k0 _ _ _ _ (by decide)]; exact n2
  have row : ∀ i, z_th K 0 5 844257 0 i = M 5 844257 0 i := fun i => (y0 _ _ _ _ (by decide)).trans (k0 _ _ _ _ (by decide))
  obtain ⟨b1, b2, b3⟩ := z_174l (M := z_th K 0) (c := c) (sz := N) ((row 1).trans hR.1.cn) hc y8 n0 c ux_fuel 0 (-1) (by omega) (by have := z_fuel; omega)
  have hR' : z_R 99 16 0 c t B K (z_th K 0) := hR.cg (fun s r i q => k0 0 s r i (by unfold z_rd at q; omega)) row
  have hb : ∀ j, j < N → K 4 694529 0 (0 + j) = z_th K 0 5 940289 0 (0 + j) := fun j hj => by
    rw [y0 _ _ _ _ (by decide), k0 _ _ _ _ (by decide), k0 _ _ _ _ (by decide), Nat.zero_add]; exact (n3 j hj).1
  have iff := fun v hv => z_nmr (fr := 0) (sz := N) (v := v) hR'.1 hv n0 hb
  have nd : z_nd 0 K := h.2.2.1.2.rd (fun s r i q => k0 0 s r i (by unfold z_rd at q; omega))
  have mr : m_174 K = ux_set (z_th K 0) 5 819253 0 8 0 := b2
  have rr : r_174 K = r_174_9 ux_fuel (-1) (nI 0) (z_th K 0) := rfl
  unfold z_op
  rw [mc]
  refine ⟨?_, ?_, ?_, ?_, ?_⟩
  · unfold p_32; intro M1 e; rw [n1]; rw [← eK] at e; subst e; exact a1'
  · unfold p_174; intro M1 e; subst e; exact b1
  · rw [rc, rr]
    rcases a3 with ⟨a3, a4⟩ | ⟨s8, v, v1, v2, v3⟩
    · rcases b3 with ⟨b3, _⟩ | ⟨s8, w, _, w1, w2, _⟩
      · rw [a3, b3]
      · exact absurd ((iff w w1).mpr w2) (a4 s8 w w1)
    · rcases b3 with ⟨_, b4⟩ | ⟨_, w, _, w1, w2, w3⟩
      · exact absurd ((iff v v1).mp v2) (b4 s8 v (by omega) v1)
      · rw [v3, w3, z_nmu nd ((k0 _ _ _ _ (by decide)).trans hR.1.cnt) hc s8 v1 w1 v2 ((iff w w1).mpr w2)]
  · rw [mr, z_si (by decide)]; exact z_th6
  · rw [mr]
    refine z_bufs h (fun a s r i q1 q2 q3 q4 => ?_) ⟨0, by omega, ?_, z_ss, fun i hi => absurd hi (by omega)⟩
    · rw [z_set, if_neg (fun z => q4 ⟨z.1, z.2.1, .inr z.2.2.2⟩)]
      unfold z_th
      rw [z_set, if_neg (fun z => q4 ⟨z.1, z.2.1, .inl z.2.2.2⟩), eK, z_set, if_neg (fun z => q2 ⟨z.1, z.2.1, z.2.2.2⟩)]
    · rw [z_sk (by decide), y0 _ _ _ _ (by decide), eK]; exact z_ss
end ZN1
