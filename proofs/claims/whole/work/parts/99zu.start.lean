/-! LOAD, 25: both readers begin -/
section ZLQ
variable {M M' X Y C m m' : ux_M} {T : Nat → Int32} {n f x y v w s c k N : Nat}
/-- the draft is cleared -/
theorem z_915 (kp : Nat → Int32 → ux_M → Prop) (km : Nat → Int32 → ux_M → ux_M) {r : Nat} (hr : r < 6) : ∀ n f y X, y + n = 16 → n < f →
    ∃ Y, (∀ a s r' i, ¬ (a = 4 ∧ s = 475265 ∧ r' = r ∧ y ≤ i ∧ i < 16) → Y a s r' i = X a s r' i) ∧ (∀ i, y ≤ i → i < 16 → Y 4 475265 r i = 0) ∧ (kp 4 (nI (r + 1)) Y → p_9_15 kp f 4 (nI r) (nI y) X) ∧ m_9_15 km f 4 (nI r) (nI y) X = km 4 (nI (r + 1)) Y := by
  intro n
  induction n with
  | zero =>
    intro f y X hy hf
    obtain ⟨f, rfl⟩ : ∃ z, f = z + 1 := ⟨f - 1, by omega⟩
    have y16 : y = 16 := by omega
    subst y16
    have hle : (16 : Int32) ≤ nI 16 := (z_le (a := 16) (by omega) (by omega)).mpr (by omega)
    rw [p_9_15, m_9_15, if_pos hle, z_nx]
    exact ⟨X, fun _ _ _ _ _ => rfl, fun i h1 h2 => absurd h2 (by omega), fun z => ⟨fun _ => z, fun q => absurd hle q⟩, rfl⟩
  | succ n ih =>
    intro f y X hy hf
    obtain ⟨f, rfl⟩ : ∃ z, f = z + 1 := ⟨f - 1, by omega⟩
    have y16 : y < 16 := by omega
    have hle : ¬ (16 : Int32) ≤ nI y := fun z => by have := (z_le (a := 16) (by omega) (by omega)).mp z; omega
    obtain ⟨Y, i1, i2, i3, i4⟩ := ih f (y + 1) (ux_set X 4 475265 r y 0) (by omega) (by omega)
    rw [p_9_15, m_9_15, if_neg hle, z_nx y, z_cl y16, z_cl (show r < 16 by omega)]
    refine ⟨Y, fun a s r' i q => ?_, fun i h1 h2 => ?_, fun z => ⟨fun q => absurd q hle, fun _ => ⟨vp_in_nI hr (by omega), z_i16 y16, fun _ e => by rw [e]; exact i3 z⟩⟩, i4⟩
    · rw [i1 a s r' i (fun z => q ⟨z.1, z.2.1, z.2.2.1, by omega, z.2.2.2.2⟩), z_set, if_neg (fun z => q ⟨z.1, z.2.1, z.2.2.1, by omega, by omega⟩)]
    · by_cases q : i = y
      · subst q; rw [i1 4 475265 r i (by omega), z_ss]
      · exact i2 i (by omega) h2
theorem z_97 : ∀ n f r X, r + n = 6 → n < f → p_9_7 f 4 (nI r) X ∧ (∀ a s r' i, ¬ (a = 4 ∧ s = 475265) → m_9_7 f 4 (nI r) X a s r' i = X a s r' i) ∧ (∀ r' i, r' < r → m_9_7 f 4 (nI r) X 4 475265 r' i = X 4 475265 r' i) ∧ ∀ r' i, r ≤ r' → r' < 6 → i < 16 → m_9_7 f 4 (nI r) X 4 475265 r' i = 0 := by
  intro n
  induction n with
  | zero =>
    intro f r X hr hf
    obtain ⟨f, rfl⟩ : ∃ z, f = z + 1 := ⟨f - 1, by omega⟩
    have hle : (6 : Int32) ≤ nI r := (z_le (a := 6) (by omega) (by omega)).mpr (by omega)
    rw [p_9_7, m_9_7, if_pos hle]
    exact ⟨⟨fun _ => trivial, fun q => absurd hle q⟩, fun _ _ _ _ _ => rfl, fun _ _ _ => rfl, fun r' i h1 h2 => absurd h2 (by omega)⟩
  | succ n ih =>
    intro f r X hr hf
    obtain ⟨f, rfl⟩ : ∃ z, f = z + 1 := ⟨f - 1, by omega⟩
    have hle : ¬ (6 : Int32) ≤ nI r := fun z => by have := (z_le (a := 6) (by omega) (by omega)).mp z; omega
    have hf2 := z_fuel
    obtain ⟨Y, i1, i2, i3, i4⟩ := z_915 (fun a0 a1 a2 => p_9_7 f a0 a1 a2) (fun a0 a1 a2 => m_9_7 f a0 a1 a2) (show r < 6 by omega) 16 ux_fuel 0 X (by omega) (by omega)
    obtain ⟨j1, j2, j3, j4⟩ := ih f (r + 1) Y (by omega) (by omega)
    have i4' : m_9_15 (fun a0 a1 a2 => m_9_7 f a0 a1 a2) ux_fuel 4 (nI r) 0 X = m_9_7 f 4 (nI (r + 1)) Y := i4
    rw [p_9_7, m_9_7, if_neg hle, i4']
    refine ⟨⟨fun q => absurd q hle, fun _ => i3 j1⟩, fun a s r' i q => ?_, fun r' i q => ?_, fun r' i h1 h2 h3 => ?_⟩
    · rw [j2 a s r' i q]; exact i1 a s r' i (fun z => q ⟨z.1, z.2.1⟩)
    · rw [j3 r' i (by omega)]; exact i1 _ _ _ _ (by omega)
    · by_cases q : r' = r
      · subst q; rw [j3 r' i (by omega)]; exact i2 i (by omega) h3
      · exact j4 r' i (by omega) h2 h3
theorem z_9 (M : ux_M) : p_9 4 M ∧ (∀ a s r i, ¬ (a = 4 ∧ (s = 344085 ∨ s = 475265)) → m_9 4 M a s r i = M a s r i) ∧ m_9 4 M 4 344085 0 0 = 0 ∧ ∀ r u, r < 6 → u < 16 → m_9 4 M 4 475265 r u = 0 := by
  obtain ⟨X, eX⟩ : ∃ y, y = ux_set M 4 344085 0 0 0 := ⟨_, rfl⟩
  obtain ⟨j1, j2, j3, j4⟩ := z_97 6 ux_fuel 0 X (by omega) (by have := z_fuel; omega)
  have em : m_9 4 M = m_9_7 ux_fuel 4 (nI 0) X := by rw [eX]; rfl
  rw [em]
  refine ⟨fun _ e => by rw [← eX] at e; rw [e]; exact j1, fun a s r i q => ?_, ?_, fun r u hr hu => j4 r u (by omega) hr hu⟩
  · rw [j2 a s r i (fun z => q ⟨z.1, .inr z.2⟩), eX, z_set, if_neg (fun z => q ⟨z.1, .inl z.2.1⟩)]
  · rw [j2 _ _ _ _ (by omega), eX, z_ss]
/-- the fresh row is cleared -/
theorem z_149l (M : ux_M) : ∀ (n f i : Nat) (T : Nat → Int32), i + n = 1084 → n < f →
    (p_149_7 (0 + 1) (nI 1084) (z_tt M 5 877025 (fun d => if i ≤ d ∧ d < 1084 then 0 else T d)) → p_149_7 f (nI i) (z_tt M 5 877025 T))
    ∧ r_149_7 f (nI i) (z_tt M 5 877025 T) = r_149_7 (0 + 1) (nI 1084) (z_tt M 5 877025 (fun d => if i ≤ d ∧ d < 1084 then 0 else T d))
    ∧ m_149_7 f (nI i) (z_tt M 5 877025 T) = m_149_7 (0 + 1) (nI 1084) (z_tt M 5 877025 (fun d => if i ≤ d ∧ d < 1084 then 0 else T d)) := by
  intro n
  induction n with
  | zero =>
    intro f i T hi hf
    obtain ⟨f, rfl⟩ : ∃ z, f = z + 1 := ⟨f - 1, by omega⟩
    have i4 : i = 1084 := by omega
    subst i4
    have hle : (1084 : Int32) ≤ nI 1084 := (z_le (a := 1084) (by omega) (by omega)).mpr (by omega)
    have eT : (fun d => if 1084 ≤ d ∧ d < 1084 then 0 else T d) = T := by funext d; rw [if_neg (by omega)]
    rw [eT, p_149_7, r_149_7, m_149_7, p_149_7, r_149_7, m_149_7, if_pos hle, if_pos hle, if_pos hle, if_pos hle]
    exact ⟨fun z => ⟨z.1, fun q => absurd hle q⟩, rfl, rfl⟩
  | succ n ih =>
    intro f i T hi hf
    obtain ⟨f, rfl⟩ : ∃ z, f = z + 1 := ⟨f - 1, by omega⟩
    have hle : ¬ (1084 : Int32) ≤ nI i := fun z => by have := (z_le (a := 1084) (by omega) (by omega)).mp z; omega
    have vi : vp_in (nI i) 1084 := vp_in_nI (by omega) (by omega)
    have eT : (fun d => if i + 1 ≤ d ∧ d < 1084 then 0 else z_up T i 0 d) = fun d => if i ≤ d ∧ d < 1084 then 0 else T d := by
      funext d
      by_cases q : i + 1 ≤ d ∧ d < 1084
      · rw [if_pos q, if_pos (by omega)]
      · rw [if_neg q]
        unfold z_up
        by_cases q2 : d = i
        · rw [if_pos q2, if_pos (by omega)]
        · rw [if_neg q2, if_neg (by omega)]
    obtain ⟨i1, i2, i3⟩ := ih f (i + 1) (z_up T i 0) (by omega) (by omega)
    rw [eT] at i1 i2 i3
    obtain ⟨W, eW⟩ : ∃ W, W = (fun d => if i ≤ d ∧ d < 1084 then 0 else T d) := ⟨_, rfl⟩
    rw [← eW] at i1 i2 i3 ⊢
    obtain ⟨BP, eBP⟩ : ∃ z, z = p_149_7 (0 + 1) (nI 1084) (z_tt M 5 877025 W) := ⟨_, rfl⟩
    obtain ⟨BR, eBR⟩ : ∃ z, z = r_149_7 (0 + 1) (nI 1084) (z_tt M 5 877025 W) := ⟨_, rfl⟩
    obtain ⟨BM, eBM⟩ : ∃ z, z = m_149_7 (0 + 1) (nI 1084) (z_tt M 5 877025 W) := ⟨_, rfl⟩
    rw [← eBP] at i1 ⊢
    rw [← eBR] at i2 ⊢
    rw [← eBM] at i3 ⊢
    rw [p_149_7, r_149_7, m_149_7, if_neg hle, if_neg hle, z_nx, z_cls (show i < 2000000000 by omega), z_tt_set]
    exact ⟨fun z => ⟨fun q => absurd q hle, fun _ => ⟨vi, fun _ e => by rw [e]; exact i1 z⟩⟩, i2, i3⟩
/-- the class begins -/
theorem z_cst (hN : N ≤ 800) (hT : ∀ i, i < N → M 4 694529 0 i = T i) (h5 : z_rd5 m T N) (h9 : m 5 819253 0 9 = nI 0) (h12 : m 5 819253 0 12 = 0) (hz : ∀ i, i < 1084 → m 5 877025 0 i = 0) :
    ∃ C p, (∀ P : Prop, P → p_8_43 ux_fuel 0 C → p_8 (nI N) M) ∧ r_8 (nI N) M = r_8_43 ux_fuel 0 C ∧ m_8 (nI N) M = m_8_43 ux_fuel 0 C ∧ z_RS T N p 0 C m ∧ z_DR 0 0 C m := by
  obtain ⟨M1, e1⟩ : ∃ y, y = ux_set M 4 671757 0 1 1 := ⟨_, rfl⟩
  obtain ⟨M2, e2⟩ : ∃ y, y = ux_set M1 4 671757 0 2 (if (nI N : Int32) < (Int32.ofNat 800) then nI N else (Int32.ofNat 800)) := ⟨_, rfl⟩
  obtain ⟨M3, e3⟩ : ∃ y, y = ux_set M2 4 671757 0 5 0 := ⟨_, rfl⟩
  obtain ⟨M4, e4⟩ : ∃ y, y = ux_set M3 4 671757 0 6 0 := ⟨_, rfl⟩
  obtain ⟨M5, e5⟩ : ∃ y, y = ux_set M4 4 671757 0 7 0 := ⟨_, rfl⟩
  obtain ⟨a1, a2, a3, a4⟩ := z_9 M5
  have en : (if (nI N : Int32) < (Int32.ofNat 800) then nI N else (Int32.ofNat 800)) = nI N := by
    by_cases q : N < 800
    · exact if_pos ((z_lt (b := 800) (by omega) (by omega)).mpr q)
    · have : N = 800 := by omega
      subst this
      exact if_neg (fun z => q ((z_lt (b := 800) (by omega) (by omega)).mp z))
  have o5 : ∀ i, M5 4 694529 0 i = M 4 694529 0 i := fun i => by rw [e5, z_so (by decide), e4, z_so (by decide), e3, z_so (by decide), e2, z_so (by decide), e1, z_so (by decide)]
  have o9 : ∀ s r i, ¬ (s = 344085 ∨ s = 475265) → m_9 4 M5 4 s r i = M5 4 s r i := fun s r i q => a2 4 s r i (fun z => q z.2)
  have r4 : z_rd4 (m_9 4 M5) T N := by
    refine ⟨hN, ?_, ?_, fun i hi => ?_⟩
    · rw [o9 _ _ _ (by omega), e5, z_si (by decide), e4, z_si (by decide), e3, z_si (by decide), e2, z_si (by decide), e1, z_ss]
    · rw [o9 _ _ _ (by omega), e5, z_si (by decide), e4, z_si (by decide), e3, z_si (by decide), e2, z_ss]; exact en
    · rw [o9 _ _ _ (by omega), o5]; exact hT i hi
  have f5 : m_9 4 M5 4 671757 0 5 = nI 0 := by rw [o9 _ _ _ (by omega), e5, z_si (by decide), e4, z_si (by decide), e3, z_ss]; rfl
  have f6 : m_9 4 M5 4 671757 0 6 = 0 := by rw [o9 _ _ _ (by omega), e5, z_si (by decide), e4, z_ss]
  obtain ⟨p, hp⟩ : ∃ p, p = z_xn (z_xB T N) N 0 := ⟨_, rfl⟩
  obtain ⟨g1, g2⟩ := z_goOn r4 (Nat.zero_le N) f5
  rw [← hp] at g2
  refine ⟨m_10 (m_9 4 M5), p, fun _ _ z _ q1 _ q2 _ q3 _ q4 _ q5 => ?_, ?_, ?_, ?_, ?_⟩
  · subst q1; rw [← e1] at q2; subst q2; rw [← e2] at q3; subst q3; rw [← e3] at q4; subst q4; rw [← e4] at q5; subst q5; rw [← e5]; exact ⟨a1, g1, z⟩
  · rw [e5, e4, e3, e2, e1]; rfl
  · rw [e5, e4, e3, e2, e1]; rfl
  · rw [g2]
    exact ⟨r4.rm, h5, z_rm_4, z_rm_5, z_rm_3, by unfold z_rm; rw [z_si (by decide), z_si (by decide), z_si (by decide)]; exact f6, h12, Nat.zero_le N, h9, hp⟩
  · have gz : ∀ a u, a < 56 → u < 16 → z_gf m a u = 0 := fun a u ha hu => hz _ (by omega)
    have c0 : m_10 (m_9 4 M5) 4 344085 0 0 = nI 0 := by rw [g2, z_rm_o (by decide)]; exact a3
    refine ⟨⟨by omega, by omega, by omega, c0, hz 1 (by omega), hz 0 (by omega), hz 2 (by omega)⟩, fun u hu => absurd hu (by omega), fun u hu => absurd hu (by omega), fun u hu r hr => ⟨?_, fun v hv => ?_⟩, fun u _ hu a ha => gz a u ha hu, fun z => absurd z (by omega), fun u v c hc h16 hu hv _ => ?_⟩
    · rw [g2, z_rm_o (by decide), a4 r u hr hu, gz (22 + r) u (by omega) hu]
    · rw [gz (22 + r) u (by omega) hu, b_0] at hv; exact absurd hv (by decide)
    · rw [c0] at hc
      have := (z_eq (by omega) (by omega)).mp hc
      omega
end ZLQ
