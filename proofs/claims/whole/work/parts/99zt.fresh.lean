/-! LOAD, 24: the draft as a text; a fresh world -/
section ZLP
variable {M M' X Y C m m' : ux_M} {n f x y v w s c k : Nat}
theorem z_rq6 {r i : Nat} (h : z_rqq s r i) : s < 600000 := by
  have q : ∀ p ∈ z_l16, p < 600000 := by decide +kernel
  rcases h with ⟨h, _⟩ | ⟨h, _⟩ | ⟨_, h⟩
  · exact q s h
  · omega
  · omega
theorem z_gEo {r i : Nat} (h : z_gE M X) (hs : s < 491649) : X 4 s r i = M 4 s r i := h _ _ _ _ (by omega)
theorem z_CFd (h : z_DR c c C m) : z_CF c (fun s r i => m_27 4 C 4 s r i) (fun a u => z_gf m a u) := by
  obtain ⟨⟨_, _, hc, b4, _⟩, h1, h2, h3, _, _, _⟩ := h
  obtain ⟨_, d1, d2, d3⟩ := z_27 C
  have er : ∀ r u, r < 6 → u < 16 → C 4 475265 r u = z_gf m (22 + r) u := fun r u hr hu => (h3 u hu r hr).1
  have hb : ∀ r u v, r < 6 → u < 16 → bt (z_gf m (22 + r) u) v = true → v < c ∧ ¬ v = u ∧ u < c := fun r u v hr hu => (h3 u hu r hr).2 v
  have hn : ∀ r u v, r < 6 → u < 16 → ¬ (v < c ∧ u < c) → bt (z_gf m (22 + r) u) v = false := fun r u v hr hu q => by
    cases z : bt (z_gf m (22 + r) u) v
    · rfl
    · exact absurd ⟨(hb r u v hr hu z).1, (hb r u v hr hu z).2.2⟩ q
  have e0 : ∀ u, u < 16 → C 4 475265 0 u = z_gf m 22 u := fun u hu => er 0 u (by omega) hu
  have e2 : ∀ u, u < 16 → C 4 475265 2 u = z_gf m 24 u := fun u hu => er 2 u (by omega) hu
  have e3 : ∀ u, u < 16 → C 4 475265 3 u = z_gf m 25 u := fun u hu => er 3 u (by omega) hu
  have e4 : ∀ u, u < 16 → C 4 475265 4 u = z_gf m 26 u := fun u hu => er 4 u (by omega) hu
  have e5 : ∀ u, u < 16 → C 4 475265 5 u = z_gf m 27 u := fun u hu => er 5 u (by omega) hu
  have far : ∀ u v, u < 16 → ¬ (u < c ∧ v < c) → bt (m_27 4 C 4 491649 0 u) v = false ∧ bt (m_27 4 C 4 508033 0 u) v = false ∧ bt (m_27 4 C 4 524417 0 u) v = false ∧ bt (m_27 4 C 4 540801 0 u) v = false := fun u v hu q => by
    have q2 : ¬ (v < c ∧ u < c) := fun z => q ⟨z.2, z.1⟩
    by_cases v32 : v < 32
    · obtain ⟨g1, g2, g3⟩ := d3 u v hu v32
      rw [g1, g2, g3, d2 u hu, b_or, e0 u hu, e2 u hu, e4 u hu, hn 0 u v (by omega) hu q2, hn 2 u v (by omega) hu q2, hn 4 u v (by omega) hu q2]
      by_cases v16 : v < 16
      · rw [e0 v v16, e2 v v16, e3 v v16, e4 v v16, e5 v v16, hn 0 v u (by omega) v16 q, hn 2 v u (by omega) v16 q, hn 3 v u (by omega) v16 q, hn 4 v u (by omega) v16 q, hn 5 v u (by omega) v16 q]
        simp
      · simp [v16]
    · exact ⟨b_big (by omega), b_big (by omega), b_big (by omega), b_big (by omega)⟩
  refine ⟨fun u hu => ?_, fun u hu h16 => ?_⟩
  · have u16 : u < 16 := by omega
    obtain ⟨a1, a2, a3, a4, ⟨n, n1, n2, n3, n4⟩, a6, k1, k2, k3, k4⟩ := h1 u hu
    have lo1 : z_lo 6 = 1 ∧ z_lo 7 = 1 ∧ z_lo 8 = 1 := by decide
    have pv : ∀ w, w < 10 → ∃ n, z_lo w ≤ n ∧ n ≤ z_hi w ∧ z_gf m (10 + w) u = nI n := fun w hw => k2 w hw
    have bd : ∀ v, v < c → v < 16 := fun v hv => by omega
    refine ⟨(z_gEo d1 (by decide)).trans a1, (z_gEo d1 (by decide)).trans a2, (z_gEo d1 (by decide)).trans a3, (z_gEo d1 (by decide)).trans a4, ⟨n, n1, n2, n3, fun i hi => (z_gEo d1 (by decide)).trans (n4 i hi)⟩, fun i hi => (z_gEo d1 (by decide)).trans (a6 i hi), fun r hr => (z_gEo d1 (by decide)).trans (er r u hr u16), k1, ?_, ?_, ?_, ?_, ?_, ?_, ?_, ?_, ?_, ?_, k3, (h2 u hu).1, (h2 u hu).2, fun r hr v hv => ⟨(hb r u v hr u16 hv).1, (hb r u v hr u16 hv).2.1⟩, fun v => ?_, fun v hv => ?_, fun v hv => ?_, fun v hv => ?_, fun v hv => far u v u16 (by omega)⟩
    · obtain ⟨n, _, q2, q3⟩ := pv 0 (by omega); exact ⟨n, q2, q3⟩
    · obtain ⟨n, _, q2, q3⟩ := pv 1 (by omega); exact ⟨n, q2, q3⟩
    · obtain ⟨n, _, q2, q3⟩ := pv 2 (by omega); exact ⟨n, q2, q3⟩
    · obtain ⟨n, _, q2, q3⟩ := pv 3 (by omega); exact ⟨n, q2, q3⟩
    · obtain ⟨n, _, q2, q3⟩ := pv 4 (by omega); exact ⟨n, q2, q3⟩
    · obtain ⟨n, _, q2, q3⟩ := pv 5 (by omega); exact ⟨n, q2, q3⟩
    · obtain ⟨n, q1, q2, q3⟩ := pv 6 (by omega); rw [lo1.1] at q1; exact ⟨n, q1, q2, q3⟩
    · obtain ⟨n, q1, q2, q3⟩ := pv 7 (by omega); rw [lo1.2.1] at q1; exact ⟨n, q1, q2, q3⟩
    · obtain ⟨n, q1, q2, q3⟩ := pv 8 (by omega); rw [lo1.2.2] at q1; exact ⟨n, q1, q2, q3⟩
    · obtain ⟨n, _, q2, q3⟩ := pv 9 (by omega); exact ⟨n, q2, q3⟩
    · show bt (m_27 4 C 4 491649 0 u) v = _
      rw [d2 u u16, b_or, e0 u u16, e2 u u16]
    · have v16 := bd v hv
      show bt (m_27 4 C 4 508033 0 u) v = _
      rw [(d3 u v u16 (by omega)).1, e4 u u16, e4 v v16, decide_eq_true v16, Bool.true_and]
    · have v16 := bd v hv
      show bt (m_27 4 C 4 524417 0 u) v = _
      rw [(d3 u v u16 (by omega)).2.1, e0 v v16, e2 v v16, e3 v v16, decide_eq_true v16, Bool.true_and]
    · have v16 := bd v hv
      show bt (m_27 4 C 4 540801 0 u) v = _
      rw [(d3 u v u16 (by omega)).2.2, e5 v v16, decide_eq_true v16, Bool.true_and]
  · have fz : ∀ v, bt (m_27 4 C 4 491649 0 u) v = false ∧ bt (m_27 4 C 4 508033 0 u) v = false ∧ bt (m_27 4 C 4 524417 0 u) v = false ∧ bt (m_27 4 C 4 540801 0 u) v = false := fun v => far u v h16 (by omega)
    refine ⟨z_nz.mpr (fun v _ => (fz v).1), z_nz.mpr (fun v _ => (fz v).2.1), z_nz.mpr (fun v _ => (fz v).2.2.1), z_nz.mpr (fun v _ => (fz v).2.2.2), fun r hr => ?_⟩
    refine (z_gEo d1 (by decide)).trans ((er r u hr h16).trans (z_nz.mpr (fun v _ => hn r u v hr h16 (by omega))))
def z_k11 : List Nat := [65665, 82049, 98433, 114817, 131201, 147585, 180353, 196737, 213121, 229505, 245889]
/-- a fresh world and its row -/
theorem z_fresh (h : z_DR c c C m) (h1 : ∀ s r i, z_rqq s r i → 344085 ≤ s → M k s r i = m_27 4 C 4 s r i) (h2 : ∀ i, i < 1084 → m' 5 844257 0 i = m 5 877025 0 i)
    (h3 : ∀ s i, s ∈ z_k11 → i < 16 → M k s 0 i = 0) (h4 : ∀ i, i < 16 → M k 327809 0 i = -1) (h5 : M k 16413 0 18 = 0 ∧ M k 16413 0 3 = 0 ∧ M k 16413 0 4 = 0) (h6 : ∀ i, i < 4 → M k 49197 0 i = 0) :
    z_R 99 16 k c 0 0 M m' ∧ z_stable c m' ∧ z_nd k M := by
  have hC := z_CFd h
  obtain ⟨_, d1, _, _⟩ := z_27 C
  obtain ⟨⟨_, _, hc, b4, b5, b6, b7⟩, a2, _, _, _, _, a7⟩ := h
  have hY : ∀ a u, a < 56 → u < c → z_Y m' a u = z_gf m a u := fun a u ha hu => h2 _ (by omega)
  have hg : ∀ a u, 28 ≤ a → a < 56 → u < c → z_Y m' a u = if a = 35 ∨ a = 41 then -1 else 0 := fun a u h28 ha hu => by
    rw [hY a u ha hu]; exact (a2 u hu).2.2.2.2.2.2.2.2.2 a h28 ha
  have g0 : ∀ a u, 28 ≤ a → a < 56 → ¬ a = 35 → ¬ a = 41 → u < c → z_Y m' a u = 0 := fun a u h28 ha n1 n2 hu => by
    rw [hg a u h28 ha hu, if_neg (by omega)]
  have rq : ∀ s, 344085 ≤ s → s ∈ z_l16 → ∀ i, i < 16 → M k s 0 i = m_27 4 C 4 s 0 i := fun s hs hm i hi => h1 s 0 i (z_q16 hm hi) hs
  refine ⟨⟨⟨?_, ?_, fun q hq u hu => ?_, fun u hu => ?_, ?_, fun u hu => ?_⟩, fun u hu => ?_⟩, fun v hv => .inl (g0 29 v (by omega) (by omega) (by omega) (by omega) hv), ?_⟩
  · refine ⟨hc, by omega, ?_, ?_, h5.2.1, ?_⟩
    · rw [h1 344085 0 0 (.inr (.inr ⟨rfl, by omega⟩)) (by omega), z_gEo d1 (by decide)]; exact b4
    · rw [h2 1 (by omega)]; exact b5
    · rw [h2 0 (by omega)]; exact b6
  · refine z_CF.cg hC hc (fun s r i q hs => ?_) (fun a u ha hu => ?_)
    · show (if _ then _ else _) = _
      rw [if_pos ⟨hs, z_rq6 q⟩]; exact h1 s r i q hs
    · show (if _ then _ else _) = _
      rw [if_pos ha]; exact hY a u (by omega) hu
  · have q2 : ∀ p ∈ z_tab, (p.1 = 41 ∧ p.2 = 327809) ∨ (28 ≤ p.1 ∧ p.1 < 56 ∧ ¬ p.1 = 35 ∧ ¬ p.1 = 41 ∧ p.2 ∈ z_k11) := by decide +kernel
    rcases q2 q hq with ⟨e1, e2⟩ | ⟨n1, n2, n3, n4, n5⟩
    · rw [e1, e2, h4 u (by omega), hg 41 u (by omega) (by omega) hu, if_pos (.inr rfl)]
    · rw [h3 q.2 u n5 (by omega), g0 q.1 u n1 n2 n3 n4 hu]
  · rw [h6 0 (by omega), h6 1 (by omega), h6 2 (by omega), h6 3 (by omega), h5.2.2, b_0]
    by_cases q : u < c
    · have n10 : ¬ (0 : Int32) = 1 := by decide
      have n20 : ¬ (0 : Int32) = 2 := by decide
      have n30 : ¬ (0 : Int32) = 3 := by decide
      rw [g0 29 u (by omega) (by omega) (by omega) (by omega) q, g0 30 u (by omega) (by omega) (by omega) (by omega) q, g0 31 u (by omega) (by omega) (by omega) (by omega) q, decide_eq_false n10, decide_eq_false n20, decide_eq_false n30]
      simp
    · simp [q]
  · exact ⟨0, by omega, h5.1, (h2 2 (by omega)).trans b7, fun i hi => absurd hi (by omega)⟩
  · exact ⟨0, by omega, g0 38 u (by omega) (by omega) (by omega) (by omega) hu, g0 45 u (by omega) (by omega) (by omega) (by omega) hu, fun i hi => absurd hi (by omega)⟩
  · have gA : ∀ a, 28 ≤ a → a < 56 → ¬ a = 35 → ¬ a = 41 → z_A m' u a = 0 := fun a x1 x2 x3 x4 => (z_AY m' u x2).trans (g0 a u x1 x2 x3 x4 hu)
    have g35 : z_A m' u 35 = -1 := (z_AY m' u (by omega)).trans ((hg 35 u (by omega) (by omega) hu).trans (if_pos (.inl rfl)))
    have z28 := gA 28 (by omega) (by omega) (by omega) (by omega)
    have z29 := gA 29 (by omega) (by omega) (by omega) (by omega)
    have z30 := gA 30 (by omega) (by omega) (by omega) (by omega)
    have z31 := gA 31 (by omega) (by omega) (by omega) (by omega)
    have z34 := gA 34 (by omega) (by omega) (by omega) (by omega)
    have z37 := gA 37 (by omega) (by omega) (by omega) (by omega)
    have z42 := gA 42 (by omega) (by omega) (by omega) (by omega)
    refine ⟨⟨.inl z28, .inl z29, .inl z30, fun z => ?_, .inl z31, .inr z42, ⟨0, Nat.le_refl _, z34⟩, ⟨0, Nat.le_refl _, z37⟩⟩, fun _ => ⟨fun _ => g35, fun z => ?_, fun z => ?_, fun z => ?_, fun z => ?_⟩⟩
    · rw [z30] at z; exact absurd z (by decide)
    · rw [z28] at z; exact absurd z (by decide)
    · rw [z28] at z; exact absurd z (by decide)
    · rw [z28] at z; exact absurd z (by decide)
    · rw [z28] at z; exact absurd z (by decide)
  · refine a7.cg ?_ (fun i hi => ?_) (fun i hi => ?_)
    · rw [h1 344085 0 0 (.inr (.inr ⟨rfl, by omega⟩)) (by omega), z_gEo d1 (by decide)]
    · rw [rq 376961 (by omega) (by decide +kernel) i hi, z_gEo d1 (by decide)]
    · rw [h1 394241 0 i (.inr (.inr ⟨rfl, by omega⟩)) (by omega), z_gEo d1 (by decide)]
/-- laid with x at i -/
theorem z_0s {P : Nat → Prop} [∀ s, Decidable (P s)] {i : Nat} {a : Int32} (h : ∀ a' s' r' i', Y a' s' r' i' = if a' = k ∧ P s' ∧ r' = 0 ∧ i' = i then a else X a' s' r' i') : ∀ a' s' r' i', ux_set Y k s 0 i a a' s' r' i' = if a' = k ∧ (P s' ∨ s' = s) ∧ r' = 0 ∧ i' = i then a else X a' s' r' i' := fun a' s' r' i' => by
  rw [z_set]
  by_cases q : a' = k ∧ s' = s ∧ r' = 0 ∧ i' = i
  · rw [if_pos q, if_pos ⟨q.1, .inr q.2.1, q.2.2⟩]
  · rw [if_neg q, h]
    by_cases q2 : a' = k ∧ P s' ∧ r' = 0 ∧ i' = i
    · rw [if_pos q2, if_pos ⟨q2.1, .inl q2.2.1, q2.2.2⟩]
    · rw [if_neg q2, if_neg (fun z => z.2.1.elim (fun w => q2 ⟨z.1, w, z.2.2⟩) (fun w => q ⟨z.1, w, z.2.2⟩))]
theorem z_302l : ∀ n f x X, x + n = 16 → n < f → p_30_22 f k (nI x) X ∧ ∀ a s r i, m_30_22 f k (nI x) X a s r i = if a = k ∧ s = 327809 ∧ r = 0 ∧ x ≤ i ∧ i < 16 then -1 else X a s r i := by
  intro n
  induction n with
  | zero =>
    intro f x X hx hf
    obtain ⟨f, rfl⟩ : ∃ z, f = z + 1 := ⟨f - 1, by omega⟩
    have x16 : x = 16 := by omega
    subst x16
    have hle : (16 : Int32) ≤ nI 16 := (z_le (a := 16) (by omega) (by omega)).mpr (by omega)
    rw [p_30_22, m_30_22, if_pos hle]
    exact ⟨⟨fun _ => trivial, fun q => absurd hle q⟩, fun a s r i => by rw [if_neg (by omega)]⟩
  | succ n ih =>
    intro f x X hx hf
    obtain ⟨f, rfl⟩ : ∃ z, f = z + 1 := ⟨f - 1, by omega⟩
    have x16 : x < 16 := by omega
    have hle : ¬ (16 : Int32) ≤ nI x := fun z => by have := (z_le (a := 16) (by omega) (by omega)).mp z; omega
    obtain ⟨i1, i2⟩ := ih f (x + 1) (ux_set X k 327809 0 x (-1)) (by omega) (by omega)
    rw [p_30_22, m_30_22, if_neg hle, z_nx, z_cl x16]
    refine ⟨⟨fun q => absurd q hle, fun _ => ⟨z_i16 x16, fun _ e => by rw [e]; exact i1⟩⟩, fun a s r i => (i2 a s r i).trans ?_⟩
    rw [z_set]
    by_cases q : a = k ∧ s = 327809 ∧ r = 0 ∧ x ≤ i ∧ i < 16
    · rw [if_pos q]
      by_cases q2 : i = x
      · rw [if_neg (by omega), if_pos ⟨q.1, q.2.1, q.2.2.1, q2⟩]
      · rw [if_pos (by omega)]
    · rw [if_neg q, if_neg (by omega), if_neg (by omega)]
theorem z_28L : ∀ n f x X, x + n = 16 → n < f → p_28_32 f k (nI x) X ∧ ∀ a s r i, m_28_32 f k (nI x) X a s r i = if a = k ∧ s ∈ z_k11 ∧ r = 0 ∧ x ≤ i ∧ i < 16 then 0 else X a s r i := by
  intro n
  induction n with
  | zero =>
    intro f x X hx hf
    obtain ⟨f, rfl⟩ : ∃ z, f = z + 1 := ⟨f - 1, by omega⟩
    have x16 : x = 16 := by omega
    subst x16
    have hle : (16 : Int32) ≤ nI 16 := (z_le (a := 16) (by omega) (by omega)).mpr (by omega)
    rw [p_28_32, m_28_32, if_pos hle]
    exact ⟨⟨fun _ => trivial, fun q => absurd hle q⟩, fun a s r i => by rw [if_neg (by omega)]⟩
  | succ n ih =>
    intro f x X hx hf
    obtain ⟨f, rfl⟩ : ∃ z, f = z + 1 := ⟨f - 1, by omega⟩
    have x16 : x < 16 := by omega
    have vx : vp_in (nI x) 16 := z_i16 x16
    have hle : ¬ (16 : Int32) ≤ nI x := fun z => by have := (z_le (a := 16) (by omega) (by omega)).mp z; omega
    obtain ⟨M2, e2⟩ : ∃ y, y = ux_set X k 65665 0 x 0 := ⟨_, rfl⟩
    obtain ⟨M3, e3⟩ : ∃ y, y = ux_set M2 k 82049 0 x 0 := ⟨_, rfl⟩
    obtain ⟨M4, e4⟩ : ∃ y, y = ux_set M3 k 98433 0 x 0 := ⟨_, rfl⟩
    obtain ⟨M5, e5⟩ : ∃ y, y = ux_set M4 k 114817 0 x 0 := ⟨_, rfl⟩
    obtain ⟨M6, e6⟩ : ∃ y, y = ux_set M5 k 131201 0 x 0 := ⟨_, rfl⟩
    obtain ⟨M7, e7⟩ : ∃ y, y = ux_set M6 k 147585 0 x 0 := ⟨_, rfl⟩
    obtain ⟨M8, e8⟩ : ∃ y, y = ux_set M7 k 180353 0 x 0 := ⟨_, rfl⟩
    obtain ⟨M9, e9⟩ : ∃ y, y = ux_set M8 k 196737 0 x 0 := ⟨_, rfl⟩
    obtain ⟨MA, eA⟩ : ∃ y, y = ux_set M9 k 213121 0 x 0 := ⟨_, rfl⟩
    obtain ⟨MB, eB⟩ : ∃ y, y = ux_set MA k 229505 0 x 0 := ⟨_, rfl⟩
    obtain ⟨MC, eC⟩ : ∃ y, y = ux_set MB k 245889 0 x 0 := ⟨_, rfl⟩
    have f2 : ∀ a s r i, M2 a s r i = if a = k ∧ (s = 65665) ∧ r = 0 ∧ i = x then 0 else X a s r i := fun a s r i => by rw [e2, z_set]
    have f3 := z_0s (s := 82049) f2
    rw [← e3] at f3
    have f4 := z_0s (s := 98433) f3
    rw [← e4] at f4
    have f5 := z_0s (s := 114817) f4
    rw [← e5] at f5
    have f6 := z_0s (s := 131201) f5
    rw [← e6] at f6
    have f7 := z_0s (s := 147585) f6
    rw [← e7] at f7
    have f8 := z_0s (s := 180353) f7
    rw [← e8] at f8
    have f9 := z_0s (s := 196737) f8
    rw [← e9] at f9
    have fA := z_0s (s := 213121) f9
    rw [← eA] at fA
    have fB := z_0s (s := 229505) fA
    rw [← eB] at fB
    have fC := z_0s (s := 245889) fB
    rw [← eC] at fC
    obtain ⟨i1, i2⟩ := ih f (x + 1) MC (by omega) (by omega)
    have em : m_28_32 (f + 1) k (nI x) X = m_28_32 f k (nI (x + 1)) MC := by
      rw [m_28_32, if_neg hle, z_nx, z_cl x16, eC, eB, eA, e9, e8, e7, e6, e5, e4, e3, e2]
    rw [p_28_32, em, z_nx, z_cl x16]
    refine ⟨⟨fun q => absurd q hle, fun _ => ⟨vx, fun _ g2 => ⟨vx, fun _ g3 => ⟨vx, fun _ g4 => ⟨vx, fun _ g5 => ⟨vx, fun _ g6 => ⟨vx, fun _ g7 => ⟨vx, fun _ g8 => ⟨vx, fun _ g9 => ⟨vx, fun _ gA => ⟨vx, fun _ gB => ⟨vx, fun _ gC => ?_⟩⟩⟩⟩⟩⟩⟩⟩⟩⟩⟩⟩, fun a s r i => (i2 a s r i).trans ?_⟩
    · subst g2; rw [← e2] at g3; subst g3; rw [← e3] at g4; subst g4; rw [← e4] at g5; subst g5; rw [← e5] at g6; subst g6; rw [← e6] at g7; subst g7; rw [← e7] at g8; subst g8; rw [← e8] at g9; subst g9; rw [← e9] at gA; subst gA; rw [← eA] at gB; subst gB; rw [← eB] at gC; subst gC; rw [← eC]; exact i1
    · rw [fC]
      have km : s ∈ z_k11 ↔ ((((((((((s = 65665 ∨ s = 82049) ∨ s = 98433) ∨ s = 114817) ∨ s = 131201) ∨ s = 147585) ∨ s = 180353) ∨ s = 196737) ∨ s = 213121) ∨ s = 229505) ∨ s = 245889) := by
        simp only [z_k11, List.mem_cons, List.not_mem_nil, or_false, or_assoc]
      by_cases q : a = k ∧ s ∈ z_k11 ∧ r = 0 ∧ x ≤ i ∧ i < 16
      · rw [if_pos q]
        by_cases q2 : i = x
        · rw [if_neg (fun z => by have := z.2.2.2.1; omega), if_pos ⟨q.1, km.mp q.2.1, q.2.2.1, q2⟩]
        · rw [if_pos ⟨q.1, q.2.1, q.2.2.1, by omega, q.2.2.2.2⟩]
      · rw [if_neg q, if_neg (fun z => q ⟨z.1, z.2.1, z.2.2.1, by have := z.2.2.2.1; omega, z.2.2.2.2⟩), if_neg (fun z => q ⟨z.1, km.mpr z.2.1, z.2.2.1, by have := z.2.2.2; omega, by have := z.2.2.2; omega⟩)]
/-- beginAnew -/
theorem z_28 (hk : ¬ k = 4) (M : ux_M) : p_28 k M ∧ (∀ a s r i, ¬ a = k → m_28 k M a s r i = M a s r i) ∧ (∀ s r i, z_rqq s r i → 344085 ≤ s → m_28 k M k s r i = M 4 s r i)
    ∧ (∀ s i, s ∈ z_k11 → i < 16 → m_28 k M k s 0 i = 0) ∧ (∀ i, i < 16 → m_28 k M k 327809 0 i = -1) ∧ (m_28 k M k 16413 0 18 = 0 ∧ m_28 k M k 16413 0 3 = 0 ∧ m_28 k M k 16413 0 4 = 0) ∧ ∀ i, i < 4 → m_28 k M k 49197 0 i = 0 := by
  obtain ⟨c1, D, ⟨c2, c3⟩, c4⟩ := z_29 hk M
  have hf := z_fuel
  obtain ⟨A, eA⟩ : ∃ y, y = m_29 k 4 M := ⟨_, rfl⟩
  obtain ⟨J1, g1⟩ : ∃ y, y = ux_set A k 49197 0 0 0 := ⟨_, rfl⟩
  obtain ⟨J2, g2⟩ : ∃ y, y = ux_set J1 k 49197 0 1 0 := ⟨_, rfl⟩
  obtain ⟨J3, g3⟩ : ∃ y, y = ux_set J2 k 49197 0 2 0 := ⟨_, rfl⟩
  obtain ⟨J4, g4⟩ : ∃ y, y = ux_set J3 k 49197 0 3 0 := ⟨_, rfl⟩
  obtain ⟨j1, j2⟩ := z_302l (k := k) 16 ux_fuel 0 J4 (by omega) (by omega)
  obtain ⟨J, eJ⟩ : ∃ y, y = m_30 k A := ⟨_, rfl⟩
  have e30 : J = m_30_22 ux_fuel k (nI 0) J4 := by rw [eJ, g4, g3, g2, g1]; rfl
  have p30 : p_30 k A := fun _ q1 _ q2 _ q3 _ q4 => by
    subst q1; rw [← g1] at q2; subst q2; rw [← g2] at q3; subst q3; rw [← g3] at q4; subst q4; rw [← g4]; exact j1
  obtain ⟨M5, h5⟩ : ∃ y, y = ux_set J k 16413 0 18 0 := ⟨_, rfl⟩
  obtain ⟨M6, h6⟩ : ∃ y, y = ux_set M5 k 16413 0 3 0 := ⟨_, rfl⟩
  obtain ⟨M7, h7⟩ : ∃ y, y = ux_set M6 k 16413 0 4 0 := ⟨_, rfl⟩
  obtain ⟨l1, l2⟩ := z_28L (k := k) 16 ux_fuel 0 M7 (by omega) (by omega)
  have em : m_28 k M = m_28_32 ux_fuel k (nI 0) M7 := by rw [h7, h6, h5, eJ, eA]; rfl
  have oJ : ∀ a s r i, ¬ (a = k ∧ (s = 49197 ∨ s = 327809)) → J a s r i = A a s r i := fun a s r i q => by
    rw [e30, j2, if_neg (by omega), g4, z_set, if_neg (by omega), g3, z_set, if_neg (by omega), g2, z_set, if_neg (by omega), g1, z_set, if_neg (by omega)]
  have o7 : ∀ a s r i, ¬ (a = k ∧ s = 16413) → M7 a s r i = J a s r i := fun a s r i q => by
    rw [h7, z_set, if_neg (by omega), h6, z_set, if_neg (by omega), h5, z_set, if_neg (by omega)]
  have k11 : ∀ p ∈ z_k11, ¬ p = 327809 ∧ ¬ p = 16413 ∧ ¬ p = 49197 ∧ p < 344085 := by decide +kernel
  have oL : ∀ a s r i, ¬ (a = k ∧ s ∈ z_k11) → m_28 k M a s r i = M7 a s r i := fun a s r i q => by
    rw [em, l2, if_neg (fun z => q ⟨z.1, z.2.1⟩)]
  have n1 : ¬ (327809 ∈ z_k11) := fun z => (k11 _ z).1 rfl
  have n2 : ¬ (16413 ∈ z_k11) := fun z => (k11 _ z).2.1 rfl
  have n3 : ¬ (49197 ∈ z_k11) := fun z => (k11 _ z).2.2.1 rfl
  rw [← eA] at c2 c3
  refine ⟨⟨c1, ?_, ?_⟩, fun a s r i q => ?_, fun s r i q hs => ?_, fun s i hs hi => ?_, fun i hi => ?_, ⟨?_, ?_, ?_⟩, fun i hi => ?_⟩
  · rw [← eA]; exact p30
  · rw [← eA, ← eJ]
    intro _ q5 _ q6 _ q7
    subst q5; rw [← h5] at q6; subst q6; rw [← h6] at q7; subst q7; rw [← h7]; exact l1
  · rw [oL a s r i (fun z => q z.1), o7 a s r i (fun z => q z.1), oJ a s r i (fun z => q z.1)]; exact c2 a s r i q
  · rw [oL k s r i (fun z => by have := (k11 _ z.2).2.2.2; omega), o7 k s r i (by omega), oJ k s r i (by omega)]
    exact c3 s r i (c4 s r i q hs)
  · rw [em, l2, if_pos ⟨rfl, hs, rfl, by omega, hi⟩]
  · rw [oL k 327809 0 i (fun z => n1 z.2), o7 k 327809 0 i (by omega), e30, j2, if_pos ⟨rfl, rfl, rfl, by omega, hi⟩]
  · rw [oL k 16413 0 18 (fun z => n2 z.2), h7, z_si (by decide), h6, z_si (by decide), h5, z_ss]
  · rw [oL k 16413 0 3 (fun z => n2 z.2), h7, z_si (by decide), h6, z_ss]
  · rw [oL k 16413 0 4 (fun z => n2 z.2), h7, z_ss]
  · rw [oL k 49197 0 i (fun z => n3 z.2), o7 k 49197 0 i (by omega), e30, j2, if_neg (by omega), g4]
    have : i = 0 ∨ i = 1 ∨ i = 2 ∨ i = 3 := by omega
    rcases this with e | e | e | e <;> subst e
    · rw [z_si (by decide), g3, z_si (by decide), g2, z_si (by decide), g1, z_ss]
    · rw [z_si (by decide), g3, z_si (by decide), g2, z_ss]
    · rw [z_si (by decide), g3, z_ss]
    · rw [z_ss]
end ZLP
