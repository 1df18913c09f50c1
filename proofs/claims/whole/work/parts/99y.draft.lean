/-! LOAD, 4: the draft of the class (instance 4) and the fresh row of the reference -/
section ZL4
variable {C C' m m' : ux_M} {T : Nat → Int32} {N i j p q n u w c d : Nat} {V : Int32}
/-- an attribute of the fresh row -/
def z_gf (m : ux_M) (a u : Nat) : Int32 := m 5 877025 0 (188 + 56 * u + a)
def z_lo (w : Nat) : Nat := if w = 6 ∨ w = 7 ∨ w = 8 then 1 else 0
def z_hi (w : Nat) : Nat := [100, 100, 1000, 255, 9, 2, 100, 9, 1000, 1000].getD w 0
/-- the value of a property -/
def z_prv (w : Nat) (V : Int32) : Prop := ∃ n, z_lo w ≤ n ∧ n ≤ z_hi w ∧ V = nI n
/-- the attributes of a unit that was read, or is being read -/
def z_gr (g : Nat → Int32) : Prop := (g 0 = 0 ∨ g 0 = 1 ∨ g 0 = 2) ∧ (∀ w, w < 10 → z_prv w (g (10 + w))) ∧ (¬ g 0 = 0 → g 14 = 0 ∧ g 15 = 0) ∧ ∀ a, 28 ≤ a → a < 56 → g a = if a = 35 ∨ a = 41 then -1 else 0
/-- a unit is the same on both sides -/
def z_du (C m : ux_M) (u : Nat) : Prop := C 4 360577 0 u = z_gf m 0 u ∧ C 4 376961 0 u = z_gf m 1 u ∧ C 4 426113 0 u = z_gf m 20 u ∧ C 4 442497 0 u = z_gf m 21 u
  ∧ (∃ n, 1 ≤ n ∧ n ≤ 8 ∧ z_gf m 1 u = nI n ∧ ∀ i, i < n → C 4 394241 0 (u * 8 + i) = z_gf m (2 + i) u)
  ∧ (∀ w, w < 10 → C 4 410881 0 (u * 10 + w) = z_gf m (10 + w) u) ∧ z_gr (fun a => z_gf m a u)
/-- whom a socket serves -/
def z_ds (m : ux_M) (c u : Nat) : Prop := (z_gf m 0 u = 1 → ∃ s, s < c ∧ z_gf m 20 u = nI s ∧ z_gf m 0 s = 0) ∧ (¬ z_gf m 0 u = 1 → z_gf m 20 u = -1)
/-- the relations -/
def z_dr (C m : ux_M) (c u : Nat) : Prop := ∀ r, r < 6 → C 4 475265 r u = z_gf m (22 + r) u ∧ ∀ v, bt (z_gf m (22 + r) u) v = true → v < c ∧ ¬ v = u ∧ u < c
/-- c units are read; the class counts d: the one that is being read as well -/
def z_DR (c d : Nat) (C m : ux_M) : Prop := (c ≤ d ∧ d ≤ c + 1 ∧ d ≤ 16 ∧ C 4 344085 0 0 = nI d ∧ m 5 877025 0 1 = nI c ∧ m 5 877025 0 0 = 0 ∧ m 5 877025 0 2 = 0)
  ∧ (∀ u, u < d → z_du C m u) ∧ (∀ u, u < c → z_ds m c u) ∧ (∀ u, u < 16 → z_dr C m c u) ∧ (∀ u, d ≤ u → u < 16 → ∀ a, a < 56 → z_gf m a u = 0)
  ∧ (d = c + 1 → m 5 819253 0 14 = nI (188 + 56 * c) ∧ z_gf m 20 c = -1) ∧ z_nd 4 C
theorem z_gf_cg (h : ∀ i, m' 5 877025 0 i = m 5 877025 0 i) (a u : Nat) : z_gf m' a u = z_gf m a u := h _
theorem z_du.cg (h : z_du C m u) (h1 : ∀ s r i, 344085 ≤ s → s < 600000 → C' 4 s r i = C 4 s r i) (h2 : ∀ a, z_gf m' a u = z_gf m a u) : z_du C' m' u := by
  obtain ⟨a1, a2, a3, a4, ⟨n, n1, n2, n3, n4⟩, a6, a7⟩ := h
  have e : (fun a => z_gf m' a u) = fun a => z_gf m a u := funext h2
  unfold z_du
  rw [e, h1 360577 _ _ (by omega) (by omega), h1 376961 _ _ (by omega) (by omega), h1 426113 _ _ (by omega) (by omega), h1 442497 _ _ (by omega) (by omega), h2, h2, h2, h2]
  exact ⟨a1, a2, a3, a4, ⟨n, n1, n2, n3, fun i hi => by rw [h1 394241 _ _ (by omega) (by omega), h2]; exact n4 i hi⟩, fun w hw => by rw [h1 410881 _ _ (by omega) (by omega), h2]; exact a6 w hw, a7⟩
/-- CONGRUENCE -/
theorem z_DR.cg (h : z_DR c d C m) (h1 : ∀ s r i, 344085 ≤ s → s < 600000 → C' 4 s r i = C 4 s r i) (h2 : ∀ i, m' 5 877025 0 i = m 5 877025 0 i) (h3 : m' 5 819253 0 14 = m 5 819253 0 14) : z_DR c d C' m' := by
  obtain ⟨⟨b1, b2, b3, b4, b5, b6, b7⟩, a2, a3, a4, a5, a6, a7⟩ := h
  have g := z_gf_cg h2
  refine ⟨⟨b1, b2, b3, (h1 _ _ _ (by omega) (by omega)).trans b4, (h2 _).trans b5, (h2 _).trans b6, (h2 _).trans b7⟩, fun u hu => (a2 u hu).cg h1 (fun a => g a u), fun u hu => ?_, fun u hu r hr => ?_, fun u hu h16 a ha => (g a u).trans (a5 u hu h16 a ha), fun z => ⟨h3.trans (a6 z).1, (g 20 c).trans (a6 z).2⟩, a7.cg (h1 _ _ _ (by omega) (by omega)) (fun i _ => h1 _ _ _ (by omega) (by omega)) (fun i _ => h1 _ _ _ (by omega) (by omega))⟩
  · obtain ⟨s1, s2⟩ := a3 u hu
    unfold z_ds
    rw [g, g]
    exact ⟨fun z => by
      obtain ⟨s, e1, e2, e3⟩ := s1 z
      exact ⟨s, e1, e2, (g 0 s).trans e3⟩, s2⟩
  · rw [h1 475265 _ _ (by omega) (by omega), g]; exact a4 u hu r hr
theorem z_gf_set {x : Nat} {b : Nat} (hb : b < 56) (ha : i < 56) : z_gf (ux_set m 5 877025 0 (188 + 56 * x + b) V) i u = if u = x ∧ i = b then V else z_gf m i u := by
  unfold z_gf
  rw [z_set]
  by_cases q : u = x ∧ i = b
  · rw [if_pos ⟨rfl, rfl, rfl, by omega⟩, if_pos q]
  · rw [if_neg (fun z => q ⟨by omega, by omega⟩), if_neg q]
/-- a property of the unit that is being read -/
theorem z_DR.pw (h : z_DR c (c + 1) C m) (hk : z_gf m 0 c = 0) (hw : w < 10) (hV : z_prv w V) : z_DR c (c + 1) (ux_set C 4 410881 0 (c * 10 + w) V) (ux_set m 5 877025 0 (188 + 56 * c + (10 + w)) V) := by
  obtain ⟨⟨b1, b2, b3, b4, b5, b6, b7⟩, a2, a3, a4, a5, a6, a7⟩ := h
  have hC : ∀ s r i, ¬ s = 410881 → ux_set C 4 410881 0 (c * 10 + w) V 4 s r i = C 4 s r i := fun s r i q => z_so q
  have g : ∀ a u, a < 56 → z_gf (ux_set m 5 877025 0 (188 + 56 * c + (10 + w)) V) a u = if u = c ∧ a = 10 + w then V else z_gf m a u := fun a u ha => z_gf_set (by omega) ha
  have gn : ∀ a u, a < 56 → ¬ a = 10 + w → z_gf (ux_set m 5 877025 0 (188 + 56 * c + (10 + w)) V) a u = z_gf m a u := fun a u ha q => by rw [g a u ha, if_neg (fun z => q z.2)]
  refine ⟨⟨b1, b2, b3, (hC _ _ _ (by decide)).trans b4, ?_, ?_, ?_⟩, fun u hu => ?_, fun u hu => ?_, fun u hu r hr => ?_, fun u hu h16 a ha => ?_, fun z => ?_, a7.cg (hC _ _ _ (by decide)) (fun i _ => hC _ _ _ (by decide)) (fun i _ => hC _ _ _ (by decide))⟩
  · rw [z_si (by omega)]; exact b5
  · rw [z_si (by omega)]; exact b6
  · rw [z_si (by omega)]; exact b7
  · obtain ⟨e1, e2, e3, e4, ⟨n, n1, n2, n3, n4⟩, e6, f1, f2, f3, f4⟩ := a2 u hu
    unfold z_du z_gr
    rw [hC 360577 _ _ (by decide), hC 376961 _ _ (by decide), hC 426113 _ _ (by decide), hC 442497 _ _ (by decide), gn 0 u (by omega) (by omega), gn 1 u (by omega) (by omega), gn 20 u (by omega) (by omega), gn 21 u (by omega) (by omega)]
    refine ⟨e1, e2, e3, e4, ⟨n, n1, n2, n3, fun i hi => by rw [hC 394241 _ _ (by decide), gn (2 + i) u (by omega) (by omega)]; exact n4 i hi⟩, fun w' hw' => ?_, ?_, fun w' hw' => ?_, fun z => ?_, fun a h1 h2 => ?_⟩
    · rw [g (10 + w') u (by omega), z_set]
      by_cases q : u = c ∧ w' = w
      · rw [if_pos ⟨rfl, rfl, rfl, by omega⟩, if_pos ⟨q.1, by omega⟩]
      · rw [if_neg (fun z => q ⟨by omega, by omega⟩), if_neg (fun z => q ⟨z.1, by omega⟩)]; exact e6 w' hw'
    · show z_gf _ 0 u = 0 ∨ z_gf _ 0 u = 1 ∨ z_gf _ 0 u = 2
      rw [gn 0 u (by omega) (by omega)]; exact f1
    · show z_prv w' (z_gf _ (10 + w') u)
      rw [g (10 + w') u (by omega)]
      by_cases q : u = c ∧ 10 + w' = 10 + w
      · rw [if_pos q, show w' = w by omega]; exact hV
      · rw [if_neg q]; exact f2 w' hw'
    · have z' : ¬ z_gf m 0 u = 0 := by rw [← gn 0 u (by omega) (by omega)]; exact z
      have uc : ¬ u = c := fun e => z' (e ▸ hk)
      show z_gf _ 14 u = 0 ∧ z_gf _ 15 u = 0
      rw [g 14 u (by omega), g 15 u (by omega), if_neg (fun y => uc y.1), if_neg (fun y => uc y.1)]
      exact f3 z'
    · show z_gf _ a u = _
      rw [gn a u h2 (by omega)]; exact f4 a h1 h2
  · obtain ⟨s1, s2⟩ := a3 u hu
    unfold z_ds
    rw [gn 0 u (by omega) (by omega), gn 20 u (by omega) (by omega)]
    exact ⟨fun z => by
      obtain ⟨s, e1, e2, e3⟩ := s1 z
      exact ⟨s, e1, e2, (gn 0 s (by omega) (by omega)).trans e3⟩, s2⟩
  · rw [hC 475265 _ _ (by decide), gn (22 + r) u (by omega) (by omega)]; exact a4 u hu r hr
  · rw [g a u ha, if_neg (fun z => by omega)]; exact a5 u hu h16 a ha
  · rw [z_so (by decide), gn 20 c (by omega) (by omega)]; exact a6 z
end ZL4
