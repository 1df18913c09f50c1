/-! LOAD, 9: a word names a unit, on both sides -/
section ZL9
variable {C C' m m' : ux_M} {T : Nat → Int32} {N i j p p' q n u w c d e L k s sz : Nat} {V a b x : Int32}
theorem z_162l (h : z_rd5 m T N) (hp : p ≤ N) (hb : m 5 819253 0 10 = nI p) (hc : m 5 877025 0 1 = nI c) (h16 : c ≤ 16) (h8 : ∀ u, u < c → ∃ l, l ≤ 8 ∧ m 5 877025 0 (188 + 56 * u + 1) = nI l) (hs : sz = z_xn (z_xL T N) N p - p) : ∀ (n f u : Nat) (x1 : Int32), u + n = c → n < f → p_162_4 f x1 (nI u) m ∧ ((r_162_4 f x1 (nI u) m = x1 ∧ ∀ v, u ≤ v → v < c → ¬ z_nr 877025 m p sz v) ∨ ∃ v, u ≤ v ∧ v < c ∧ z_nr 877025 m p sz v ∧ r_162_4 f x1 (nI u) m = nI v) := by
  have hN := h.1
  have z10 : ¬ (1 : Int32) = 0 := by decide
  obtain ⟨w1, w2, _, _⟩ := z_xn_b (P := z_xL T N) (N := N) (N - p) p (by omega)
  obtain ⟨g1, g2⟩ := z_155 h hp hb
  intro n
  induction n with
  | zero =>
    intro f u x1 hu hn
    obtain ⟨f, rfl⟩ : ∃ g, f = g + 1 := ⟨f - 1, by omega⟩
    have hle := z_yle (show c ≤ u by omega) (by omega)
    rw [p_162_4, r_162_4, z_c1, hc, if_pos hle]
    exact ⟨⟨z_v1, fun _ => trivial, fun z => absurd hle z⟩, .inl ⟨rfl, fun v h1 h2 => absurd h2 (by omega)⟩⟩
  | succ n ih =>
    intro f u x1 hu hn
    obtain ⟨f, rfl⟩ : ∃ g, f = g + 1 := ⟨f - 1, by omega⟩
    have uc : u < c := by omega
    have hle := z_nle uc h16
    have hl8 : sz ≤ 8 ∨ ¬ m 5 877025 0 (188 + 56 * u + 1) = nI sz := by
      obtain ⟨l, l1, l2⟩ := h8 u uc
      by_cases q : sz ≤ 8
      · exact .inl q
      · exact .inr (fun z => by have := (z_eq (by omega) (by omega)).mp (l2.symm.trans z); omega)
    obtain ⟨a1, a2⟩ := z_163f (M := m) (v := u) (fr := p) (sz := sz) (by omega) hl8 (by omega)
    rw [p_162_4, r_162_4, z_c1, hc, if_neg hle, g2, hb, z_sbn w1, ← hs, z_nx]
    rcases a2 with ⟨a2, a3⟩ | ⟨a2, a3⟩
    · obtain ⟨j1, j3⟩ := ih f (u + 1) (nI u) (by omega) (by omega)
      rw [a2, if_neg z10]
      refine ⟨⟨z_v1, fun z => absurd z hle, fun _ => ⟨g1, a1, fun z => absurd z z10, fun _ => j1⟩⟩, ?_⟩
      rcases j3 with ⟨j3, _⟩ | ⟨v, v1, v2, v3, v4⟩
      · exact .inr ⟨u, Nat.le_refl _, uc, a3, j3⟩
      · exact .inr ⟨v, by omega, v2, v3, v4⟩
    · obtain ⟨j1, j3⟩ := ih f (u + 1) x1 (by omega) (by omega)
      rw [a2, if_pos rfl]
      refine ⟨⟨z_v1, fun z => absurd z hle, fun _ => ⟨g1, a1, fun _ => j1, fun z => absurd rfl z⟩⟩, ?_⟩
      rcases j3 with ⟨j3, j4⟩ | ⟨v, v1, v2, v3, v4⟩
      · exact .inl ⟨j3, fun v h1 h2 => by
          by_cases e : v = u
          · subst e; exact a3
          · exact j4 v (by omega) h2⟩
      · exact .inr ⟨v, by omega, v2, v3, v4⟩
theorem z_dnm (h4 : z_rd4 C T N) (h5 : z_rd5 m T N) (hu : z_du C m u) (hz : p + sz ≤ N) : z_nm 4 C p sz u ↔ z_nr 877025 m p sz u := by
  have hN := h4.1
  obtain ⟨a1, a2, a3, a4, ⟨l, l1, l2, l3, l4⟩, a6, a7⟩ := hu
  unfold z_nm z_nr
  rw [a2, show m 5 877025 0 (188 + 56 * u + 1) = z_gf m 1 u from rfl, l3]
  refine and_congr_right (fun e => ?_)
  have el : l = sz := (z_eq (by omega) (by omega)).mp e
  subst el
  refine forall_congr' (fun j => forall_congr' (fun hj => ?_))
  have ej : 188 + 56 * u + 2 + j = 188 + 56 * u + (2 + j) := by omega
  rw [l4 j hj, h4.2.2.2 (p + j) (by omega), h5.2.2 (p + j) (by omega), ej]; exact Iff.rfl
/-- named: the same unit; none; or the one that only the class counts as yet -/
theorem z_named (h : z_RB T N p C m) (hD : z_DR c d C m) (hl : z_xL T N p = true) (hs : sz = z_xn (z_xL T N) N p - p) :
    C 4 671757 0 4 = nI p ∧ C 4 671757 0 5 - C 4 671757 0 4 = nI sz ∧ p_15 4 (nI p) (nI sz) C ∧ m_15 4 (nI p) (nI sz) C = C ∧ p_162 m ∧
    ((r_15 4 (nI p) (nI sz) C = -1 ∧ r_162 m = -1 ∧ (sz ≤ 8 → ∀ v, v < d → ¬ z_nm 4 C p sz v)) ∨ (∃ v, v < c ∧ r_15 4 (nI p) (nI sz) C = nI v ∧ r_162 m = nI v) ∨ (d = c + 1 ∧ r_15 4 (nI p) (nI sz) C = nI c ∧ r_162 m = -1)) := by
  obtain ⟨⟨a1, a2, a3, a4, a5, a6, a7, a8, a9, a10⟩, hb⟩ := h
  have hN := a1.1
  obtain ⟨⟨b1, b2, b3, b4, b5, b6, b7⟩, du, ds, dr, dz, dp, nd⟩ := hD
  obtain ⟨w1, w2, _, _⟩ := z_xn_b (P := z_xL T N) (N := N) (N - p) p (by omega)
  obtain ⟨y1, y2⟩ := (z_xpe (T := T) a8).2.1 hl
  have hz : p + sz ≤ N := by omega
  have e5 : C 4 671757 0 5 - C 4 671757 0 4 = nI sz := by rw [a4, a3, y1, z_sbn w1, hs]
  obtain ⟨c1, c2, c3⟩ := z_15 (k := 4) (M := C) (c := d) (fr := p) (sz := sz) b4 b3 (by omega)
  obtain ⟨d1, d2⟩ := z_162l (c := c) a2 a8 hb b5 (by omega) (fun u hu => by
    obtain ⟨_, _, _, _, ⟨l, l1, l2, l3, _⟩, _⟩ := du u (by omega)
    exact ⟨l, l2, l3⟩) hs c ux_fuel 0 (-1) (by omega) (by have := z_fuel; omega)
  have iff := fun u hu => z_dnm (p := p) (sz := sz) a1 a2 (du u hu) hz
  have none : sz ≤ 8 ∨ ∀ v, v < c → ¬ z_nr 877025 m p sz v := by
    by_cases q : sz ≤ 8
    · exact .inl q
    · refine .inr (fun v hv z => ?_)
      obtain ⟨_, _, _, _, ⟨l, l1, l2, l3, _⟩, _⟩ := du v (by omega)
      have := (z_eq (by omega) (by omega)).mp (l3.symm.trans z.1)
      omega
  have d1' : p_162 m := d1
  have er : r_162 m = r_162_4 ux_fuel (-1) (nI 0) m := rfl
  refine ⟨a3, e5, c1, c2, d1', ?_⟩
  rw [er]
  rcases c3 with ⟨c3, c4⟩ | ⟨s8, v, v1, v2, v3⟩
  · rcases d2 with ⟨d2, _⟩ | ⟨v, _, v1, v2, _⟩
    · exact .inl ⟨c3, d2, c4⟩
    · rcases none with q | q
      · exact absurd ((iff v (by omega)).mpr v2) (c4 q v (by omega))
      · exact absurd v2 (q v v1)
  · rcases d2 with ⟨d2, d3⟩ | ⟨v', _, v1', v2', v3'⟩
    · by_cases q : v < c
      · exact absurd ((iff v v1).mp v2) (d3 v (by omega) q)
      · have ev : v = c := by omega
        subst ev
        exact .inr (.inr ⟨by omega, v3, d2⟩)
    · have := z_nmu nd b4 b3 s8 v1 (show v' < d by omega) v2 ((iff v' (by omega)).mpr v2')
      subst this
      exact .inr (.inl ⟨v, v1', v3, v3'⟩)
end ZL9
