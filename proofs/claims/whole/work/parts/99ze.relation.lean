/-! LOAD, 10: a relation (by wip/whole/gen99ze.py) -/
section ZLA
variable {C C' m m' : ux_M} {T : Nat → Int32} {N i j p p' q n u w c d e L k s r : Nat} {V a b x : Int32}
theorem z_bt32 {x : Int32} {v : Nat} (h : bt x v = true) : v < 32 := by
  unfold bt at h; exact BitVec.lt_of_getLsbD h
/-- one more unit in a relation -/
theorem z_DR.rw (h : z_DR c c C m) (hr : r < 6) (hu : u < c) (hs : s < c) (hn : ¬ s = u) : z_DR c c (ux_set C 4 475265 r u (C 4 475265 r u ||| ((1 : Int32) <<< (nI s &&& 31)))) (ux_set m 5 877025 0 (188 + 56 * u + (22 + r)) (m 5 877025 0 (188 + 56 * u + (22 + r)) ||| ((1 : Int32) <<< (nI s &&& 31)))) := by
  obtain ⟨⟨b1, b2, b3, b4, b5, b6, b7⟩, a2, a3, a4, a5, a6, a7⟩ := h
  obtain ⟨V, eV⟩ : ∃ V, V = m 5 877025 0 (188 + 56 * u + (22 + r)) ||| ((1 : Int32) <<< (nI s &&& 31)) := ⟨_, rfl⟩
  have eC : C 4 475265 r u ||| ((1 : Int32) <<< (nI s &&& 31)) = V := by rw [(a4 u (by omega) r hr).1, eV]; rfl
  rw [eC, ← eV]
  have hC : ∀ s' r' i, ¬ s' = 475265 → ux_set C 4 475265 r u V 4 s' r' i = C 4 s' r' i := fun s' r' i q => z_so q
  have g : ∀ a u', a < 56 → z_gf (ux_set m 5 877025 0 (188 + 56 * u + (22 + r)) V) a u' = if u' = u ∧ a = 22 + r then V else z_gf m a u' := fun a u' ha => z_gf_set (by omega) ha
  have gn : ∀ a u', a < 56 → (a < 22 ∨ 28 ≤ a) → z_gf (ux_set m 5 877025 0 (188 + 56 * u + (22 + r)) V) a u' = z_gf m a u' := fun a u' ha q => by rw [g a u' ha, if_neg (fun z => by omega)]
  refine ⟨⟨b1, b2, b3, (hC _ _ _ (by decide)).trans b4, ?_, ?_, ?_⟩, fun u' hu' => ?_, fun u' hu' => ?_, fun u' hu' r' hr' => ?_, fun u' hu' h16 a ha => ?_, fun z => absurd z (by omega), a7.cg (hC _ _ _ (by decide)) (fun i _ => hC _ _ _ (by decide)) (fun i _ => hC _ _ _ (by decide))⟩
  · rw [z_si (by omega)]; exact b5
  · rw [z_si (by omega)]; exact b6
  · rw [z_si (by omega)]; exact b7
  · obtain ⟨e1, e2, e3, e4, ⟨n, n1, n2, n3, n4⟩, e6, f1, f2, f3, f4⟩ := a2 u' hu'
    unfold z_du z_gr
    rw [hC 360577 _ _ (by decide), hC 376961 _ _ (by decide), hC 426113 _ _ (by decide), hC 442497 _ _ (by decide), gn 0 u' (by omega) (by omega), gn 1 u' (by omega) (by omega), gn 20 u' (by omega) (by omega), gn 21 u' (by omega) (by omega)]
    refine ⟨e1, e2, e3, e4, ⟨n, n1, n2, n3, fun i hi => by rw [hC 394241 _ _ (by decide), gn (2 + i) u' (by omega) (by omega)]; exact n4 i hi⟩, fun w' hw' => by rw [hC 410881 _ _ (by decide), gn (10 + w') u' (by omega) (by omega)]; exact e6 w' hw', ?_, fun w' hw' => ?_, fun z => ?_, fun a h1 h2 => ?_⟩
    · show z_gf _ 0 u' = 0 ∨ z_gf _ 0 u' = 1 ∨ z_gf _ 0 u' = 2
      rw [gn 0 u' (by omega) (by omega)]; exact f1
    · show z_prv w' (z_gf _ (10 + w') u')
      rw [gn (10 + w') u' (by omega) (by omega)]; exact f2 w' hw'
    · show z_gf _ 14 u' = 0 ∧ z_gf _ 15 u' = 0
      rw [gn 14 u' (by omega) (by omega), gn 15 u' (by omega) (by omega)]
      exact f3 (fun y => z ((gn 0 u' (by omega) (by omega)).trans y))
    · show z_gf _ a u' = _
      rw [gn a u' h2 (by omega)]; exact f4 a h1 h2
  · obtain ⟨s1, s2⟩ := a3 u' hu'
    unfold z_ds
    rw [gn 0 u' (by omega) (by omega), gn 20 u' (by omega) (by omega)]
    exact ⟨fun z => by
      obtain ⟨s, e1, e2, e3⟩ := s1 z
      exact ⟨s, e1, e2, (gn 0 s (by omega) (by omega)).trans e3⟩, s2⟩
  · obtain ⟨k1, k2⟩ := a4 u' hu' r' hr'
    rw [g (22 + r') u' (by omega), z_set]
    by_cases q : u' = u ∧ r' = r
    · obtain ⟨rfl, rfl⟩ := q
      rw [if_pos ⟨rfl, rfl, rfl, rfl⟩, if_pos ⟨rfl, rfl⟩]
      refine ⟨rfl, fun v hv => ?_⟩
      have v32 := z_bt32 hv
      rw [eV, b_or, z_bit (by omega) v32] at hv
      by_cases e : v = s
      · subst e; exact ⟨hs, hn, hu⟩
      · simp only [e, decide_false, Bool.or_false] at hv
        exact k2 v hv
    · rw [if_neg (fun z => q ⟨z.2.2.2, z.2.2.1⟩), if_neg (fun z => q ⟨z.1, by omega⟩)]
      exact ⟨k1, k2⟩
  · rw [g a u' ha, if_neg (fun z => by omega)]; exact a5 u' hu' h16 a ha
/-- which relation a word is -/
theorem z_relw (h : z_RB T N p C m) : p_17 C ∧ p_172 m ∧ ((∃ r, r ≤ 6 ∧ r_17 C = nI r ∧ r_172 m = nI (22 + r) ∧ z_xL T N p = true) ∨ (r_17 C = -1 ∧ r_172 m = -1)) := by
  have h10 : ¬ (1 : Int32) = 0 := by decide
  obtain ⟨a15, b15, x15⟩ := z_wb15 h
  obtain ⟨a16, b16, x16⟩ := z_wb16 h
  obtain ⟨a17, b17, x17⟩ := z_wb17 h
  obtain ⟨a18, b18, x18⟩ := z_wb18 h
  obtain ⟨a19, b19, x19⟩ := z_wb19 h
  obtain ⟨a20, b20, x20⟩ := z_wb20 h
  obtain ⟨a21, b21, x21⟩ := z_wb21 h
  refine ⟨⟨a15, fun _ => ⟨a16, fun _ => ⟨a17, fun _ => ⟨a18, fun _ => ⟨a19, fun _ => ⟨a20, fun _ => a21, fun _ => trivial⟩, fun _ => trivial⟩, fun _ => trivial⟩, fun _ => trivial⟩, fun _ => trivial⟩, fun _ => trivial⟩, ⟨b15, fun _ => ⟨b16, fun _ => ⟨b17, fun _ => ⟨b18, fun _ => ⟨b19, fun _ => ⟨b20, fun _ => b21, fun _ => trivial⟩, fun _ => trivial⟩, fun _ => trivial⟩, fun _ => trivial⟩, fun _ => trivial⟩, fun _ => trivial⟩, ?_⟩
  unfold r_17 r_172
  rcases x15 with ⟨x15, y15, l15⟩ | ⟨x15, y15⟩
  · rw [x15, y15, if_neg h10, if_neg h10]; exact .inl ⟨0, by omega, rfl, rfl, l15⟩
  · rw [x15, y15, if_pos rfl, if_pos rfl]
    rcases x16 with ⟨x16, y16, l16⟩ | ⟨x16, y16⟩
    · rw [x16, y16, if_neg h10, if_neg h10]; exact .inl ⟨1, by omega, rfl, rfl, l16⟩
    · rw [x16, y16, if_pos rfl, if_pos rfl]
      rcases x17 with ⟨x17, y17, l17⟩ | ⟨x17, y17⟩
      · rw [x17, y17, if_neg h10, if_neg h10]; exact .inl ⟨2, by omega, rfl, rfl, l17⟩
      · rw [x17, y17, if_pos rfl, if_pos rfl]
        rcases x18 with ⟨x18, y18, l18⟩ | ⟨x18, y18⟩
        · rw [x18, y18, if_neg h10, if_neg h10]; exact .inl ⟨3, by omega, rfl, rfl, l18⟩
        · rw [x18, y18, if_pos rfl, if_pos rfl]
          rcases x19 with ⟨x19, y19, l19⟩ | ⟨x19, y19⟩
          · rw [x19, y19, if_neg h10, if_neg h10]; exact .inl ⟨4, by omega, rfl, rfl, l19⟩
          · rw [x19, y19, if_pos rfl, if_pos rfl]
            rcases x20 with ⟨x20, y20, l20⟩ | ⟨x20, y20⟩
            · rw [x20, y20, if_neg h10, if_neg h10]; exact .inl ⟨5, by omega, rfl, rfl, l20⟩
            · rw [x20, y20, if_pos rfl, if_pos rfl]
              rcases x21 with ⟨x21, y21, l21⟩ | ⟨x21, y21⟩
              · rw [x21, y21, if_neg h10, if_neg h10]; exact .inl ⟨6, by omega, rfl, rfl, l21⟩
              · rw [x21, y21, if_pos rfl, if_pos rfl]
                exact .inr ⟨rfl, rfl⟩
/-- a word that is none names none -/
theorem z_162n (h : z_RB T N p C m) (hD : z_DR c d C m) (hl : ¬ z_xL T N p = true) : p_162 m ∧ r_162 m = -1 := by
  obtain ⟨⟨a1, a2, a3, a4, a5, a6, a7, a8, a9, a10⟩, hb⟩ := h
  obtain ⟨⟨b1, b2, b3, b4, b5, b6, b7⟩, du, ds, dr, dz, dp, nd⟩ := hD
  have h8 : ∀ u, u < c → ∃ l, l ≤ 8 ∧ m 5 877025 0 (188 + 56 * u + 1) = nI l := fun u hu => by
    obtain ⟨_, _, _, _, ⟨l, l1, l2, l3, _⟩, _⟩ := du u (by omega)
    exact ⟨l, l2, l3⟩
  obtain ⟨d1, d2⟩ := z_162l (c := c) (sz := z_xn (z_xL T N) N p - p) a2 a8 hb b5 (by omega) h8 rfl c ux_fuel 0 (-1) (by omega) (by have := z_fuel; omega)
  refine ⟨d1, ?_⟩
  rcases d2 with ⟨d2, _⟩ | ⟨v, _, v1, v2, _⟩
  · exact d2
  · exfalso
    rw [z_xn_f hl, Nat.sub_self] at v2
    obtain ⟨_, _, _, _, ⟨l, l1, l2, l3, _⟩, _⟩ := du v (by omega)
    have := (z_eq (by omega) (by omega)).mp (l3.symm.trans v2.1)
    omega
/-- readUnit, and what the reference asks there: no word, no such unit, or a unit -/
theorem z_readU (h : z_RB T N p C m) (hD : z_DR c c C m) : p_18 C ∧ p_156 (nI p) m ∧ p_162 m ∧
    ((r_156 (nI p) m = 0 ∧ r_18 C = -1 ∧ m_18 C = z_er C 1 (nI p)) ∨ (¬ r_156 (nI p) m = 0 ∧ r_162 m = -1 ∧ r_18 C = -1 ∧ m_18 C = z_er C 3 (nI p)) ∨ (¬ r_156 (nI p) m = 0 ∧ z_xL T N p = true ∧ ∃ v, v < c ∧ r_162 m = nI v ∧ r_18 C = nI v ∧ m_18 C = C)) := by
  have hle := h.1.le
  have x1 := (z_xpe (T := T) hle.1).1
  obtain ⟨b1, b2⟩ := z_156 (i := p) h.1.2.1 (by omega)
  have e3 : C 4 671757 0 3 = z_xp T N p := h.1.2.2.2.2.1
  have e1 : C 4 671757 0 1 = 1 := h.1.1.2.1
  have e4 : C 4 671757 0 4 = nI p := h.1.2.2.1
  by_cases q : z_xL T N p = true
  · obtain ⟨c1, c2, c3, c4, c5, c6⟩ := z_named h hD q rfl
    have px := x1.mpr q
    have n0 : ¬ r_156 (nI p) m = 0 := by rw [b2, if_pos q]; decide
    unfold p_18 r_18 m_18
    rw [e3, if_pos px, if_pos px, c2, c1, c4]
    refine ⟨⟨fun _ => ⟨e1, c3⟩, fun z => absurd px z⟩, b1, c5, ?_⟩
    rcases c6 with ⟨d1, d2, _⟩ | ⟨v, d1, d2, d3⟩ | ⟨z, _⟩
    · rw [d1, if_pos rfl, if_pos rfl]
      refine .inr (.inl ⟨n0, d2, rfl, ?_⟩)
      show z_er C 3 (C 4 671757 0 4) = _
      rw [e4]
    · have nv : ¬ nI v = -1 := fun z => by
        have hc : c ≤ 16 := hD.1.2.2.1
        have : (nI v).toInt = v := nI_toInt (by omega)
        rw [z] at this; have : (-1 : Int32).toInt = -1 := by decide
        omega
      rw [d2, if_neg nv, if_neg nv]
      exact .inr (.inr ⟨n0, q, v, d1, d3, rfl, rfl⟩)
    · omega
  · have n1 : ¬ z_xp T N p = 1 := fun z => q (x1.mp z)
    obtain ⟨c1, c2⟩ := z_162n h hD q
    unfold p_18 r_18 m_18
    rw [e3, if_neg n1, if_neg n1]
    refine ⟨⟨fun z => absurd z n1, fun _ => trivial⟩, b1, c1, .inl ⟨by rw [b2, if_neg q], rfl, ?_⟩⟩
    show z_er C 1 (C 4 671757 0 4) = _
    rw [e4]
end ZLA
