/-! LOAD, 14: a unit more in the draft -/
section ZLE
variable {C C' R m m' : ux_M} {T : Nat → Int32} {N i j p p' q n u v w c d e L k s r sz : Nat} {V b x kd : Int32}
theorem z_du.cgu (h : z_du C m u) (e1 : C' 4 360577 0 u = C 4 360577 0 u) (e2 : C' 4 376961 0 u = C 4 376961 0 u) (e3 : C' 4 426113 0 u = C 4 426113 0 u) (e4 : C' 4 442497 0 u = C 4 442497 0 u) (e5 : ∀ i, i < 8 → C' 4 394241 0 (u * 8 + i) = C 4 394241 0 (u * 8 + i)) (e6 : ∀ w, w < 10 → C' 4 410881 0 (u * 10 + w) = C 4 410881 0 (u * 10 + w)) (h2 : ∀ a, a < 56 → z_gf m' a u = z_gf m a u) : z_du C' m' u := by
  obtain ⟨a1, a2, a3, a4, ⟨n, n1, n2, n3, n4⟩, a6, f1, f2, f3, f4⟩ := h
  unfold z_du z_gr
  rw [e1, e2, e3, e4, h2 0 (by omega), h2 1 (by omega), h2 20 (by omega), h2 21 (by omega)]
  refine ⟨a1, a2, a3, a4, ⟨n, n1, n2, n3, fun i hi => by rw [e5 i (by omega), h2 (2 + i) (by omega)]; exact n4 i hi⟩, fun w hw => by rw [e6 w hw, h2 (10 + w) (by omega)]; exact a6 w hw, ?_, fun w hw => ?_, fun z => ?_, fun a y1 y2 => ?_⟩
  · show z_gf _ 0 u = 0 ∨ z_gf _ 0 u = 1 ∨ z_gf _ 0 u = 2
    rw [h2 0 (by omega)]; exact f1
  · show z_prv w (z_gf _ (10 + w) u)
    rw [h2 (10 + w) (by omega)]; exact f2 w hw
  · show z_gf _ 14 u = 0 ∧ z_gf _ 15 u = 0
    rw [h2 14 (by omega), h2 15 (by omega)]
    exact f3 (fun y => z ((h2 0 (by omega)).trans y))
  · show z_gf _ a u = _
    rw [h2 a y2]; exact f4 a y1 y2
/-- the values of a new unit in the fresh row -/
def z_nv (T : Nat → Int32) (p sz : Nat) (kd : Int32) (a : Nat) : Int32 := if z_d6 a = true then z_dv a else if 2 ≤ a ∧ a < 2 + sz then T (p + (a - 2)) else if a = 1 then nI sz else if a = 0 then kd else 0
theorem z_nv_z {a : Nat} (ha : 10 ≤ a) (hs : sz ≤ 8) (h : ¬ z_d6 a = true) : z_nv T p sz kd a = 0 := by
  unfold z_nv
  rw [if_neg h, if_neg (by omega), if_neg (by omega), if_neg (by omega)]
theorem z_nv_6 {a : Nat} (h : z_d6 a = true) : z_nv T p sz kd a = z_dv a := if_pos h
theorem z_nv_p (hs : sz ≤ 8) (hw : w < 10) : z_nv T p sz kd (10 + w) = z_df w ∧ z_prv w (z_df w) := by
  have : w = 0 ∨ w = 1 ∨ w = 2 ∨ w = 3 ∨ w = 4 ∨ w = 5 ∨ w = 6 ∨ w = 7 ∨ w = 8 ∨ w = 9 := by omega
  rcases this with rfl | rfl | rfl | rfl | rfl | rfl | rfl | rfl | rfl | rfl
  · exact ⟨z_nv_z (by omega) hs (by decide), 0, by decide, by decide, rfl⟩
  · exact ⟨z_nv_z (by omega) hs (by decide), 0, by decide, by decide, rfl⟩
  · exact ⟨z_nv_z (by omega) hs (by decide), 0, by decide, by decide, rfl⟩
  · exact ⟨z_nv_z (by omega) hs (by decide), 0, by decide, by decide, rfl⟩
  · exact ⟨z_nv_z (by omega) hs (by decide), 0, by decide, by decide, rfl⟩
  · exact ⟨z_nv_z (by omega) hs (by decide), 0, by decide, by decide, rfl⟩
  · exact ⟨z_nv_6 (by decide), 1, by decide, by decide, rfl⟩
  · exact ⟨z_nv_6 (by decide), 5, by decide, by decide, rfl⟩
  · exact ⟨z_nv_6 (by decide), 10, by decide, by decide, rfl⟩
  · exact ⟨z_nv_z (by omega) hs (by decide), 0, by decide, by decide, rfl⟩
/-- both sides have added the unit -/
theorem z_DR.add (h : z_DR c c C m) (hc : c < 16) (hs1 : 1 ≤ sz) (hs : sz ≤ 8) (hkd : kd = 0 ∨ kd = 1 ∨ kd = 2) (hno : ∀ v, v < c → ¬ z_nm 4 C p sz v) (hT : ∀ j, j < sz → C 4 694529 0 (p + j) = T (p + j))
    (r1 : R 4 344085 0 0 = nI (c + 1)) (r2 : R 4 360577 0 c = kd) (r3 : R 4 376961 0 c = nI sz) (r4 : R 4 426113 0 c = -1) (r5 : R 4 442497 0 c = 0) (r6 : ∀ j, j < sz → R 4 394241 0 (c * 8 + j) = T (p + j)) (r7 : ∀ w, w < 10 → R 4 410881 0 (c * 10 + w) = z_df w)
    (rf : ∀ s r i, ¬ ((s = 344085 ∧ i = 0) ∨ ((s = 360577 ∨ s = 376961 ∨ s = 426113 ∨ s = 442497) ∧ i = c) ∨ (s = 394241 ∧ c * 8 ≤ i ∧ i < c * 8 + 8) ∨ (s = 410881 ∧ c * 10 ≤ i ∧ i < c * 10 + 10)) → R 4 s r i = C 4 s r i)
    (m1 : ∀ a, a < 56 → z_gf m' a c = z_nv T p sz kd a) (mf : ∀ i, ¬ (188 + 56 * c ≤ i ∧ i < 188 + 56 * c + 56) → m' 5 877025 0 i = m 5 877025 0 i) (m14 : m' 5 819253 0 14 = nI (188 + 56 * c)) : z_DR c (c + 1) R m' := by
  obtain ⟨⟨b1, b2, b3, b4, b5, b6, b7⟩, a2, a3, a4, a5, a6, a7⟩ := h
  have g : ∀ a u, a < 56 → ¬ u = c → z_gf m' a u = z_gf m a u := fun a u ha hu => mf _ (by omega)
  have nv0 : z_nv T p sz kd 0 = kd := by unfold z_nv; rw [if_neg (by decide), if_neg (by omega), if_neg (by omega), if_pos rfl]
  have nv1 : z_nv T p sz kd 1 = nI sz := by unfold z_nv; rw [if_neg (by decide), if_neg (by omega), if_pos rfl]
  refine ⟨⟨by omega, Nat.le_refl _, by omega, r1, (mf _ (by omega)).trans b5, (mf _ (by omega)).trans b6, (mf _ (by omega)).trans b7⟩, fun u hu => ?_, fun u hu => ?_, fun u hu r hr => ?_, fun u hu h16 a ha => ?_, fun _ => ⟨m14, ?_⟩, fun u v cc hcc h16 huv hv q => ?_⟩
  · by_cases uc : u = c
    · subst uc
      unfold z_du z_gr
      rw [r2, r3, r4, r5, m1 0 (by omega), m1 1 (by omega), m1 20 (by omega), m1 21 (by omega), nv0, nv1]
      refine ⟨rfl, rfl, rfl, (z_nv_z (by omega) hs (by decide)).symm, ⟨sz, hs1, hs, rfl, fun i hi => ?_⟩, fun w hw => ?_, ?_, fun w hw => ?_, fun _ => ?_, fun a y1 y2 => ?_⟩
      · rw [r6 i hi, m1 (2 + i) (by omega)]
        have nd : ¬ z_d6 (2 + i) = true := by unfold z_d6; simp only [show ¬ 2 + i = 16 by omega, show ¬ 2 + i = 17 by omega, show ¬ 2 + i = 18 by omega, show ¬ 2 + i = 20 by omega, show ¬ 2 + i = 35 by omega, show ¬ 2 + i = 41 by omega, decide_false, Bool.or_false]; decide
        unfold z_nv
        rw [if_neg nd, if_pos (by omega), show 2 + i - 2 = i by omega]
      · rw [r7 w hw, m1 (10 + w) (by omega)]; exact (z_nv_p hs hw).1.symm
      · show z_gf m' 0 u = 0 ∨ z_gf m' 0 u = 1 ∨ z_gf m' 0 u = 2
        rw [m1 0 (by omega), nv0]; exact hkd
      · show z_prv w (z_gf m' (10 + w) u)
        have pp := z_nv_p (T := T) (p := p) (kd := kd) hs hw; rw [m1 (10 + w) (by omega), pp.1]; exact pp.2
      · show z_gf m' 14 u = 0 ∧ z_gf m' 15 u = 0
        rw [m1 14 (by omega), m1 15 (by omega)]
        exact ⟨z_nv_z (by omega) hs (by decide), z_nv_z (by omega) hs (by decide)⟩
      · show z_gf m' a u = _
        rw [m1 a y2]
        by_cases q1 : a = 35
        · subst q1; rfl
        · by_cases q2 : a = 41
          · subst q2; rfl
          · rw [if_neg (by omega), z_nv_z (by omega) hs (by unfold z_d6; simp only [show ¬ a = 16 by omega, show ¬ a = 17 by omega, show ¬ a = 18 by omega, show ¬ a = 20 by omega, q1, q2, decide_false, Bool.or_false]; decide)]
    · exact (a2 u (by omega)).cgu (rf _ _ _ (by omega)) (rf _ _ _ (by omega)) (rf _ _ _ (by omega)) (rf _ _ _ (by omega)) (fun i hi => rf _ _ _ (by omega)) (fun w hw => rf _ _ _ (by omega)) (fun a ha => g a u ha uc)
  · obtain ⟨s1, s2⟩ := a3 u hu
    unfold z_ds
    rw [g 0 u (by omega) (by omega), g 20 u (by omega) (by omega)]
    exact ⟨fun z => by
      obtain ⟨s, e1, e2, e3⟩ := s1 z
      exact ⟨s, e1, e2, (g 0 s (by omega) (by omega)).trans e3⟩, s2⟩
  · obtain ⟨k1, k2⟩ := a4 u hu r hr
    rw [rf _ _ _ (by omega)]
    by_cases uc : u = c
    · subst uc
      have z0 : z_gf m (22 + r) u = 0 := a5 u (Nat.le_refl _) hu (22 + r) (by omega)
      have z1 : z_gf m' (22 + r) u = 0 := by
        rw [m1 (22 + r) (by omega)]
        refine z_nv_z (by omega) hs ?_
        unfold z_d6; simp only [show ¬ 22 + r = 16 by omega, show ¬ 22 + r = 17 by omega, show ¬ 22 + r = 18 by omega, show ¬ 22 + r = 20 by omega, show ¬ 22 + r = 35 by omega, show ¬ 22 + r = 41 by omega, decide_false, Bool.or_false]; decide
      rw [k1, z0, z1]
      exact ⟨rfl, fun v hv => by rw [b_0] at hv; cases hv⟩
    · rw [g (22 + r) u (by omega) uc]; exact ⟨k1, k2⟩
  · rw [g a u ha (by omega)]; exact a5 u (by omega) h16 a ha
  · rw [m1 20 (by omega)]; rfl
  · have ecc : cc = c + 1 := (z_eq (by omega) (by omega)).mp (hcc.symm.trans r1)
    subst ecc
    by_cases vc : v = c
    · subst vc
      obtain ⟨q1, q2⟩ := q
      rw [r3, rf 376961 0 u (by omega)] at q1
      refine hno u (by omega) ⟨q1, fun j hj => ?_⟩
      have := q2 j (by omega) (by rw [rf 376961 0 u (by omega), q1]; exact (z_lt (by omega) (by omega)).mpr hj)
      rw [r6 j hj, rf 394241 0 (u * 8 + j) (by omega)] at this
      rw [this, hT j hj]
    · obtain ⟨q1, q2⟩ := q
      rw [rf 376961 0 u (by omega), rf 376961 0 v (by omega)] at q1
      refine a7 u v c b4 (by omega) huv (by omega) ⟨q1, fun i hi hl => ?_⟩
      have := q2 i hi (by rw [rf 376961 0 u (by omega)]; exact hl)
      rw [rf 394241 0 (u * 8 + i) (by omega), rf 394241 0 (v * 8 + i) (by omega)] at this
      exact this
end ZLE
