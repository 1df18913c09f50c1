/-! LOAD, 17: a socket, a target, a service -/
section ZLH
variable {C C' R m m' : ux_M} {T : Nat → Int32} {N i j p p' q n u v w c d e L k s r sz : Nat} {V b x kd z0 rc rr : Int32}
/-- the socket that was read is counted -/
theorem z_DR.fins (h : z_DR c (c + 1) C m) (hk : z_gf m 0 c = 1) (hs : s < c) (hks : z_gf m 0 s = 0) (hC1 : C' 4 426113 0 c = nI s) (hC2 : C' 4 442497 0 c = V)
    (hC : ∀ s' r i, ¬ ((s' = 426113 ∨ s' = 442497) ∧ i = c) → 344085 ≤ s' → s' < 600000 → C' 4 s' r i = C 4 s' r i)
    (hm : ∀ i, m' 5 877025 0 i = if i = 1 then nI (c + 1) else if i = 188 + 56 * c + 20 then nI s else if i = 188 + 56 * c + 21 then V else m 5 877025 0 i) : z_DR (c + 1) (c + 1) C' m' := by
  obtain ⟨⟨b1, b2, b3, b4, b5, b6, b7⟩, a2, a3, a4, a5, a6, a7⟩ := h
  have g : ∀ a u, a < 56 → ¬ (u = c ∧ (a = 20 ∨ a = 21)) → z_gf m' a u = z_gf m a u := fun a u ha q => by
    unfold z_gf; rw [hm, if_neg (by omega), if_neg (by omega), if_neg (by omega)]
  have g20 : z_gf m' 20 c = nI s := by unfold z_gf; rw [hm, if_neg (by omega), if_pos rfl]
  have g21 : z_gf m' 21 c = V := by unfold z_gf; rw [hm, if_neg (by omega), if_neg (by omega), if_pos rfl]
  refine ⟨⟨Nat.le_refl _, by omega, b3, (hC _ _ _ (by omega) (by omega) (by omega)).trans b4, by rw [hm, if_pos rfl], ?_, ?_⟩, fun u hu => ?_, fun u hu => ?_, fun u hu r hr => ?_, fun u hu h16 a ha => ?_, fun z => absurd z (by omega), a7.cg (hC _ _ _ (by omega) (by omega) (by omega)) (fun i _ => hC _ _ _ (by omega) (by omega) (by omega)) (fun i _ => hC _ _ _ (by omega) (by omega) (by omega))⟩
  · rw [hm, if_neg (by omega), if_neg (by omega), if_neg (by omega)]; exact b6
  · rw [hm, if_neg (by omega), if_neg (by omega), if_neg (by omega)]; exact b7
  · by_cases uc : u = c
    · subst uc
      obtain ⟨e1, e2, e3, e4, ⟨n, n1, n2, n3, n4⟩, e6, f1, f2, f3, f4⟩ := a2 u hu
      unfold z_du z_gr
      rw [hC 360577 _ _ (by omega) (by omega) (by omega), hC 376961 _ _ (by omega) (by omega) (by omega), hC1, hC2, g 0 u (by omega) (by omega), g 1 u (by omega) (by omega), g20, g21]
      refine ⟨e1, e2, rfl, rfl, ⟨n, n1, n2, n3, fun i hi => by rw [hC 394241 _ _ (by omega) (by omega) (by omega), g (2 + i) u (by omega) (by omega)]; exact n4 i hi⟩, fun w hw => by rw [hC 410881 _ _ (by omega) (by omega) (by omega), g (10 + w) u (by omega) (by omega)]; exact e6 w hw, ?_, fun w hw => ?_, fun z => ?_, fun a y1 y2 => ?_⟩
      · show z_gf m' 0 u = 0 ∨ z_gf m' 0 u = 1 ∨ z_gf m' 0 u = 2
        rw [g 0 u (by omega) (by omega)]; exact f1
      · show z_prv w (z_gf m' (10 + w) u)
        rw [g (10 + w) u (by omega) (by omega)]; exact f2 w hw
      · show z_gf m' 14 u = 0 ∧ z_gf m' 15 u = 0
        rw [g 14 u (by omega) (by omega), g 15 u (by omega) (by omega)]
        exact f3 (fun y => z ((g 0 u (by omega) (by omega)).trans y))
      · show z_gf m' a u = _
        rw [g a u y2 (by omega)]; exact f4 a y1 y2
    · exact (a2 u hu).cgu (hC _ _ _ (by omega) (by omega) (by omega)) (hC _ _ _ (by omega) (by omega) (by omega)) (hC _ _ _ (by omega) (by omega) (by omega)) (hC _ _ _ (by omega) (by omega) (by omega)) (fun i hi => hC _ _ _ (by omega) (by omega) (by omega)) (fun w hw => hC _ _ _ (by omega) (by omega) (by omega)) (fun a ha => g a u ha (by omega))
  · unfold z_ds
    by_cases uc : u = c
    · subst uc
      rw [g 0 u (by omega) (by omega), g20]
      exact ⟨fun _ => ⟨s, by omega, rfl, (g 0 s (by omega) (by omega)).trans hks⟩, fun z => absurd hk z⟩
    · obtain ⟨s1, s2⟩ := a3 u (by omega)
      rw [g 0 u (by omega) (by omega), g 20 u (by omega) (by omega)]
      exact ⟨fun z => by
        obtain ⟨s, e1, e2, e3⟩ := s1 z
        exact ⟨s, by omega, e2, (g 0 s (by omega) (by omega)).trans e3⟩, s2⟩
  · obtain ⟨k1, k2⟩ := a4 u hu r hr
    rw [hC 475265 _ _ (by omega) (by omega) (by omega), g (22 + r) u (by omega) (by omega)]
    exact ⟨k1, fun v hv => by have := k2 v hv; omega⟩
  · rw [g a u ha (by omega)]; exact a5 u hu h16 a ha
end ZLH
