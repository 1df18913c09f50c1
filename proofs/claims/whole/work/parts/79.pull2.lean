/-! THE REFERENCE'S TRANSACTION: PULLS -/
def z_Nd (m : ux_M) (u w : Nat) : Bool := bt (z_Y m 22 u) w || bt (z_Y m 24 u) w
def z_Wn (m : ux_M) (u w : Nat) : Bool := bt (z_Y m 23 u) w
/-- what a start pulls -/
def z_q1 (m : ux_M) (c u : Nat) (b : Bool) (X w : Nat) : Bool := decide (w < c) && ((z_Nd m u w && !z_bl m 1 w && z_ad 1 b X) || (z_Wn m u w && !z_bl m 1 w && z_ad 1 false X) || (z_Op m c u w && !z_bl m 2 w && z_ad 2 b X))
/-- what a stop pulls -/
def z_q2 (m : ux_M) (c u : Nat) (b : Bool) (X w : Nat) : Bool := decide (w < c) && z_Fo m c u w && !z_bl m 2 w && z_ad 2 b X
/-- what a restart pulls besides -/
def z_q3 (m : ux_M) (c u : Nat) (X w : Nat) : Bool := decide (w < c) && (z_Fo m c u w && z_Ac m c w) && !z_bl m 3 w && z_ad 3 true X
def z_rq (m : ux_M) (c u T : Nat) (b : Bool) (X w : Nat) : Bool := if T = 2 then z_q2 m c u b X w else if T = 1 then z_q1 m c u b X w else z_q1 m c u b X w || z_q3 m c u X w
/-- essential jobs of masked units -/
def z_h1 (m : ux_M) (c u : Nat) (b : Bool) : Prop := ∃ w, w < c ∧ b = true ∧ z_Nd m u w = true ∧ z_bw m 1 w = false ∧ z_Y m 31 w = 1
def z_h3 (m : ux_M) (c u : Nat) : Prop := ∃ w, w < c ∧ (z_Fo m c u w && z_Ac m c w) = true ∧ z_bw m 3 w = false ∧ z_Y m 31 w = 1
def z_rh (m : ux_M) (c u T : Nat) (b : Bool) : Prop := if T = 2 then False else if T = 1 then z_h1 m c u b else z_h1 m c u b ∨ z_h3 m c u
section ZB6
variable {k c u T n : Nat} {m m' m'' : ux_M} {R R' : Nat → Nat → Bool} {H H' : Prop}
theorem z_db (b : Bool) : decide (¬ (if b = true then (1 : Int32) else 0) = 0) = b := by cases b <;> decide
theorem z_hmb (b : Bool) (w : Nat) : z_hm m T w (if b = true then (1 : Int32) else 0) ↔ b = true ∧ ¬ T = 2 ∧ z_bw m T w = false ∧ z_Y m 31 w = 1 := by
  unfold z_hm
  cases b
  · constructor
    · rintro ⟨h, _⟩; exact absurd rfl h
    · rintro ⟨h, _⟩; cases h
  · constructor
    · rintro ⟨_, h⟩; exact ⟨rfl, h⟩
    · rintro ⟨_, h⟩; exact ⟨by decide, h⟩
theorem z_fM.op (h : z_fM m m') (u w : Nat) : z_Op m' c u w = z_Op m c u w := by unfold z_Op; rw [h.Y, h.Y]
theorem z_fM.fo (h : z_fM m m') (u w : Nat) : z_Fo m' c u w = z_Fo m c u w := by unfold z_Fo; rw [h.Y, h.Y, h.Y]
theorem z_fM.ac (h : z_fM m m') (w : Nat) : z_Ac m' c w = z_Ac m c w := by unfold z_Ac; rw [h.Y]
theorem z_fM.nd (h : z_fM m m') (u w : Nat) : z_Nd m' u w = z_Nd m u w := by unfold z_Nd; rw [h.Y, h.Y]
theorem z_fM.wn (h : z_fM m m') (u w : Nat) : z_Wn m' u w = z_Wn m u w := by unfold z_Wn; rw [h.Y]
/-- what a start pulls, in order -/
theorem z_a200 (hc : c ≤ 16) (hu : u < 16) (hm : m 5 844257 0 1 = nI c) (hv : z_tv m) (b : Bool) (z : Int32) (hz : z = if b = true then (1 : Int32) else 0) :
    ∀ m1 m2 m3, m1 = m_202 (z_Y m 22 u ||| z_Y m 24 u) 1 z m → m2 = m_202 (z_Y m1 23 u) 1 0 m1 → m3 = m_202 (r_203 (nI u) m2) 2 z m2 →
      p_202 (z_Y m 22 u ||| z_Y m 24 u) 1 z m ∧ p_202 (z_Y m1 23 u) 1 0 m1 ∧ p_203 (nI u) m2 ∧ p_202 (r_203 (nI u) m2) 2 z m2 ∧ z_dG m m3 (z_q1 m c u b) (z_h1 m c u b) := by
  intro m1 m2 m3 e1 e2 e3
  have a1 := z_a202 (T := 1) (by omega) (z_Y m 22 u ||| z_Y m 24 u) z (by omega) hc hm hv
  rw [z_n1, ← e1] at a1
  obtain ⟨p1, g1⟩ := a1
  have hm1 := (g1.fr.row 1).trans hm
  have a2 := z_a202 (T := 1) (by omega) (z_Y m1 23 u) 0 (by omega) hc hm1 g1.tv
  rw [z_n1, ← e2] at a2
  obtain ⟨p2, g2⟩ := a2
  have hm2 := (g2.fr.row 1).trans hm1
  obtain ⟨p3, r3⟩ := z_203 hc hu hm2
  have a3 := z_a202 (T := 2) (by omega) (r_203 (nI u) m2) z (by omega) hc hm2 g2.tv
  rw [z_n2, ← e3] at a3
  obtain ⟨p4, g3⟩ := a3
  refine ⟨p1, p2, p3, p4, ((g1.cp g2).cp g3).eqv (fun X w => ?_) ?_⟩
  · have d0 : decide (¬ (0 : Int32) = 0) = false := by decide
    have dz : decide (¬ z = 0) = b := by rw [hz]; exact z_db b
    simp only [g2.bl, g1.bl, d0, dz]
    unfold z_q1
    by_cases q : w < c
    · have w32 : w < 32 := by omega
      rw [r3 w w32, g2.fr.op, g1.fr.op, g1.fr.Y, b_or]
      simp [q, z_Nd, z_Wn]
    · simp [q]
  · subst hz
    constructor
    · rintro ((⟨w, q1, q2, q3⟩ | ⟨w, q1, q2, q3⟩) | ⟨w, q1, q2, q3⟩)
      · rw [z_hmb] at q3
        exact ⟨w, q1, q3.1, by rw [b_or] at q2; exact q2, q3.2.2.1, q3.2.2.2⟩
      · exact absurd rfl q3.1
      · rw [z_hmb] at q3; exact absurd rfl q3.2.1
    · rintro ⟨w, q1, q2, q3, q4, q5⟩
      exact .inl (.inl ⟨w, q1, by rw [b_or]; exact q3, (z_hmb b w).mpr ⟨q2, by omega, q4, q5⟩⟩)
/-- PULLS -/
theorem z_b200 (hT : T = 1 ∨ T = 2 ∨ T = 3) (hc : c ≤ 16) (hu : u < 16) (hm : m 5 844257 0 1 = nI c) (hv : z_tv m) (h3 : T = 3 → z_e m 3 u = true) :
    p_200 (nI u) (nI T) m ∧ z_dG m (m_200 (nI u) (nI T) m) (z_rq m c u T (z_e m T u)) (z_rh m c u T (z_e m T u)) := by
  have u32 : u < 32 := by omega
  have k4 : vp_in (nI T) 4 := z_k4 (by omega)
  have eT : (nI T).toNatClampNeg = T := z_cl (by omega)
  have ee : bt (m 5 966689 0 T) u = z_e m T u := rfl
  have eT2 : nI T = 2 ↔ T = 2 := by rw [← z_n2]; exact z_eq (by omega) (by omega)
  have eT1 : nI T = 1 ↔ T = 1 := by rw [← z_n1]; exact z_eq (by omega) (by omega)
  obtain ⟨f1, f2⟩ := z_201 hc hu hm
  have a := z_a200 hc hu hm hv (z_e m T u) _ rfl _ _ _ rfl rfl rfl
  unfold p_200 m_200
  simp only [eT, z_shr1 _ u32, ee, eT2, eT1, of22 _ hu, of23 _ hu, of24 _ hu]
  obtain ⟨a1, a2, a3, a4, a5⟩ := a
  by_cases q2 : T = 2
  · subst q2
    have b := z_a202 (T := 2) (by omega) (r_201 (nI u) m) (if z_e m 2 u = true then (1 : Int32) else 0) (by omega) hc hm hv
    rw [z_n2] at b
    rw [if_pos rfl]
    refine ⟨⟨k4, fun y => absurd rfl y, fun _ => ⟨f1, b.1⟩⟩, b.2.eqv (fun X w => ?_) ?_⟩
    · rw [z_db]
      unfold z_rq; rw [if_pos rfl]; unfold z_q2
      by_cases q : w < c
      · rw [f2 w (by omega)]
      · simp [q]
    · unfold z_rh; rw [if_pos rfl]
      exact ⟨fun ⟨w, _, _, y⟩ => y.2.1 rfl, fun y => y.elim⟩
  · rw [if_neg q2]
    by_cases q1 : T = 1
    · subst q1
      rw [if_pos rfl]
      refine ⟨⟨k4, fun _ => ⟨uu22 hu, uu24 hu, a1, uu23 hu, a2, a3, a4, fun y => absurd rfl y, fun _ => trivial⟩, fun y => absurd y q2⟩, a5.eqv (fun X w => ?_) ?_⟩
      · unfold z_rq; rw [if_neg (by decide), if_pos rfl]
      · unfold z_rh; rw [if_neg (by decide), if_pos rfl]
    · rw [if_neg q1]
      have q3 : T = 3 := by omega
      subst q3
      have e3 := h3 rfl
      have z1 : ¬ (if z_e m 3 u = true then (1 : Int32) else 0) = 0 := by rw [if_pos e3]; decide
      have l := z_l200 hc hu (if z_e m 3 u = true then (1 : Int32) else 0) z1 ((a5.fr.row 1).trans hm) a5.tv c ux_fuel 0 0 (by omega) (by have := z_fuel; omega) (fun w _ => by rw [b_0]; simp)
      refine ⟨⟨k4, fun _ => ⟨uu22 hu, uu24 hu, a1, uu23 hu, a2, a3, a4, fun _ => l.1, fun y => absurd y q1⟩, fun y => absurd y q2⟩, (a5.cp l.2).eqv (fun X w => ?_) ?_⟩
      · unfold z_rq; rw [if_neg q2, if_neg q1]; unfold z_q3
        simp only [a5.fr.fo, a5.fr.ac, a5.bl]
      · unfold z_rh; rw [if_neg q2, if_neg q1]
        refine or_congr_right ?_
        unfold z_h3
        constructor
        · rintro ⟨w, y1, y2, y3⟩
          rw [z_hmb] at y3
          rw [a5.fr.fo, a5.fr.ac] at y2
          refine ⟨w, y1, y2, ?_, ?_⟩
          · have := y3.2.2.1; unfold z_bw at this ⊢; rw [a5.bs] at this; exact this
          · rw [← a5.fr.Y]; exact y3.2.2.2
        · rintro ⟨w, y1, y2, y3, y4⟩
          refine ⟨w, y1, by rw [a5.fr.fo, a5.fr.ac]; exact y2, (z_hmb _ w).mpr ⟨e3, by omega, ?_, ?_⟩⟩
          · unfold z_bw at y3 ⊢; rw [a5.bs]; exact y3
          · rw [a5.fr.Y]; exact y4
end ZB6
