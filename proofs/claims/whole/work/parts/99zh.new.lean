/-! LOAD, 13: the reference lays a new unit down -/
section ZLD
variable {C C' m m' : ux_M} {T : Nat → Int32} {N i j p p' q n u v w c d e L k s r sz : Nat} {V b x kd : Int32}
/-- an attribute of which nothing was said; the six that are not 0 -/
def z_d6 (a : Nat) : Bool := decide (a = 16) || decide (a = 17) || decide (a = 18) || decide (a = 20) || decide (a = 35) || decide (a = 41)
def z_dv (a : Nat) : Int32 := if a = 16 then 1 else if a = 17 then 5 else if a = 18 then 10 else -1
theorem z_159l (h : z_rd5 m T N) (hp : p ≤ N) (hb : m 5 819253 0 10 = nI p) (h14 : m 5 819253 0 14 = nI (188 + 56 * c)) (hc : c < 16) (hs : sz ≤ 8) (hz : sz = z_xn (z_xL T N) N p - p) : ∀ n f j M, j + n = sz → n < f → (∀ s r i, ¬ s = 877025 → M 5 s r i = m 5 s r i) →
    p_159_159 f (nI (p + j)) M ∧ r_159_159 f (nI (p + j)) M = 1
    ∧ (∀ a, a < 56 → m_159_159 f (nI (p + j)) M 5 877025 0 (188 + 56 * c + a) = if z_d6 a = true then z_dv a else if 2 + j ≤ a ∧ a < 2 + sz then T (p + (a - 2)) else M 5 877025 0 (188 + 56 * c + a))
    ∧ m_159_159 f (nI (p + j)) M 5 819253 0 9 = nI (z_xn (z_xL T N) N p)
    ∧ (∀ a s r i, ¬ (a = 5 ∧ ((s = 877025 ∧ 188 + 56 * c + 2 ≤ i ∧ i < 188 + 56 * c + 56) ∨ (s = 819253 ∧ i = 9))) → m_159_159 f (nI (p + j)) M a s r i = M a s r i) := by
  have hN := h.1
  obtain ⟨w1, w2, _, _⟩ := z_xn_b (P := z_xL T N) (N := N) (N - p) p (by omega)
  have s14 : ∀ (M : ux_M) i v, ux_set M 5 877025 0 i v 5 819253 0 14 = M 5 819253 0 14 := fun M i v => z_so (by decide)
  have ci : ∀ y, y < 56 → (nI (188 + 56 * c) + nI y).toNatClampNeg = 188 + 56 * c + y := fun y hy => by rw [z_add, z_cls (by omega)]
  have vi : ∀ y, y < 56 → vp_in (nI (188 + 56 * c) + nI y) 1084 := fun y hy => by rw [z_add]; exact vp_in_nI (by omega) (by omega)
  intro n
  induction n with
  | zero =>
    intro f j M hj hf hM
    obtain ⟨f, rfl⟩ : ∃ g, f = g + 1 := ⟨f - 1, by omega⟩
    have hr : z_rd5 M T N := h.cg hM
    have m14 : M 5 819253 0 14 = nI (188 + 56 * c) := (hM _ _ _ (by decide)).trans h14
    obtain ⟨g1, g2⟩ := z_155 hr hp ((hM _ _ _ (by decide)).trans hb)
    have le : nI (z_xn (z_xL T N) N p) ≤ nI (p + j) := (z_le (by omega) (by omega)).mpr (by omega)
    obtain ⟨R, eR⟩ : ∃ R, R = ux_set (ux_set (ux_set (ux_set (ux_set (ux_set M 5 877025 0 (188 + 56 * c + 16) 1) 5 877025 0 (188 + 56 * c + 17) 5) 5 877025 0 (188 + 56 * c + 18) 10) 5 877025 0 (188 + 56 * c + 20) (-1)) 5 877025 0 (188 + 56 * c + 35) (-1)) 5 877025 0 (188 + 56 * c + 41) (-1) := ⟨_, rfl⟩
    have hR : ∀ s r i, ¬ s = 877025 → R 5 s r i = M 5 s r i := fun s r i q => by rw [eR, z_so q, z_so q, z_so q, z_so q, z_so q, z_so q]
    obtain ⟨k1, k2, k3⟩ := z_161 (hr.cg hR) hp ((hR _ _ _ (by decide)).trans ((hM _ _ _ (by decide)).trans hb))
    have c16 : (nI (188 + 56 * c) + (16 : Int32)).toNatClampNeg = 188 + 56 * c + 16 := ci 16 (by omega)
    have c17 : (nI (188 + 56 * c) + (17 : Int32)).toNatClampNeg = 188 + 56 * c + 17 := ci 17 (by omega)
    have c18 : (nI (188 + 56 * c) + (18 : Int32)).toNatClampNeg = 188 + 56 * c + 18 := ci 18 (by omega)
    have c20 : (nI (188 + 56 * c) + (20 : Int32)).toNatClampNeg = 188 + 56 * c + 20 := ci 20 (by omega)
    have c35 : (nI (188 + 56 * c) + (35 : Int32)).toNatClampNeg = 188 + 56 * c + 35 := ci 35 (by omega)
    have c41 : (nI (188 + 56 * c) + (41 : Int32)).toNatClampNeg = 188 + 56 * c + 41 := ci 41 (by omega)
    have em : m_159_159 (f + 1) (nI (p + j)) M = m_161 R := by
      rw [m_159_159, g2, if_pos le, eR]
      simp only [s14, m14, c16, c17, c18, c20, c35, c41]
    have er : r_159_159 (f + 1) (nI (p + j)) M = r_161 R := by
      rw [r_159_159, g2, if_pos le, eR]
      simp only [s14, m14, c16, c17, c18, c20, c35, c41]
    rw [em, er, k3]
    refine ⟨?_, k2, fun a ha => ?_, z_pnt_9, fun a s r i q => ?_⟩
    · rw [p_159_159, g2]
      refine ⟨g1, fun _ => ?_, fun z => absurd le z⟩
      simp only [forall_eq, s14, m14, c16, c17, c18, c20, c35, c41]
      rw [← eR]
      exact ⟨vi 16 (by omega), vi 17 (by omega), vi 18 (by omega), vi 20 (by omega), vi 35 (by omega), vi 41 (by omega), k1, .inr k2⟩
    · rw [z_pnt_o (by decide), eR]
      simp only [z_set]
      have ne : ¬ (2 + j ≤ a ∧ a < 2 + sz) := by omega
      by_cases q1 : a = 16
      · subst q1; rw [if_neg (by omega), if_neg (by omega), if_neg (by omega), if_neg (by omega), if_neg (by omega), if_pos ⟨trivial, trivial, trivial, rfl⟩]; rfl
      · by_cases q2 : a = 17
        · subst q2; rw [if_neg (by omega), if_neg (by omega), if_neg (by omega), if_neg (by omega), if_pos ⟨trivial, trivial, trivial, rfl⟩]; rfl
        · by_cases q3 : a = 18
          · subst q3; rw [if_neg (by omega), if_neg (by omega), if_neg (by omega), if_pos ⟨trivial, trivial, trivial, rfl⟩]; rfl
          · by_cases q4 : a = 20
            · subst q4; rw [if_neg (by omega), if_neg (by omega), if_pos ⟨trivial, trivial, trivial, rfl⟩]; rfl
            · by_cases q5 : a = 35
              · subst q5; rw [if_neg (by omega), if_pos ⟨trivial, trivial, trivial, rfl⟩]; rfl
              · by_cases q6 : a = 41
                · subst q6; rw [if_pos ⟨trivial, trivial, trivial, rfl⟩]; rfl
                · have nd : ¬ z_d6 a = true := by unfold z_d6; simp only [q1, q2, q3, q4, q5, q6, decide_false, Bool.or_false]; decide
                  rw [if_neg (by omega), if_neg (by omega), if_neg (by omega), if_neg (by omega), if_neg (by omega), if_neg (by omega), if_neg nd, if_neg ne]
    · by_cases q9 : a = 5 ∧ s = 819253 ∧ r = 0 ∧ i = 10
      · obtain ⟨rfl, rfl, rfl, rfl⟩ := q9
        rw [z_pnt_10]; exact ((hM _ _ _ (by decide)).trans hb).symm
      · have e1 : z_pnt R (nI (z_xn (z_xL T N) N p)) (nI p) a s r i = R a s r i := by
          unfold z_pnt; rw [z_set, if_neg q9, z_set, if_neg (by omega)]
        rw [e1, eR]
        simp only [z_set]
        rw [if_neg (by omega), if_neg (by omega), if_neg (by omega), if_neg (by omega), if_neg (by omega), if_neg (by omega)]
  | succ n ih =>
    intro f j M hj hf hM
    obtain ⟨f, rfl⟩ : ∃ g, f = g + 1 := ⟨f - 1, by omega⟩
    have hr : z_rd5 M T N := h.cg hM
    have m14 : M 5 819253 0 14 = nI (188 + 56 * c) := (hM _ _ _ (by decide)).trans h14
    have mb : M 5 819253 0 10 = nI p := (hM _ _ _ (by decide)).trans hb
    obtain ⟨g1, g2⟩ := z_155 hr hp mb
    have le : ¬ nI (z_xn (z_xL T N) N p) ≤ nI (p + j) := fun z => by have := (z_le (by omega) (by omega)).mp z; omega
    have ix : nI (188 + 56 * c) + (2 : Int32) + nI (p + j) - nI p = nI (188 + 56 * c + (2 + j)) := by
      show nI (188 + 56 * c) + nI 2 + nI (p + j) - nI p = _
      rw [z_add, z_add, z_sbn (by omega), show 188 + 56 * c + 2 + (p + j) - p = 188 + 56 * c + (2 + j) by omega]
    have tx : M 5 940289 0 (p + j) = T (p + j) := hr.2.2 (p + j) (by omega)
    obtain ⟨i1, i2, i3, i4, i5⟩ := ih f (j + 1) (ux_set M 5 877025 0 (188 + 56 * c + (2 + j)) (T (p + j))) (by omega) (by omega) (fun s r i q => (z_so q).trans (hM s r i q))
    have v1 : vp_in (nI (p + j)) 800 := vp_in_nI (by omega) (by omega)
    have v2 : vp_in (nI (188 + 56 * c + (2 + j))) 1084 := vp_in_nI (by omega) (by omega)
    have en : nI (p + j) + (1 : Int32) = nI (p + (j + 1)) := z_nx _
    have em : m_159_159 (f + 1) (nI (p + j)) M = m_159_159 f (nI (p + (j + 1))) (ux_set M 5 877025 0 (188 + 56 * c + (2 + j)) (T (p + j))) := by
      rw [m_159_159, g2, if_neg le, m14, mb, ix, z_cls (show p + j < 2000000000 by omega), z_cls (show 188 + 56 * c + (2 + j) < 2000000000 by omega), tx, en]
    have er : r_159_159 (f + 1) (nI (p + j)) M = r_159_159 f (nI (p + (j + 1))) (ux_set M 5 877025 0 (188 + 56 * c + (2 + j)) (T (p + j))) := by
      rw [r_159_159, g2, if_neg le, m14, mb, ix, z_cls (show p + j < 2000000000 by omega), z_cls (show 188 + 56 * c + (2 + j) < 2000000000 by omega), tx, en]
    rw [em, er]
    refine ⟨?_, i2, fun a ha => ?_, i4, fun a s r i q => ?_⟩
    · rw [p_159_159, g2, m14, mb, ix, z_cls (show p + j < 2000000000 by omega), z_cls (show 188 + 56 * c + (2 + j) < 2000000000 by omega), tx, en]
      exact ⟨g1, fun z => absurd z le, fun _ => ⟨v1, v2, fun M14 e => by subst e; exact i1⟩⟩
    · rw [i3 a ha]
      by_cases q : z_d6 a = true
      · rw [if_pos q, if_pos q]
      · rw [if_neg q, if_neg q, z_set]
        by_cases q2 : a = 2 + j
        · subst q2
          rw [if_neg (by omega), if_pos ⟨rfl, rfl, rfl, rfl⟩, if_pos (by omega), show 2 + j - 2 = j by omega]
        · by_cases q3 : 2 + j ≤ a ∧ a < 2 + sz
          · rw [if_pos q3, if_pos (show 2 + (j + 1) ≤ a ∧ a < 2 + sz by omega)]
          · rw [if_neg q3, if_neg (show ¬ (2 + (j + 1) ≤ a ∧ a < 2 + sz) by omega), if_neg (by omega)]
    · rw [i5 a s r i q, z_set, if_neg (by omega)]
end ZLD
