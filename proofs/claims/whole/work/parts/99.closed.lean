/-! ORDER AND PASSING TIME, without hypotheses -/
section ZE1
variable {k c t B b u : Nat} {M m : ux_M}
/-- ORDER -/
theorem z_order (h : z_R 99 b k c t B M m) (hu : u < c) (j : Int32) (hj : j = 1 ∨ j = 2 ∨ j = 3) (y : Int32) :
    p_64 k (nI u) j y M ∧ p_197 (nI u) j m ∧ (r_197 (nI u) j m = 0 → p_211 y (m_197 (nI u) j m))
    ∧ r_64 k (nI u) j y M = (if r_197 (nI u) j m = 0 then r_211 y (m_197 (nI u) j m) else r_197 (nI u) j m)
    ∧ z_R 99 b k c t B (m_64 k (nI u) j y M) (if r_197 (nI u) j m = 0 then m_211 y (m_197 (nI u) j m) else m_197 (nI u) j m)
    ∧ (r_64 k (nI u) j y M < 0 ∨ (r_197 (nI u) j m = 0 ∧ 0 ≤ r_64 k (nI u) j y M)) := by
  obtain ⟨a1, a2, a3, a4, a5, a6, _⟩ := z_R.ord (z_TX_t k c) z_bc h hu j hj y
  exact ⟨a1, a2, a3, a4, a5, a6⟩
/-- PASSING TIME -/
theorem z_passes (h : z_R 99 16 k c t B M m) (hs : z_stable c m) {D : Nat} (hD : D ≤ 1000) (hT : t + D ≤ 1003000) (hB : B + 801000 < 1999999999) :
    p_50 k (nI (t + D)) M ∧ z_ptk D m ∧ z_R 99 16 k c (t + D) (B + 800 * D) (m_50 k (nI (t + D)) M) (z_tk D m) ∧ z_stable c (z_tk D m) := z_R.pass (z_TX_t k c) z_bc h hs hD hT hB
end ZE1
