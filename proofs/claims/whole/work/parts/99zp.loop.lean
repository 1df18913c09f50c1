/-! LOAD, 21: the loop of statements -/
section ZLL
variable {C C' m m' : ux_M} {T : Nat → Int32} {N i p p' n c k : Nat}
theorem z_xp3 (hp : p ≤ N) : (z_xp T N p = 0 ↔ N ≤ p) ∧ (z_xp T N p = 3 ↔ p < N ∧ T p = 59) ∧ (z_xp T N p = 3 → z_xe T N p = p + 1) := by
  unfold z_xp z_xe
  by_cases q : N ≤ p
  · rw [if_pos q, if_pos q]
    exact ⟨⟨fun _ => q, fun _ => rfl⟩, ⟨fun z => absurd z (by decide), fun z => by omega⟩, fun z => absurd z (by decide)⟩
  · rw [if_neg q, if_neg q]
    by_cases ql : z_xL T N p = true
    · have n59 : ¬ T p = 59 := fun e => by
        unfold z_xL at ql; rw [e] at ql; simp only [show p < N by omega, decide_true, Bool.true_and] at ql; exact absurd ql (by decide)
      rw [if_pos ql, if_pos ql]
      exact ⟨⟨fun z => absurd z (by decide), fun z => absurd z q⟩, ⟨fun z => absurd z (by decide), fun z => absurd z.2 n59⟩, fun z => absurd z (by decide)⟩
    · rw [if_neg ql, if_neg ql]
      by_cases qd : z_xD T N p = true
      · have n59 : ¬ T p = 59 := fun e => by
          unfold z_xD at qd; rw [e] at qd; simp only [show p < N by omega, decide_true, Bool.true_and] at qd; exact absurd qd (by decide)
        rw [if_pos qd, if_pos qd]
        exact ⟨⟨fun z => absurd z (by decide), fun z => absurd z q⟩, ⟨fun z => absurd z (by decide), fun z => absurd z.2 n59⟩, fun z => absurd z (by decide)⟩
      · rw [if_neg qd, if_neg qd]
        by_cases q9 : T p = 59
        · rw [if_pos q9]
          exact ⟨⟨fun z => absurd z (by decide), fun z => absurd z q⟩, ⟨fun _ => ⟨by omega, q9⟩, fun _ => rfl⟩, fun _ => rfl⟩
        · rw [if_neg q9]
          exact ⟨⟨fun z => absurd z (by decide), fun z => absurd z q⟩, ⟨fun z => absurd z (by decide), fun z => absurd z.2 q9⟩, fun z => absurd z (by decide)⟩
end ZLL
