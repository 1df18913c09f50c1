/-! what the generated texts use (the texts behind this one: by wip/whole/gen_all.py out of the bytecode's listing) -/
theorem ux_b0 {c : Prop} [Decidable c] (h : (if c then (1 : Int32) else 0) = 0) : ¬ c := fun q => by rw [if_pos q] at h; exact absurd h (by decide)
theorem ux_b1 {c : Prop} [Decidable c] (h : ¬ (if c then (1 : Int32) else 0) = 0) : c := by
  by_cases q : c
  · exact q
  · rw [if_neg q] at h; exact absurd rfl h
theorem ux_bz (c : Prop) [Decidable c] : (if c then (1 : Int32) else 0) = 0 ∨ (if c then (1 : Int32) else 0) = 1 := by
  by_cases q : c <;> simp [q]
theorem ux_p1 {c : Prop} [Decidable c] {Q : Int32 → ux_M → Prop} {M : ux_M} (q : c) (h : Q (if c then 1 else 0) M) : ux_CI Q (some (.inl 1)) M := ⟨_, rfl, by rw [if_pos q] at h; exact h⟩
theorem ux_p0 {c : Prop} [Decidable c] {Q : Int32 → ux_M → Prop} {M : ux_M} (q : ¬ c) (h : Q (if c then 1 else 0) M) : ux_CI Q (some (.inl 0)) M := ⟨_, rfl, by rw [if_neg q] at h; exact h⟩
theorem ux_pq {b c : Prop} [Decidable b] [Decidable c] {Q : Int32 → ux_M → Prop} {M : ux_M} (q : b ↔ c) (h : Q (if c then 1 else 0) M) : ux_CI Q (some (.inl (if b then 1 else 0))) M := ⟨_, rfl, by
  by_cases z : b
  · rw [if_pos z]; rw [if_pos (q.mp z)] at h; exact h
  · rw [if_neg z]; rw [if_neg (fun n => z (q.mpr n))] at h; exact h⟩
theorem ux_CR.mono {Q Q' : Nat → Nat → Nat → ux_M → Prop} (h : ∀ k s r M', Q k s r M' → Q' k s r M') : ∀ r M', ux_CR Q r M' → ux_CR Q' r M' := fun r M' ⟨k, s, n, h1, h2⟩ => ⟨k, s, n, h1, h k s n M' h2⟩
/-- the reference's row of numbers -/
def ux_u (u a : Int32) : Prop := vp_in ((188 + (56 * u)) + a) 1084
def ux_of (M : ux_M) (u a : Int32) : Int32 := M 5 844257 0 (((188 + (56 * u)) + a) : Int32).toNatClampNeg
def ux_put (M : ux_M) (u a v : Int32) : ux_M := ux_set M 5 844257 0 (((188 + (56 * u)) + a) : Int32).toNatClampNeg v
