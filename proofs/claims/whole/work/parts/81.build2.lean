/-! THE REFERENCE'S TRANSACTION: BUILDS -/
def z_cw (f : Nat → Bool) : Nat → Nat
  | 0 => 0
  | n + 1 => z_cw f n + (if f n = true then 1 else 0)
def z_mu (m : ux_M) : Nat := z_cw (z_V m 0) 16 + z_cw (z_V m 1) 16 + z_cw (z_V m 2) 16 + z_cw (z_V m 3) 16 + z_cw (z_V m 4) 16
/-- all that a build keeps -/
def z_bu (c : Nat) (m m' : ux_M) : Prop := z_fM m m' ∧ (∀ X, m' 5 983073 0 X = m 5 983073 0 X) ∧ z_tv m' ∧ (∀ X w, w < 32 → z_V m X w = true → z_V m' X w = true) ∧ (z_ht m' = 0 → z_ht m = 0)
  ∧ (∀ v T, v < c → (T = 1 ∨ T = 2 ∨ T = 3) → z_j m' T v = true → (∀ X w, z_rq m' c v T (z_e m' T v) X w = true → z_V m' X w = true) ∧ (z_ht m' = 0 → ¬ z_rh m' c v T (z_e m' T v)))
  ∧ ∀ P : Nat → Nat → Prop, z_cd m c P → (∀ X w, w < 32 → z_V m X w = true → P X w) → (∀ X w, w < 32 → z_V m' X w = true → P X w) ∧ (¬ z_ht m' = 0 → ¬ z_ht m = 0 ∨ z_hP m c P)
section ZB8
variable {k c u T n : Nat} {m m' m'' : ux_M} {R R' : Nat → Nat → Bool} {H H' : Prop} {D D' : Nat → Nat → Prop}
theorem z_cw.le (f : Nat → Bool) : ∀ n, z_cw f n ≤ n
  | 0 => Nat.le_refl _
  | n + 1 => by have := z_cw.le f n; unfold z_cw; split <;> omega
theorem z_cw.mono {f g : Nat → Bool} : ∀ n, (∀ w, w < n → f w = true → g w = true) → z_cw f n ≤ z_cw g n
  | 0, _ => Nat.le_refl _
  | n + 1, h => by
    have := z_cw.mono n (fun w hw => h w (by omega))
    unfold z_cw
    cases e : f n
    · simp only [Bool.false_eq_true, if_false]; omega
    · rw [h n (by omega) e]; simp only [if_true]; omega
theorem z_cw.lt {f g : Nat → Bool} {v : Nat} (h1 : f v = false) (h2 : g v = true) : ∀ n, v < n → (∀ w, w < n → f w = true → g w = true) → z_cw f n < z_cw g n
  | 0, z, _ => absurd z (by omega)
  | n + 1, z, h => by
    have mo := z_cw.mono n (fun w hw => h w (by omega))
    unfold z_cw
    by_cases q : v = n
    · subst q; rw [h1, h2]; simp only [Bool.false_eq_true, if_false, if_true]; omega
    · have := z_cw.lt h1 h2 n (by omega) (fun w hw => h w (by omega))
      cases e : f n
      · simp only [Bool.false_eq_true, if_false]; omega
      · rw [h n (by omega) e]; simp only [if_true]; omega
theorem z_mu.le (m : ux_M) : z_mu m ≤ 80 := by
  have add : ∀ a b c d e : Nat, a ≤ 16 → b ≤ 16 → c ≤ 16 → d ≤ 16 → e ≤ 16 → a + b + c + d + e ≤ 80 := fun a b c d e => by omega
  exact add _ _ _ _ _ (z_cw.le (z_V m 0) 16) (z_cw.le (z_V m 1) 16) (z_cw.le (z_V m 2) 16) (z_cw.le (z_V m 3) 16) (z_cw.le (z_V m 4) 16)
theorem z_tv.hi (h : z_tv m) (X : Nat) {w : Nat} (h1 : 16 ≤ w) (h2 : w < 32) : z_V m X w = false := by
  obtain ⟨a1, a2, a3, a4, a5⟩ := h w h2
  obtain ⟨b1, b2, b3⟩ := a5 h1
  have c1 : z_e m 1 w = false := by
    cases e : z_e m 1 w
    · rfl
    · have := a3 e; rw [b1] at this; cases this
  have c2 : z_e m 2 w = false := by
    cases e : z_e m 2 w
    · rfl
    · have := a4 e; rw [b2] at this; cases this
  match X with
  | 0 => simp only [z_V]; rw [b1, b3]; rfl
  | 1 => simp only [z_V]; exact b3
  | 2 => simp only [z_V]; exact b2
  | 3 => simp only [z_V]; rw [c1, a2, b3]; rfl
  | 4 => simp only [z_V]; exact c2
  | n + 5 => rfl
theorem z_V5 (m : ux_M) {X : Nat} (w : Nat) (h : 5 ≤ X) : z_V m X w = false := by
  match X with
  | 0 | 1 | 2 | 3 | 4 => omega
  | n + 5 => rfl
theorem z_mu.grow (hv' : z_tv m') (hmo : ∀ X w, w < 32 → z_V m X w = true → z_V m' X w = true) (h : ¬ ∀ X w, w < 32 → z_V m' X w = z_V m X w) : z_mu m < z_mu m' := by
  have mo : ∀ X, z_cw (z_V m X) 16 ≤ z_cw (z_V m' X) 16 := fun X => z_cw.mono 16 (fun w hw => hmo X w (by omega))
  obtain ⟨X, w, hw, e1, e2⟩ : ∃ X w, w < 32 ∧ z_V m X w = false ∧ z_V m' X w = true := by
    apply Classical.byContradiction
    intro q
    refine h (fun X w hw => ?_)
    cases e1 : z_V m X w
    · cases e2 : z_V m' X w
      · rfl
      · exact absurd ⟨X, w, hw, e1, e2⟩ q
    · exact hmo X w hw e1
  have w16 : w < 16 := by
    by_cases y : w < 16
    · exact y
    · rw [hv'.hi X (by omega) hw] at e2; cases e2
  have lt := z_cw.lt e1 e2 16 w16 (fun w hw => hmo X w (by omega))
  have hX : X < 5 := by
    by_cases y : X < 5
    · exact y
    · rw [z_V5 m' w (by omega)] at e2; cases e2
  have add : ∀ a b c d e a' b' c' d' e' : Nat, a ≤ a' → b ≤ b' → c ≤ c' → d ≤ d' → e ≤ e' → (a < a' ∨ b < b' ∨ c < c' ∨ d < d' ∨ e < e') → a + b + c + d + e < a' + b' + c' + d' + e' := fun a b c d e a' b' c' d' e' => by omega
  refine add _ _ _ _ _ _ _ _ _ _ (mo 0) (mo 1) (mo 2) (mo 3) (mo 4) ?_
  have hX' : X = 0 ∨ X = 1 ∨ X = 2 ∨ X = 3 ∨ X = 4 := by omega
  rcases hX' with q | q | q | q | q
  · rw [q] at lt; exact .inl lt
  · rw [q] at lt; exact .inr (.inl lt)
  · rw [q] at lt; exact .inr (.inr (.inl lt))
  · rw [q] at lt; exact .inr (.inr (.inr (.inl lt)))
  · rw [q] at lt; exact .inr (.inr (.inr (.inr lt)))
end ZB8
