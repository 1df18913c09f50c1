/-! what holds of every unit of the reference's row -/
/-- the attributes of a unit -/
def z_A (m : ux_M) (u : Nat) : Nat → Int32 := fun a => if a < 56 then z_Y m a u else 0
def z_up (f : Nat → Int32) (a : Nat) (v : Int32) : Nat → Int32 := fun b => if b = a then v else f b
/-- x is due yet: at time t, where the units below b have been visited -/
def z_dl (b t u x : Nat) : Prop := t < x ∨ (t = x ∧ b ≤ u)
def z_Bu (t : Nat) (f : Nat → Int32) : Prop :=
  (f 28 = 0 ∨ f 28 = 1 ∨ f 28 = 2 ∨ f 28 = 3 ∨ f 28 = 4 ∨ f 28 = 5) ∧ (f 29 = 0 ∨ f 29 = 1 ∨ f 29 = 2 ∨ f 29 = 3) ∧ (f 30 = 0 ∨ f 30 = 1) ∧ (f 30 = 1 → ¬ f 29 = 0)
  ∧ (f 31 = 0 ∨ f 31 = 1) ∧ (f 0 = 1 ∨ f 42 = 0) ∧ (∃ x, x ≤ t ∧ f 34 = nI x) ∧ (∃ x, x ≤ t ∧ f 37 = nI x)
def z_Du (b t u : Nat) (f : Nat → Int32) : Prop :=
  (f 28 = 0 ∨ f 28 = 4 → f 35 = -1)
  ∧ (f 28 = 1 → f 0 = 0 ∧ f 35 = f 34 + f 10 ∧ ∃ x, f 34 + f 10 = nI x ∧ z_dl b t u x ∧ x ≤ 1005000)
  ∧ (f 28 = 3 → f 0 = 0 ∧ f 35 = f 34 + f 11 ∧ ∃ x, f 34 + f 11 = nI x ∧ z_dl b t u x ∧ x ≤ 1005000)
  ∧ (f 28 = 5 → f 0 = 0 ∧ ∃ x, f 34 + f 16 = nI x ∧ x ≤ 1005000 ∧ ((f 35 = nI x ∧ z_dl b t u x) ∨ (f 35 = -1 ∧ ¬ z_dl b t u x)))
  ∧ (f 28 = 2 → f 35 = -1 ∧ (f 0 = 0 → f 36 = f 34 ∧ (¬ f 12 = 0 → ∃ x, f 34 + f 12 = nI x ∧ z_dl b t u x ∧ x ≤ 1005000) ∧ (¬ f 19 = 0 → ∃ x, f 37 + f 19 = nI x ∧ z_dl b t u x ∧ x ≤ 1005000)))
/-- all units, but that the due of unit x is not looked at -/
def z_I (x b c t : Nat) (m : ux_M) : Prop := ∀ u, u < c → z_Bu t (z_A m u) ∧ (¬ u = x → z_Du b t u (z_A m u))
section ZI
variable {k c t B u v a b s x : Nat} {M m M' m' : ux_M}
theorem z_AY (m : ux_M) (u : Nat) {a : Nat} (ha : a < 56) : z_A m u a = z_Y m a u := by unfold z_A; rw [if_pos ha]
theorem z_AP (m : ux_M) (a u w : Nat) (v : Int32) (ha : a < 56) : z_A (z_P m a u v) w = if w = u then z_up (z_A m u) a v else z_A m w := by
  funext b
  by_cases q : w = u
  · subst q
    rw [if_pos rfl]
    unfold z_A z_up
    by_cases hb : b < 56
    · simp only [if_pos hb]; rw [z_YP _ _ _ _ ha hb]
      by_cases z : b = a <;> simp [z]
    · simp only [if_neg hb]; rw [if_neg (by omega)]
  · rw [if_neg q]
    unfold z_A
    by_cases hb : b < 56
    · simp only [if_pos hb]; rw [z_YP _ _ _ _ ha hb, if_neg (fun z => q z.2)]
    · simp only [if_neg hb]
theorem z_upe {f : Nat → Int32} {a : Nat} {v : Int32} : z_up f a v a = v := by unfold z_up; rw [if_pos rfl]
theorem z_upn {f : Nat → Int32} {a b : Nat} {v : Int32} (h : ¬ b = a) : z_up f a v b = f b := by unfold z_up; rw [if_neg h]
/-- the attributes behind becomes -/
def z_bf (f : Nat → Int32) (t : Nat) (s : Int32) : Nat → Int32 := fun a =>
  if f 28 = s then f a else if a = 28 then s else if a = 34 then nI t else if a = 35 then -1
    else if a = 42 then (if f 28 = 2 then 0 else f 42) else if a = 44 then (if f 28 = 2 then f 44 + f 42 else f 44) else f a
theorem z_Abe {s' : Int32} (h : ∀ a w, a < 56 → z_Y m' a w = z_be m t u s' a w) (w : Nat) : z_A m' w = if w = u then z_bf (z_A m u) t s' else z_A m w := by
  funext a
  by_cases ha : a < 56
  · rw [z_AY _ _ ha, h a w ha]
    unfold z_be
    by_cases q : w = u
    · subst q
      rw [if_pos rfl, if_pos rfl]
      unfold z_bf
      rw [z_AY _ _ ha, z_AY _ _ (show 28 < 56 by omega), z_AY _ _ (show 42 < 56 by omega), z_AY _ _ (show 44 < 56 by omega)]
    · rw [if_neg q, if_neg q, ite_self, z_AY _ _ ha]
  · have e1 : z_A m' w a = 0 := by unfold z_A; rw [if_neg ha]
    have e2 : ∀ w, z_A m w a = 0 := fun w => by unfold z_A; rw [if_neg ha]
    rw [e1]
    by_cases q : w = u
    · subst q
      rw [if_pos rfl]; unfold z_bf
      simp only [show ¬ a = 28 by omega, show ¬ a = 34 by omega, show ¬ a = 35 by omega, show ¬ a = 42 by omega, show ¬ a = 44 by omega, if_false, e2, ite_self]
    · rw [if_neg q, e2]
theorem z_I.st (h : z_I x b c t m) (hu : u < c) : z_Y m 28 u = 0 ∨ z_Y m 28 u = 1 ∨ z_Y m 28 u = 2 ∨ z_Y m 28 u = 3 ∨ z_Y m 28 u = 4 ∨ z_Y m 28 u = 5 := (h u hu).1.1
theorem z_I.jb (h : z_I x b c t m) (hu : u < c) : z_Y m 29 u = 0 ∨ z_Y m 29 u = 1 ∨ z_Y m 29 u = 2 ∨ z_Y m 29 u = 3 := (h u hu).1.2.1
theorem z_I.rn (h : z_I x b c t m) (hu : u < c) : z_Y m 30 u = 0 ∨ z_Y m 30 u = 1 := (h u hu).1.2.2.1
theorem z_I.rj (h : z_I x b c t m) (hu : u < c) : z_Y m 30 u = 1 → ¬ z_Y m 29 u = 0 := (h u hu).1.2.2.2.1
theorem z_I.mk (h : z_I x b c t m) (hu : u < c) : z_Y m 31 u = 0 ∨ z_Y m 31 u = 1 := (h u hu).1.2.2.2.2.1
theorem z_I.qd (h : z_I x b c t m) (hu : u < c) : z_Y m 0 u = 1 ∨ z_Y m 42 u = 0 := (h u hu).1.2.2.2.2.2.1
/-- one unit changes -/
theorem z_I.one (h : z_I x b c t m) (f : Nat → Int32) (hA : ∀ w, z_A m' w = if w = u then f else z_A m w) (y : Nat) (hx : x = u ∨ x = y ∨ c ≤ x) (hB : u < c → z_Bu t f) (hD : u < c → ¬ u = y → z_Du b t u f) : z_I y b c t m' := by
  intro w hw
  rw [hA]
  by_cases q : w = u
  · subst q; rw [if_pos rfl]; exact ⟨hB hw, hD hw⟩
  · rw [if_neg q]
    refine ⟨(h w hw).1, fun z => (h w hw).2 (fun e => ?_)⟩
    subst e
    rcases hx with h1 | h1 | h1
    · exact q h1
    · exact z h1
    · omega
theorem z_I.less (h : z_I x b c t m) (hx : c ≤ x) (y : Nat) : z_I y b c t m := fun u hu => ⟨(h u hu).1, fun _ => (h u hu).2 (by omega)⟩
/-- the attributes stay -/
theorem z_I.same (h : z_I x b c t m) (hA : ∀ w, z_A m' w = z_A m w) : z_I x b c t m' := fun u hu => by rw [hA]; exact h u hu
theorem z_A.cong (h : ∀ i, m' 5 844257 0 i = m 5 844257 0 i) (w : Nat) : z_A m' w = z_A m w := by
  funext a; unfold z_A z_Y; rw [h]
end ZI
