-- Model.isSound 
def p_284_13 : Nat → Int32 → Int32 → ux_M → Prop
  | 0, _, _, _ => False
  | f + 1, x1, x2, M => vp_in 1 1084 ∧ (((M 5 844257 0 (1 : Int32).toNatClampNeg) : Int32) ≤ x2 → True) ∧ (¬ ((M 5 844257 0 (1 : Int32).toNatClampNeg) : Int32) ≤ x2 → (¬ ((((x1 >>> (x2 &&& 31)) &&& (1 : Int32)) : Int32) = 1) → p_284_13 f x1 (x2 + 1) M) ∧ ((((x1 >>> (x2 &&& 31)) &&& (1 : Int32)) : Int32) = 1 → ux_u x2 22 ∧ ux_u x2 24 ∧ (((((ux_of M x2 22) ||| (ux_of M x2 24)) &&& (x1 ^^^ ((-1) : Int32))) : Int32) = 0 → p_284_13 f x1 (x2 + 1) M) ∧ (¬ ((((ux_of M x2 22) ||| (ux_of M x2 24)) &&& (x1 ^^^ ((-1) : Int32))) : Int32) = 0 → True)))
noncomputable def r_284_13 : Nat → Int32 → Int32 → ux_M → Int32
  | 0, _, _, _ => 0
  | f + 1, x1, x2, M => if ((M 5 844257 0 (1 : Int32).toNatClampNeg) : Int32) ≤ x2 then 1 else (if (((x1 >>> (x2 &&& 31)) &&& (1 : Int32)) : Int32) = 1 then (if ((((ux_of M x2 22) ||| (ux_of M x2 24)) &&& (x1 ^^^ ((-1) : Int32))) : Int32) = 0 then (r_284_13 f x1 (x2 + 1) M) else 0) else (r_284_13 f x1 (x2 + 1) M))
def p_284  (M : ux_M) : Prop := ∀ M1 : ux_M, M1 = ux_set M 5 819253 0 6 0 → p_259 2 M1 ∧ p_284_13 ux_fuel (r_259 2 M1) (0 : Int32) M1
noncomputable def r_284  (M : ux_M) : Int32 := let M1 : ux_M := ux_set M 5 819253 0 6 0; r_284_13 ux_fuel (r_259 2 M1) (0 : Int32) M1
noncomputable def m_284  (M : ux_M) : ux_M := let M1 : ux_M := ux_set M 5 819253 0 6 0; M1
theorem sa_284_13 {l : Launch} {E : ux_E} (hS : ux_SpecOK l E ux_chs) {d : Nat} {Q : Option ux_V → ux_M → Prop} (f : Nat) (x1 : Int32) (x2 : Int32) (M : ux_M) (h : p_284_13 f x1 x2 M) (hq : Q (some (.inl (r_284_13 f x1 x2 M))) M) : ux_At l E (d + 2) y_284 13 [some (.inr (.inr (5, 819253, 0))), some (.inl x1), some (.inl x2)] [] M Q := by
  induction f generalizing x1 x2 M with
  | zero => exact h.elim
  | succ f ih => exact w_284_13 hS x1 x2 M ⟨h.1, ⟨fun q1 => (ux_r1 q1 hq), fun q1 => ⟨fun q2 => (ih x1 (x2 + 1) _ ((h.2.2 q1).1 q2) (ux_r0 q2 (ux_r0 q1 hq))), fun q2 => ⟨((h.2.2 q1).2 q2).1, ⟨((h.2.2 q1).2 q2).2.1, ⟨fun q3 => (ih x1 (x2 + 1) _ (((h.2.2 q1).2 q2).2.2.1 q3) (ux_r1 q3 (ux_r1 q2 (ux_r0 q1 hq)))), fun q3 => (ux_r0 q3 (ux_r1 q2 (ux_r0 q1 hq)))⟩⟩⟩⟩⟩⟩
theorem sf_284 {l : Launch} {E : ux_E} (hS : ux_SpecOK l E ux_chs) {d : Nat}  (M : ux_M) {Q : Int32 → ux_M → Prop} (h : p_284  M) (hq0 : Q (r_284  M) (m_284  M)) : ux_Call l E (d + 2) y_284 [.inr (.inr (5, 819253, 0))] M (ux_CI Q) := by
  have hq : (ux_CI Q) (some (.inl (r_284  M))) (m_284  M) := ⟨_, rfl, hq0⟩
  exact c_284 hS  M (fun M1 e_M1 => by subst e_M1; exact (sf_259 hS 2 _ (h _ rfl).1 (sa_284_13 hS ux_fuel _ (0 : Int32) _ (h _ rfl).2 hq)))
-- Model.ticksUntilActive 
def p_285_76 (x4 : Int32) (M : ux_M) : Prop := p_173b M
noncomputable def r_285_76 (x4 : Int32) (M : ux_M) : Int32 := if x4 ≤ 1000 then x4 else (-1)
noncomputable def m_285_76 (x4 : Int32) (M : ux_M) : ux_M := if x4 ≤ 1000 then (m_173b M) else (m_173b M)
def p_285_47 : Nat → Int32 → Int32 → ux_M → Prop
  | 0, _, _, _ => False
  | f + 1, x1, x4, M => ux_u x1 28 ∧ (((ux_of M x1 28) : Int32) = 2 → p_285_76 x4 M) ∧ (¬ ((ux_of M x1 28) : Int32) = 2 → ((1000 : Int32) < x4 → p_285_76 x4 M) ∧ (¬ (1000 : Int32) < x4 → p_177 M ∧ p_285_47 f x1 (x4 + 1) (m_177 M)))
noncomputable def r_285_47 : Nat → Int32 → Int32 → ux_M → Int32
  | 0, _, _, _ => 0
  | f + 1, x1, x4, M => if ((ux_of M x1 28) : Int32) = 2 then (r_285_76 x4 M) else (if (1000 : Int32) < x4 then (r_285_76 x4 M) else (r_285_47 f x1 (x4 + 1) (m_177 M)))
noncomputable def m_285_47 : Nat → Int32 → Int32 → ux_M → ux_M
  | 0, _, _, M => M
  | f + 1, x1, x4, M => if ((ux_of M x1 28) : Int32) = 2 then (m_285_76 x4 M) else (if (1000 : Int32) < x4 then (m_285_76 x4 M) else (m_285_47 f x1 (x4 + 1) (m_177 M)))
def p_285 (x1 : Int32) (M : ux_M) : Prop := p_235 x1 M ∧ ((r_235 x1 M) = 0 → p_197 x1 1 (m_235 x1 M) ∧ ((r_197 x1 1 (m_235 x1 M)) = 0 → p_173a (m_197 x1 1 (m_235 x1 M)) ∧ p_211 1 (m_173a (m_197 x1 1 (m_235 x1 M))) ∧ p_218 (m_211 1 (m_173a (m_197 x1 1 (m_235 x1 M)))) ∧ p_285_47 ux_fuel x1 (0 : Int32) (m_218 (m_211 1 (m_173a (m_197 x1 1 (m_235 x1 M)))))) ∧ (¬ (r_197 x1 1 (m_235 x1 M)) = 0 → True)) ∧ (¬ (r_235 x1 M) = 0 → True)
noncomputable def r_285 (x1 : Int32) (M : ux_M) : Int32 := if (r_235 x1 M) = 0 then (if (r_197 x1 1 (m_235 x1 M)) = 0 then (r_285_47 ux_fuel x1 (0 : Int32) (m_218 (m_211 1 (m_173a (m_197 x1 1 (m_235 x1 M)))))) else (r_197 x1 1 (m_235 x1 M))) else 0
noncomputable def m_285 (x1 : Int32) (M : ux_M) : ux_M := if (r_235 x1 M) = 0 then (if (r_197 x1 1 (m_235 x1 M)) = 0 then (m_285_47 ux_fuel x1 (0 : Int32) (m_218 (m_211 1 (m_173a (m_197 x1 1 (m_235 x1 M)))))) else (m_197 x1 1 (m_235 x1 M))) else (m_235 x1 M)
theorem sa_285_76 {l : Launch} {E : ux_E} (hS : ux_SpecOK l E ux_chs) {d : Nat} (x4 : Int32) (M : ux_M) {Q : Option ux_V → ux_M → Prop} (h : p_285_76 x4 M) (hq : Q (some (.inl (r_285_76 x4 M))) (m_285_76 x4 M)) : ux_At l E (d + 36) y_285 76 [some (.inr (.inr (5, 819253, 0))), none, none, none, some (.inl x4)] [] M Q := w_285_76 hS (d := d + 35) x4 M (sf_173b hS  _ h ⟨fun q1 => (ux_rm1 q1 hq), fun q1 => (ux_rm0 q1 hq)⟩)
theorem sa_285_47 {l : Launch} {E : ux_E} (hS : ux_SpecOK l E ux_chs) {d : Nat} {Q : Option ux_V → ux_M → Prop} (f : Nat) (x1 : Int32) (x4 : Int32) (M : ux_M) (h : p_285_47 f x1 x4 M) (hq : Q (some (.inl (r_285_47 f x1 x4 M))) (m_285_47 f x1 x4 M)) : ux_At l E (d + 36) y_285 47 [some (.inr (.inr (5, 819253, 0))), some (.inl x1), none, none, some (.inl x4)] [] M Q := by
  induction f generalizing x1 x4 M with
  | zero => exact h.elim
  | succ f ih => exact w_285_47 hS (d := d + 35) x1 x4 M ⟨h.1, ⟨fun q2 => (sa_285_76 hS x4 _ (h.2.1 q2) (ux_rm1 q2 hq)), fun q2 => ⟨fun q3 => (sa_285_76 hS x4 _ ((h.2.2 q2).1 q3) (ux_rm1 q3 (ux_rm0 q2 hq))), fun q3 => (sf_177 hS  _ ((h.2.2 q2).2 q3).1 (ih x1 (x4 + 1) _ ((h.2.2 q2).2 q3).2 (ux_rm0 q3 (ux_rm0 q2 hq))))⟩⟩⟩
theorem sf_285 {l : Launch} {E : ux_E} (hS : ux_SpecOK l E ux_chs) {d : Nat} (x1 : Int32) (M : ux_M) {Q : Int32 → ux_M → Prop} (h : p_285 x1 M) (hq0 : Q (r_285 x1 M) (m_285 x1 M)) : ux_Call l E (d + 36) y_285 [.inr (.inr (5, 819253, 0)), .inl x1] M (ux_CI Q) := by
  have hq : (ux_CI Q) (some (.inl (r_285 x1 M))) (m_285 x1 M) := ⟨_, rfl, hq0⟩
  exact c_285 hS (d := d + 35) x1 M (sf_235 hS x1 _ h.1 ⟨fun q4 => (sf_197 hS x1 1 _ (h.2.1 q4).1 ⟨fun q5 => (sf_173a hS  _ ((h.2.1 q4).2.1 q5).1 (sf_211 hS 1 _ ((h.2.1 q4).2.1 q5).2.1 (sf_218 hS  _ ((h.2.1 q4).2.1 q5).2.2.1 (sa_285_47 hS ux_fuel x1 (0 : Int32) _ ((h.2.1 q4).2.1 q5).2.2.2 (ux_rm1 q5 (ux_rm1 q4 hq)))))), fun q5 => (ux_rm0 q5 (ux_rm1 q4 hq))⟩), fun q4 => (ux_rm0 q4 hq)⟩)
-- Model.isQuiet 
def p_287  (M : ux_M) : Prop := p_257 M ∧ (¬ (r_257 M) = 0 → True) ∧ ((r_257 M) = 0 → p_259 1 M ∧ p_259 3 M ∧ p_259 5 M)
noncomputable def r_287  (M : ux_M) : Int32 := if (r_257 M) = 0 then (if ((((r_259 1 M) ||| (r_259 3 M)) ||| (r_259 5 M)) : Int32) = 0 then 1 else 0) else 0
theorem sf_287 {l : Launch} {E : ux_E} (hS : ux_SpecOK l E ux_chs) {d : Nat}  (M : ux_M) {Q : Int32 → ux_M → Prop} (h : p_287  M) (hq0 : Q (r_287  M) M) : ux_Call l E (d + 2) y_287 [.inr (.inr (5, 819253, 0))] M (ux_CI Q) := by
  have hq : (ux_CI Q) (some (.inl (r_287  M))) M := ⟨_, rfl, hq0⟩
  exact c_287 hS (d := d + 1)  M (sf_257 hS  _ h.1 ⟨fun q1 => (ux_r0 q1 hq), fun q1 => (sf_259 hS 1 _ (h.2.2 q1).1 (sf_259 hS 3 _ (h.2.2 q1).2.1 (sf_259 hS 5 _ (h.2.2 q1).2.2 ⟨fun q2 => (ux_r0 q2 (ux_r1 q1 hq)), fun q2 => (ux_r1 q2 (ux_r1 q1 hq))⟩)))⟩)
-- Model.ticksUntilQuiet 
def p_286_42 (x1 : Int32) (M : ux_M) : Prop := p_173b M
noncomputable def r_286_42 (x1 : Int32) (M : ux_M) : Int32 := if x1 ≤ 1000 then x1 else (-1)
noncomputable def m_286_42 (x1 : Int32) (M : ux_M) : ux_M := if x1 ≤ 1000 then (m_173b M) else (m_173b M)
def p_286_18 : Nat → Int32 → ux_M → Prop
  | 0, _, _ => False
  | f + 1, x1, M => p_287 M ∧ (¬ (r_287 M) = 0 → p_286_42 x1 M) ∧ ((r_287 M) = 0 → ((1000 : Int32) < x1 → p_286_42 x1 M) ∧ (¬ (1000 : Int32) < x1 → p_177 M ∧ p_286_18 f (x1 + 1) (m_177 M)))
noncomputable def r_286_18 : Nat → Int32 → ux_M → Int32
  | 0, _, _ => 0
  | f + 1, x1, M => if (r_287 M) = 0 then (if (1000 : Int32) < x1 then (r_286_42 x1 M) else (r_286_18 f (x1 + 1) (m_177 M))) else (r_286_42 x1 M)
noncomputable def m_286_18 : Nat → Int32 → ux_M → ux_M
  | 0, _, M => M
  | f + 1, x1, M => if (r_287 M) = 0 then (if (1000 : Int32) < x1 then (m_286_42 x1 M) else (m_286_18 f (x1 + 1) (m_177 M))) else (m_286_42 x1 M)
def p_286  (M : ux_M) : Prop := ∀ M1 : ux_M, M1 = ux_set M 5 819253 0 6 0 → p_173a M1 ∧ p_286_18 ux_fuel (0 : Int32) (m_173a M1)
noncomputable def r_286  (M : ux_M) : Int32 := let M1 : ux_M := ux_set M 5 819253 0 6 0; r_286_18 ux_fuel (0 : Int32) (m_173a M1)
noncomputable def m_286  (M : ux_M) : ux_M := let M1 : ux_M := ux_set M 5 819253 0 6 0; m_286_18 ux_fuel (0 : Int32) (m_173a M1)
theorem sa_286_42 {l : Launch} {E : ux_E} (hS : ux_SpecOK l E ux_chs) {d : Nat} (x1 : Int32) (M : ux_M) {Q : Option ux_V → ux_M → Prop} (h : p_286_42 x1 M) (hq : Q (some (.inl (r_286_42 x1 M))) (m_286_42 x1 M)) : ux_At l E (d + 36) y_286 42 [some (.inr (.inr (5, 819253, 0))), some (.inl x1)] [] M Q := w_286_42 hS (d := d + 35) x1 M (sf_173b hS  _ h ⟨fun q1 => (ux_rm1 q1 hq), fun q1 => (ux_rm0 q1 hq)⟩)
theorem sa_286_18 {l : Launch} {E : ux_E} (hS : ux_SpecOK l E ux_chs) {d : Nat} {Q : Option ux_V → ux_M → Prop} (f : Nat) (x1 : Int32) (M : ux_M) (h : p_286_18 f x1 M) (hq : Q (some (.inl (r_286_18 f x1 M))) (m_286_18 f x1 M)) : ux_At l E (d + 36) y_286 18 [some (.inr (.inr (5, 819253, 0))), some (.inl x1)] [] M Q := by
  induction f generalizing x1 M with
  | zero => exact h.elim
  | succ f ih => exact w_286_18 hS (d := d + 35) x1 M (sf_287 hS  _ h.1 ⟨fun q2 => (sa_286_42 hS x1 _ (h.2.1 q2) (ux_rm0 q2 hq)), fun q2 => ⟨fun q3 => (sa_286_42 hS x1 _ ((h.2.2 q2).1 q3) (ux_rm1 q3 (ux_rm1 q2 hq))), fun q3 => (sf_177 hS  _ ((h.2.2 q2).2 q3).1 (ih (x1 + 1) _ ((h.2.2 q2).2 q3).2 (ux_rm0 q3 (ux_rm1 q2 hq))))⟩⟩)
theorem sf_286 {l : Launch} {E : ux_E} (hS : ux_SpecOK l E ux_chs) {d : Nat}  (M : ux_M) {Q : Int32 → ux_M → Prop} (h : p_286  M) (hq0 : Q (r_286  M) (m_286  M)) : ux_Call l E (d + 36) y_286 [.inr (.inr (5, 819253, 0))] M (ux_CI Q) := by
  have hq : (ux_CI Q) (some (.inl (r_286  M))) (m_286  M) := ⟨_, rfl, hq0⟩
  exact c_286 hS (d := d + 35)  M (fun M1 e_M1 => by subst e_M1; exact (sf_173a hS  _ (h _ rfl).1 (sa_286_18 hS ux_fuel (0 : Int32) _ (h _ rfl).2 hq)))
-- Model.stateAfter 
def p_288_48 : Nat → Int32 → Int32 → Int32 → ux_M → Prop
  | 0, _, _, _, _ => False
  | f + 1, x1, x2, x3, M => (x2 ≤ x3 → ux_u x1 28 ∧ p_173b M) ∧ (¬ x2 ≤ x3 → p_177 M ∧ p_288_48 f x1 x2 (x3 + 1) (m_177 M))
noncomputable def r_288_48 : Nat → Int32 → Int32 → Int32 → ux_M → Int32
  | 0, _, _, _, _ => 0
  | f + 1, x1, x2, x3, M => if x2 ≤ x3 then (ux_of M x1 28) else (r_288_48 f x1 x2 (x3 + 1) (m_177 M))
noncomputable def m_288_48 : Nat → Int32 → Int32 → Int32 → ux_M → ux_M
  | 0, _, _, _, M => M
  | f + 1, x1, x2, x3, M => if x2 ≤ x3 then (m_173b M) else (m_288_48 f x1 x2 (x3 + 1) (m_177 M))
def p_288_26 (x1 : Int32) (x2 : Int32) (z0 : Int32) (M : ux_M) : Prop := p_176 z0 2 M ∧ ((r_176 z0 2 M) = 0 → p_173a (m_176 z0 2 M) ∧ p_288_48 ux_fuel x1 x2 (0 : Int32) (m_173a (m_176 z0 2 M))) ∧ (¬ (r_176 z0 2 M) = 0 → True)
noncomputable def r_288_26 (x1 : Int32) (x2 : Int32) (z0 : Int32) (M : ux_M) : Int32 := if (r_176 z0 2 M) = 0 then (r_288_48 ux_fuel x1 x2 (0 : Int32) (m_173a (m_176 z0 2 M))) else 0
noncomputable def m_288_26 (x1 : Int32) (x2 : Int32) (z0 : Int32) (M : ux_M) : ux_M := if (r_176 z0 2 M) = 0 then (m_288_48 ux_fuel x1 x2 (0 : Int32) (m_173a (m_176 z0 2 M))) else (m_176 z0 2 M)
def p_288 (x1 : Int32) (x2 : Int32) (M : ux_M) : Prop := p_235 x1 M ∧ (¬ (r_235 x1 M) = 0 → True) ∧ ((r_235 x1 M) = 0 → (¬ (((lg_cmp ((x2 : Int32).toInt64) ((0 : Int32).toInt64)) : Int32) < 0) ∧ (¬ ((0 : Int32) < (lg_cmp ((x2 : Int32).toInt64) (Int64.ofNat 1000)))) → p_288_26 x1 x2 (0 : Int32) (m_235 x1 M)) ∧ (¬ (¬ (((lg_cmp ((x2 : Int32).toInt64) ((0 : Int32).toInt64)) : Int32) < 0) ∧ (¬ ((0 : Int32) < (lg_cmp ((x2 : Int32).toInt64) (Int64.ofNat 1000))))) → p_288_26 x1 x2 (1 : Int32) (m_235 x1 M)))
noncomputable def r_288 (x1 : Int32) (x2 : Int32) (M : ux_M) : Int32 := if (r_235 x1 M) = 0 then (if ¬ (((lg_cmp ((x2 : Int32).toInt64) ((0 : Int32).toInt64)) : Int32) < 0) ∧ (¬ ((0 : Int32) < (lg_cmp ((x2 : Int32).toInt64) (Int64.ofNat 1000)))) then (r_288_26 x1 x2 (0 : Int32) (m_235 x1 M)) else (r_288_26 x1 x2 (1 : Int32) (m_235 x1 M))) else 0
noncomputable def m_288 (x1 : Int32) (x2 : Int32) (M : ux_M) : ux_M := if (r_235 x1 M) = 0 then (if ¬ (((lg_cmp ((x2 : Int32).toInt64) ((0 : Int32).toInt64)) : Int32) < 0) ∧ (¬ ((0 : Int32) < (lg_cmp ((x2 : Int32).toInt64) (Int64.ofNat 1000)))) then (m_288_26 x1 x2 (0 : Int32) (m_235 x1 M)) else (m_288_26 x1 x2 (1 : Int32) (m_235 x1 M))) else (m_235 x1 M)
theorem sa_288_48 {l : Launch} {E : ux_E} (hS : ux_SpecOK l E ux_chs) {d : Nat} {Q : Option ux_V → ux_M → Prop} (f : Nat) (x1 : Int32) (x2 : Int32) (x3 : Int32) (M : ux_M) (h : p_288_48 f x1 x2 x3 M) (hq : Q (some (.inl (r_288_48 f x1 x2 x3 M))) (m_288_48 f x1 x2 x3 M)) : ux_At l E (d + 36) y_288 48 [some (.inr (.inr (5, 819253, 0))), some (.inl x1), some (.inl x2), some (.inl x3)] [] M Q := by
  induction f generalizing x1 x2 x3 M with
  | zero => exact h.elim
  | succ f ih => exact w_288_48 hS (d := d + 35) x1 x2 x3 M ⟨fun q1 => ⟨(h.1 q1).1, (sf_173b hS  _ (h.1 q1).2 (ux_rm1 q1 hq))⟩, fun q1 => (sf_177 hS  _ (h.2 q1).1 (ih x1 x2 (x3 + 1) _ (h.2 q1).2 (ux_rm0 q1 hq)))⟩
theorem sa_288_26 {l : Launch} {E : ux_E} (hS : ux_SpecOK l E ux_chs) {d : Nat} (x1 : Int32) (x2 : Int32) (z0 : Int32) (M : ux_M) {Q : Option ux_V → ux_M → Prop} (h : p_288_26 x1 x2 z0 M) (hq : Q (some (.inl (r_288_26 x1 x2 z0 M))) (m_288_26 x1 x2 z0 M)) : ux_At l E (d + 36) y_288 26 [some (.inr (.inr (5, 819253, 0))), some (.inl x1), some (.inl x2), none] [.inl z0, .inr (.inr (5, 819253, 0))] M Q := w_288_26 hS (d := d + 35) x1 x2 z0 M (sf_176 hS z0 2 _ h.1 ⟨fun q2 => (sf_173a hS  _ (h.2.1 q2).1 (sa_288_48 hS ux_fuel x1 x2 (0 : Int32) _ (h.2.1 q2).2 (ux_rm1 q2 hq))), fun q2 => (ux_rm0 q2 hq)⟩)
theorem sf_288 {l : Launch} {E : ux_E} (hS : ux_SpecOK l E ux_chs) {d : Nat} (x1 : Int32) (x2 : Int32) (M : ux_M) {Q : Int32 → ux_M → Prop} (h : p_288 x1 x2 M) (hq0 : Q (r_288 x1 x2 M) (m_288 x1 x2 M)) : ux_Call l E (d + 36) y_288 [.inr (.inr (5, 819253, 0)), .inl x1, .inl x2] M (ux_CI Q) := by
  have hq : (ux_CI Q) (some (.inl (r_288 x1 x2 M))) (m_288 x1 x2 M) := ⟨_, rfl, hq0⟩
  exact c_288 hS (d := d + 35) x1 x2 M (sf_235 hS x1 _ h.1 ⟨fun q3 => (ux_rm0 q3 hq), fun q3 => ⟨fun q4 => (sa_288_26 hS x1 x2 (0 : Int32) _ ((h.2.2 q3).1 q4) (ux_rm1 q4 (ux_rm1 q3 hq))), fun q4 => (sa_288_26 hS x1 x2 (1 : Int32) _ ((h.2.2 q3).2 q4) (ux_rm0 q4 (ux_rm1 q3 hq)))⟩⟩)
-- Model.damage 
def p_290_36 : Nat → Int32 → Int32 → Int32 → ux_M → Prop
  | 0, _, _, _, _ => False
  | f + 1, x2, x3, x4, M => (x2 ≤ x4 → p_259 2 M ∧ p_173b M) ∧ (¬ x2 ≤ x4 → p_177 M ∧ p_290_36 f x2 x3 (x4 + 1) (m_177 M))
noncomputable def r_290_36 : Nat → Int32 → Int32 → Int32 → ux_M → Int32
  | 0, _, _, _, _ => 0
  | f + 1, x2, x3, x4, M => if x2 ≤ x4 then (x3 &&& ((r_259 2 M) ^^^ ((-1) : Int32))) else (r_290_36 f x2 x3 (x4 + 1) (m_177 M))
noncomputable def m_290_36 : Nat → Int32 → Int32 → Int32 → ux_M → ux_M
  | 0, _, _, _, M => M
  | f + 1, x2, x3, x4, M => if x2 ≤ x4 then (m_173b M) else (m_290_36 f x2 x3 (x4 + 1) (m_177 M))
def p_290 (x1 : Int32) (x2 : Int32) (M : ux_M) : Prop := p_270 x1 M ∧ (¬ (r_270 x1 M) = 0 → p_259 2 M ∧ p_173a M ∧ p_271 x1 1 (m_173a M) ∧ p_290_36 ux_fuel x2 (r_259 2 M) (0 : Int32) (m_271 x1 1 (m_173a M))) ∧ ((r_270 x1 M) = 0 → True)
noncomputable def r_290 (x1 : Int32) (x2 : Int32) (M : ux_M) : Int32 := if (r_270 x1 M) = 0 then 0 else (r_290_36 ux_fuel x2 (r_259 2 M) (0 : Int32) (m_271 x1 1 (m_173a M)))
noncomputable def m_290 (x1 : Int32) (x2 : Int32) (M : ux_M) : ux_M := if (r_270 x1 M) = 0 then M else (m_290_36 ux_fuel x2 (r_259 2 M) (0 : Int32) (m_271 x1 1 (m_173a M)))
theorem sa_290_36 {l : Launch} {E : ux_E} (hS : ux_SpecOK l E ux_chs) {d : Nat} {Q : Option ux_V → ux_M → Prop} (f : Nat) (x2 : Int32) (x3 : Int32) (x4 : Int32) (M : ux_M) (h : p_290_36 f x2 x3 x4 M) (hq : Q (some (.inl (r_290_36 f x2 x3 x4 M))) (m_290_36 f x2 x3 x4 M)) : ux_At l E (d + 36) y_290 36 [some (.inr (.inr (5, 819253, 0))), none, some (.inl x2), some (.inl x3), some (.inl x4)] [] M Q := by
  induction f generalizing x2 x3 x4 M with
  | zero => exact h.elim
  | succ f ih => exact w_290_36 hS (d := d + 35) x2 x3 x4 M ⟨fun q1 => (sf_259 hS 2 _ (h.1 q1).1 (sf_173b hS  _ (h.1 q1).2 (ux_rm1 q1 hq))), fun q1 => (sf_177 hS  _ (h.2 q1).1 (ih x2 x3 (x4 + 1) _ (h.2 q1).2 (ux_rm0 q1 hq)))⟩
theorem sf_290 {l : Launch} {E : ux_E} (hS : ux_SpecOK l E ux_chs) {d : Nat} (x1 : Int32) (x2 : Int32) (M : ux_M) {Q : Int32 → ux_M → Prop} (h : p_290 x1 x2 M) (hq0 : Q (r_290 x1 x2 M) (m_290 x1 x2 M)) : ux_Call l E (d + 36) y_290 [.inr (.inr (5, 819253, 0)), .inl x1, .inl x2] M (ux_CI Q) := by
  have hq : (ux_CI Q) (some (.inl (r_290 x1 x2 M))) (m_290 x1 x2 M) := ⟨_, rfl, hq0⟩
  exact c_290 hS (d := d + 35) x1 x2 M (sf_270 hS x1 _ h.1 ⟨fun q2 => (sf_259 hS 2 _ (h.2.1 q2).1 (sf_173a hS  _ (h.2.1 q2).2.1 (sf_271 hS x1 1 _ (h.2.1 q2).2.2.1 (sa_290_36 hS ux_fuel x2 (r_259 2 M) (0 : Int32) _ (h.2.1 q2).2.2.2 (ux_rm0 q2 hq))))), fun q2 => (ux_rm1 q2 hq)⟩)
-- Model.damageOf 
def p_289_26 (x1 : Int32) (x2 : Int32) (z0 : Int32) (M : ux_M) : Prop := p_176 z0 2 M ∧ ((r_176 z0 2 M) = 0 → p_290 x1 x2 (m_176 z0 2 M)) ∧ (¬ (r_176 z0 2 M) = 0 → True)
noncomputable def r_289_26 (x1 : Int32) (x2 : Int32) (z0 : Int32) (M : ux_M) : Int32 := if (r_176 z0 2 M) = 0 then (r_290 x1 x2 (m_176 z0 2 M)) else 0
noncomputable def m_289_26 (x1 : Int32) (x2 : Int32) (z0 : Int32) (M : ux_M) : ux_M := if (r_176 z0 2 M) = 0 then (m_290 x1 x2 (m_176 z0 2 M)) else (m_176 z0 2 M)
def p_289 (x1 : Int32) (x2 : Int32) (M : ux_M) : Prop := p_235 x1 M ∧ (¬ (r_235 x1 M) = 0 → True) ∧ ((r_235 x1 M) = 0 → (¬ (((lg_cmp ((x2 : Int32).toInt64) ((0 : Int32).toInt64)) : Int32) < 0) ∧ (¬ ((0 : Int32) < (lg_cmp ((x2 : Int32).toInt64) (Int64.ofNat 200)))) → p_289_26 x1 x2 (0 : Int32) (m_235 x1 M)) ∧ (¬ (¬ (((lg_cmp ((x2 : Int32).toInt64) ((0 : Int32).toInt64)) : Int32) < 0) ∧ (¬ ((0 : Int32) < (lg_cmp ((x2 : Int32).toInt64) (Int64.ofNat 200))))) → p_289_26 x1 x2 (1 : Int32) (m_235 x1 M)))
noncomputable def r_289 (x1 : Int32) (x2 : Int32) (M : ux_M) : Int32 := if (r_235 x1 M) = 0 then (if ¬ (((lg_cmp ((x2 : Int32).toInt64) ((0 : Int32).toInt64)) : Int32) < 0) ∧ (¬ ((0 : Int32) < (lg_cmp ((x2 : Int32).toInt64) (Int64.ofNat 200)))) then (r_289_26 x1 x2 (0 : Int32) (m_235 x1 M)) else (r_289_26 x1 x2 (1 : Int32) (m_235 x1 M))) else 0
noncomputable def m_289 (x1 : Int32) (x2 : Int32) (M : ux_M) : ux_M := if (r_235 x1 M) = 0 then (if ¬ (((lg_cmp ((x2 : Int32).toInt64) ((0 : Int32).toInt64)) : Int32) < 0) ∧ (¬ ((0 : Int32) < (lg_cmp ((x2 : Int32).toInt64) (Int64.ofNat 200)))) then (m_289_26 x1 x2 (0 : Int32) (m_235 x1 M)) else (m_289_26 x1 x2 (1 : Int32) (m_235 x1 M))) else (m_235 x1 M)
theorem sa_289_26 {l : Launch} {E : ux_E} (hS : ux_SpecOK l E ux_chs) {d : Nat} (x1 : Int32) (x2 : Int32) (z0 : Int32) (M : ux_M) {Q : Option ux_V → ux_M → Prop} (h : p_289_26 x1 x2 z0 M) (hq : Q (some (.inl (r_289_26 x1 x2 z0 M))) (m_289_26 x1 x2 z0 M)) : ux_At l E (d + 37) y_289 26 [some (.inr (.inr (5, 819253, 0))), some (.inl x1), some (.inl x2)] [.inl z0, .inr (.inr (5, 819253, 0))] M Q := w_289_26 hS (d := d + 36) x1 x2 z0 M (sf_176 hS z0 2 _ h.1 ⟨fun q1 => (sf_290 hS x1 x2 _ (h.2.1 q1) (ux_rm1 q1 hq)), fun q1 => (ux_rm0 q1 hq)⟩)
theorem sf_289 {l : Launch} {E : ux_E} (hS : ux_SpecOK l E ux_chs) {d : Nat} (x1 : Int32) (x2 : Int32) (M : ux_M) {Q : Int32 → ux_M → Prop} (h : p_289 x1 x2 M) (hq0 : Q (r_289 x1 x2 M) (m_289 x1 x2 M)) : ux_Call l E (d + 37) y_289 [.inr (.inr (5, 819253, 0)), .inl x1, .inl x2] M (ux_CI Q) := by
  have hq : (ux_CI Q) (some (.inl (r_289 x1 x2 M))) (m_289 x1 x2 M) := ⟨_, rfl, hq0⟩
  exact c_289 hS (d := d + 36) x1 x2 M (sf_235 hS x1 _ h.1 ⟨fun q2 => (ux_rm0 q2 hq), fun q2 => ⟨fun q3 => (sa_289_26 hS x1 x2 (0 : Int32) _ ((h.2.2 q2).1 q3) (ux_rm1 q3 (ux_rm1 q2 hq))), fun q3 => (sa_289_26 hS x1 x2 (1 : Int32) _ ((h.2.2 q2).2 q3) (ux_rm0 q3 (ux_rm1 q2 hq)))⟩⟩)
-- Model.bits 
def p_292_4 : Nat → Int32 → Int32 → Int32 → ux_M → Prop
  | 0, _, _, _, _ => False
  | f + 1, x0, x1, x2, M => ((16 : Int32) ≤ x2 → True) ∧ (¬ (16 : Int32) ≤ x2 → p_292_4 f x0 (x1 + ((x0 >>> (x2 &&& 31)) &&& (1 : Int32))) (x2 + 1) M)
noncomputable def r_292_4 : Nat → Int32 → Int32 → Int32 → ux_M → Int32
  | 0, _, _, _, _ => 0
  | f + 1, x0, x1, x2, M => if (16 : Int32) ≤ x2 then x1 else (r_292_4 f x0 (x1 + ((x0 >>> (x2 &&& 31)) &&& (1 : Int32))) (x2 + 1) M)
def p_292 (x0 : Int32) (M : ux_M) : Prop := p_292_4 ux_fuel x0 (0 : Int32) (0 : Int32) M
noncomputable def r_292 (x0 : Int32) (M : ux_M) : Int32 := r_292_4 ux_fuel x0 (0 : Int32) (0 : Int32) M
theorem sa_292_4 {l : Launch} {E : ux_E} (hS : ux_SpecOK l E ux_chs) {d : Nat} {Q : Option ux_V → ux_M → Prop} (f : Nat) (x0 : Int32) (x1 : Int32) (x2 : Int32) (M : ux_M) (h : p_292_4 f x0 x1 x2 M) (hq : Q (some (.inl (r_292_4 f x0 x1 x2 M))) M) : ux_At l E d y_292 4 [some (.inl x0), some (.inl x1), some (.inl x2)] [] M Q := by
  induction f generalizing x0 x1 x2 M with
  | zero => exact h.elim
  | succ f ih => exact w_292_4 hS x0 x1 x2 M ⟨fun q1 => (ux_r1 q1 hq), fun q1 => (ih x0 (x1 + ((x0 >>> (x2 &&& 31)) &&& (1 : Int32))) (x2 + 1) _ (h.2 q1) (ux_r0 q1 hq))⟩
theorem sf_292 {l : Launch} {E : ux_E} (hS : ux_SpecOK l E ux_chs) {d : Nat} (x0 : Int32) (M : ux_M) {Q : Int32 → ux_M → Prop} (h : p_292 x0 M) (hq0 : Q (r_292 x0 M) M) : ux_Call l E d y_292 [.inl x0] M (ux_CI Q) := by
  have hq : (ux_CI Q) (some (.inl (r_292 x0 M))) M := ⟨_, rfl, hq0⟩
  exact c_292 hS x0 M (sa_292_4 hS ux_fuel x0 (0 : Int32) (0 : Int32) _ h hq)
-- Model.weakest 
def p_291_11 : Nat → Int32 → Int32 → Int32 → ux_M → Prop
  | 0, _, _, _, _ => False
  | f + 1, x1, x2, x3, M => vp_in 1 1084 ∧ (((M 5 844257 0 (1 : Int32).toNatClampNeg) : Int32) ≤ x3 → True) ∧ (¬ ((M 5 844257 0 (1 : Int32).toNatClampNeg) : Int32) ≤ x3 → p_290 x3 0 M ∧ p_292 (r_290 x3 0 M) (m_290 x3 0 M) ∧ (x2 < (r_292 (r_290 x3 0 M) (m_290 x3 0 M)) → p_291_11 f x3 (r_292 (r_290 x3 0 M) (m_290 x3 0 M)) (x3 + 1) (m_290 x3 0 M)) ∧ (¬ x2 < (r_292 (r_290 x3 0 M) (m_290 x3 0 M)) → p_291_11 f x1 x2 (x3 + 1) (m_290 x3 0 M)))
noncomputable def r_291_11 : Nat → Int32 → Int32 → Int32 → ux_M → Int32
  | 0, _, _, _, _ => 0
  | f + 1, x1, x2, x3, M => if ((M 5 844257 0 (1 : Int32).toNatClampNeg) : Int32) ≤ x3 then x1 else (if x2 < (r_292 (r_290 x3 0 M) (m_290 x3 0 M)) then (r_291_11 f x3 (r_292 (r_290 x3 0 M) (m_290 x3 0 M)) (x3 + 1) (m_290 x3 0 M)) else (r_291_11 f x1 x2 (x3 + 1) (m_290 x3 0 M)))
noncomputable def m_291_11 : Nat → Int32 → Int32 → Int32 → ux_M → ux_M
  | 0, _, _, _, M => M
  | f + 1, x1, x2, x3, M => if ((M 5 844257 0 (1 : Int32).toNatClampNeg) : Int32) ≤ x3 then M else (if x2 < (r_292 (r_290 x3 0 M) (m_290 x3 0 M)) then (m_291_11 f x3 (r_292 (r_290 x3 0 M) (m_290 x3 0 M)) (x3 + 1) (m_290 x3 0 M)) else (m_291_11 f x1 x2 (x3 + 1) (m_290 x3 0 M)))
def p_291  (M : ux_M) : Prop := ∀ M1 : ux_M, M1 = ux_set M 5 819253 0 6 0 → p_291_11 ux_fuel ((-1) : Int32) ((-1) : Int32) (0 : Int32) M1
noncomputable def r_291  (M : ux_M) : Int32 := let M1 : ux_M := ux_set M 5 819253 0 6 0; r_291_11 ux_fuel ((-1) : Int32) ((-1) : Int32) (0 : Int32) M1
noncomputable def m_291  (M : ux_M) : ux_M := let M1 : ux_M := ux_set M 5 819253 0 6 0; m_291_11 ux_fuel ((-1) : Int32) ((-1) : Int32) (0 : Int32) M1
theorem sa_291_11 {l : Launch} {E : ux_E} (hS : ux_SpecOK l E ux_chs) {d : Nat} {Q : Option ux_V → ux_M → Prop} (f : Nat) (x1 : Int32) (x2 : Int32) (x3 : Int32) (M : ux_M) (h : p_291_11 f x1 x2 x3 M) (hq : Q (some (.inl (r_291_11 f x1 x2 x3 M))) (m_291_11 f x1 x2 x3 M)) : ux_At l E (d + 37) y_291 11 [some (.inr (.inr (5, 819253, 0))), some (.inl x1), some (.inl x2), some (.inl x3), none] [] M Q := by
  induction f generalizing x1 x2 x3 M with
  | zero => exact h.elim
  | succ f ih => exact w_291_11 hS (d := d + 36) x1 x2 x3 M ⟨h.1, ⟨fun q1 => (ux_rm1 q1 hq), fun q1 => (sf_290 hS x3 0 _ (h.2.2 q1).1 (sf_292 hS (r_290 x3 0 M) _ (h.2.2 q1).2.1 ⟨fun q2 => (ih x3 (r_292 (r_290 x3 0 M) (m_290 x3 0 M)) (x3 + 1) _ ((h.2.2 q1).2.2.1 q2) (ux_rm1 q2 (ux_rm0 q1 hq))), fun q2 => (ih x1 x2 (x3 + 1) _ ((h.2.2 q1).2.2.2 q2) (ux_rm0 q2 (ux_rm0 q1 hq)))⟩))⟩⟩
theorem sf_291 {l : Launch} {E : ux_E} (hS : ux_SpecOK l E ux_chs) {d : Nat}  (M : ux_M) {Q : Int32 → ux_M → Prop} (h : p_291  M) (hq0 : Q (r_291  M) (m_291  M)) : ux_Call l E (d + 37) y_291 [.inr (.inr (5, 819253, 0))] M (ux_CI Q) := by
  have hq : (ux_CI Q) (some (.inl (r_291  M))) (m_291  M) := ⟨_, rfl, hq0⟩
  exact c_291 hS (d := d + 36)  M (fun M1 e_M1 => by subst e_M1; exact (sa_291_11 hS ux_fuel ((-1) : Int32) ((-1) : Int32) (0 : Int32) _ (h _ rfl) hq))
-- Model.noSlot 
def p_294 (x1 : Int32) (M : ux_M) : Prop := ∀ M1 : ux_M, M1 = ux_set M 5 819253 0 6 0 → (¬ (((lg_cmp ((x1 : Int32).toInt64) ((0 : Int32).toInt64)) : Int32) < 0) ∧ (¬ ((0 : Int32) < (lg_cmp ((x1 : Int32).toInt64) ((1 : Int32).toInt64)))) → p_176 0 1 M1 ∧ ((r_176 0 1 M1) = 0 ∨ (r_176 0 1 M1) = 1)) ∧ (¬ (¬ (((lg_cmp ((x1 : Int32).toInt64) ((0 : Int32).toInt64)) : Int32) < 0) ∧ (¬ ((0 : Int32) < (lg_cmp ((x1 : Int32).toInt64) ((1 : Int32).toInt64))))) → p_176 1 1 M1 ∧ ((r_176 1 1 M1) = 0 ∨ (r_176 1 1 M1) = 1))
noncomputable def r_294 (x1 : Int32) (M : ux_M) : Int32 := let M1 : ux_M := ux_set M 5 819253 0 6 0; if ¬ (((lg_cmp ((x1 : Int32).toInt64) ((0 : Int32).toInt64)) : Int32) < 0) ∧ (¬ ((0 : Int32) < (lg_cmp ((x1 : Int32).toInt64) ((1 : Int32).toInt64)))) then (r_176 0 1 M1) else (r_176 1 1 M1)
noncomputable def m_294 (x1 : Int32) (M : ux_M) : ux_M := let M1 : ux_M := ux_set M 5 819253 0 6 0; if ¬ (((lg_cmp ((x1 : Int32).toInt64) ((0 : Int32).toInt64)) : Int32) < 0) ∧ (¬ ((0 : Int32) < (lg_cmp ((x1 : Int32).toInt64) ((1 : Int32).toInt64)))) then (m_176 0 1 M1) else (m_176 1 1 M1)
theorem sf_294 {l : Launch} {E : ux_E} (hS : ux_SpecOK l E ux_chs) {d : Nat} (x1 : Int32) (M : ux_M) {Q : Int32 → ux_M → Prop} (h : p_294 x1 M) (hq0 : Q (r_294 x1 M) (m_294 x1 M)) : ux_Call l E (d + 1) y_294 [.inr (.inr (5, 819253, 0)), .inl x1] M (ux_CI Q) := by
  have hq : (ux_CI Q) (some (.inl (r_294 x1 M))) (m_294 x1 M) := ⟨_, rfl, hq0⟩
  exact c_294 hS x1 M (fun M1 e_M1 => by subst e_M1; exact ⟨fun q1 => (sf_176 hS 0 1 _ ((h _ rfl).1 q1).1 ⟨((h _ rfl).1 q1).2, (ux_rm1 q1 hq)⟩), fun q1 => (sf_176 hS 1 1 _ ((h _ rfl).2 q1).1 ⟨((h _ rfl).2 q1).2, (ux_rm0 q1 hq)⟩)⟩)
