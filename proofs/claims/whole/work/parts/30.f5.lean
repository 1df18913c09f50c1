-- Model.goesIdle 
def p_216 (x1 : Int32) (M : ux_M) : Prop := ux_u x1 32 ∧ ∀ M1 : ux_M, M1 = ux_put M x1 32 0 → p_194 x1 0 0 M1
noncomputable def m_216 (x1 : Int32) (M : ux_M) : ux_M := let M1 : ux_M := ux_put M x1 32 0; (m_194 x1 0 0 M1)
theorem sf_216 {l : Launch} {E : ux_E} (hS : ux_SpecOK l E ux_chs) {d : Nat} (x1 : Int32) (M : ux_M) {Q : ux_M → Prop} (h : p_216 x1 M) (hq0 : Q (m_216 x1 M)) : ux_Call l E (d + 30) y_216 [.inr (.inr (5, 819253, 0)), .inl x1] M (ux_CV Q) := by
  have hq : (ux_CV Q) none (m_216 x1 M) := ⟨rfl, hq0⟩
  exact c_216 hS (d := d + 29) x1 M ⟨h.1, (fun M1 e_M1 => by subst e_M1; exact (sf_194 hS x1 0 0 _ (h.2 _ rfl) hq))⟩
-- Model.comesAgain 
def p_217 (x1 : Int32) (M : ux_M) : Prop := ux_u x1 35 ∧ ∀ M1 : ux_M, M1 = ux_put M x1 35 (-1) → ux_u x1 29 ∧ (((ux_of M1 x1 29) : Int32) = 0 → ux_u x1 29 ∧ ∀ M4 : ux_M, M4 = ux_put M1 x1 29 1 → ux_u x1 30 ∧ ∀ M5 : ux_M, M5 = ux_put M4 x1 30 0 → ux_u x1 40) ∧ (¬ ((ux_of M1 x1 29) : Int32) = 0 → True)
noncomputable def m_217 (x1 : Int32) (M : ux_M) : ux_M := let M1 : ux_M := ux_put M x1 35 (-1); if ((ux_of M1 x1 29) : Int32) = 0 then (let M4 : ux_M := ux_put M1 x1 29 1; let M5 : ux_M := ux_put M4 x1 30 0; let M8 : ux_M := ux_put M5 x1 40 (ux_of M5 x1 40 + 1); M8) else M1
theorem sf_217 {l : Launch} {E : ux_E} (hS : ux_SpecOK l E ux_chs) {d : Nat} (x1 : Int32) (M : ux_M) {Q : ux_M → Prop} (h : p_217 x1 M) (hq0 : Q (m_217 x1 M)) : ux_Call l E (d + 2) y_217 [.inr (.inr (5, 819253, 0)), .inl x1] M (ux_CV Q) := by
  have hq : (ux_CV Q) none (m_217 x1 M) := ⟨rfl, hq0⟩
  exact c_217 hS x1 M ⟨h.1, (fun M1 e_M1 => by subst e_M1; exact ⟨(h.2 _ rfl).1, ⟨fun q1 => ⟨((h.2 _ rfl).2.1 q1).1, (fun M4 e_M4 => by subst e_M4; exact ⟨(((h.2 _ rfl).2.1 q1).2 _ rfl).1, (fun M5 e_M5 => by subst e_M5; exact ⟨((((h.2 _ rfl).2.1 q1).2 _ rfl).2 _ rfl), (fun M8 e_M8 => by subst e_M8; exact (ux_v1 q1 hq))⟩)⟩)⟩, fun q1 => (ux_v0 q1 hq)⟩⟩)⟩
-- Model.happens 
def p_180 (x1 : Int32) (M : ux_M) : Prop := ux_u x1 28 ∧ (((ux_of M x1 28) : Int32) = 1 → p_181 x1 M) ∧ (¬ ((ux_of M x1 28) : Int32) = 1 → (((ux_of M x1 28) : Int32) = 2 → ux_u x1 12 ∧ (((ux_of M x1 12) : Int32) ≤ 0 → p_216 x1 M) ∧ (¬ ((ux_of M x1 12) : Int32) ≤ 0 → ux_u x1 36 ∧ ux_u x1 12 ∧ vp_in 0 1084 ∧ (¬ (((ux_of M x1 36) + (ux_of M x1 12)) : Int32) = (M 5 844257 0 (0 : Int32).toNatClampNeg) → p_216 x1 M) ∧ ((((ux_of M x1 36) + (ux_of M x1 12)) : Int32) = (M 5 844257 0 (0 : Int32).toNatClampNeg) → ux_u x1 13 ∧ p_193 x1 (ux_of M x1 13) M))) ∧ (¬ ((ux_of M x1 28) : Int32) = 2 → (((ux_of M x1 28) : Int32) = 3 → p_215 x1 M) ∧ (¬ ((ux_of M x1 28) : Int32) = 3 → p_217 x1 M)))
noncomputable def m_180 (x1 : Int32) (M : ux_M) : ux_M := if ((ux_of M x1 28) : Int32) = 1 then (m_181 x1 M) else (if ((ux_of M x1 28) : Int32) = 2 then (if ((ux_of M x1 12) : Int32) ≤ 0 then (m_216 x1 M) else (if (((ux_of M x1 36) + (ux_of M x1 12)) : Int32) = (M 5 844257 0 (0 : Int32).toNatClampNeg) then (m_193 x1 (ux_of M x1 13) M) else (m_216 x1 M))) else (if ((ux_of M x1 28) : Int32) = 3 then (m_215 x1 M) else (m_217 x1 M)))
theorem sf_180 {l : Launch} {E : ux_E} (hS : ux_SpecOK l E ux_chs) {d : Nat} (x1 : Int32) (M : ux_M) {Q : ux_M → Prop} (h : p_180 x1 M) (hq0 : Q (m_180 x1 M)) : ux_Call l E (d + 32) y_180 [.inr (.inr (5, 819253, 0)), .inl x1] M (ux_CV Q) := by
  have hq : (ux_CV Q) none (m_180 x1 M) := ⟨rfl, hq0⟩
  exact c_180 hS (d := d + 31) x1 M ⟨h.1, ⟨fun q1 => (sf_181 hS x1 _ (h.2.1 q1) (ux_v1 q1 hq)), fun q1 => ⟨fun q2 => ⟨((h.2.2 q1).1 q2).1, ⟨fun q3 => (sf_216 hS x1 _ (((h.2.2 q1).1 q2).2.1 q3) (ux_v1 q3 (ux_v1 q2 (ux_v0 q1 hq)))), fun q3 => ⟨(((h.2.2 q1).1 q2).2.2 q3).1, ⟨(((h.2.2 q1).1 q2).2.2 q3).2.1, ⟨(((h.2.2 q1).1 q2).2.2 q3).2.2.1, ⟨fun q4 => (sf_216 hS x1 _ ((((h.2.2 q1).1 q2).2.2 q3).2.2.2.1 q4) (ux_v0 q4 (ux_v0 q3 (ux_v1 q2 (ux_v0 q1 hq))))), fun q4 => ⟨((((h.2.2 q1).1 q2).2.2 q3).2.2.2.2 q4).1, (sf_193 hS x1 (ux_of M x1 13) _ ((((h.2.2 q1).1 q2).2.2 q3).2.2.2.2 q4).2 (ux_v1 q4 (ux_v0 q3 (ux_v1 q2 (ux_v0 q1 hq)))))⟩⟩⟩⟩⟩⟩⟩, fun q2 => ⟨fun q5 => (sf_215 hS x1 _ (((h.2.2 q1).2 q2).1 q5) (ux_v1 q5 (ux_v0 q2 (ux_v0 q1 hq)))), fun q5 => (sf_217 hS x1 _ (((h.2.2 q1).2 q2).2 q5) (ux_v0 q5 (ux_v0 q2 (ux_v0 q1 hq))))⟩⟩⟩⟩
-- Model.precedingTo 
def p_220_4 : Nat → Int32 → Int32 → Int32 → ux_M → Prop
  | 0, _, _, _, _ => False
  | f + 1, x1, x2, x3, M => vp_in 1 1084 ∧ (((M 5 844257 0 (1 : Int32).toNatClampNeg) : Int32) ≤ x3 → True) ∧ (¬ ((M 5 844257 0 (1 : Int32).toNatClampNeg) : Int32) ≤ x3 → (x3 = x1 → p_220_4 f x1 x2 (x3 + 1) M) ∧ (¬ x3 = x1 → ux_u x3 29 ∧ (((ux_of M x3 29) : Int32) = 0 → p_220_4 f x1 x2 (x3 + 1) M) ∧ (¬ ((ux_of M x3 29) : Int32) = 0 → ux_u x3 29 ∧ ux_u x1 29 ∧ p_209 x3 (ux_of M x3 29) x1 (ux_of M x1 29) M ∧ ((r_209 x3 (ux_of M x3 29) x1 (ux_of M x1 29) M) = 0 → p_220_4 f x1 x2 (x3 + 1) M) ∧ (¬ (r_209 x3 (ux_of M x3 29) x1 (ux_of M x1 29) M) = 0 → p_220_4 f x1 (x2 ||| ((1 : Int32) <<< (x3 &&& 31))) (x3 + 1) M))))
noncomputable def r_220_4 : Nat → Int32 → Int32 → Int32 → ux_M → Int32
  | 0, _, _, _, _ => 0
  | f + 1, x1, x2, x3, M => if ((M 5 844257 0 (1 : Int32).toNatClampNeg) : Int32) ≤ x3 then x2 else (if x3 = x1 then (r_220_4 f x1 x2 (x3 + 1) M) else (if ((ux_of M x3 29) : Int32) = 0 then (r_220_4 f x1 x2 (x3 + 1) M) else (if (r_209 x3 (ux_of M x3 29) x1 (ux_of M x1 29) M) = 0 then (r_220_4 f x1 x2 (x3 + 1) M) else (r_220_4 f x1 (x2 ||| ((1 : Int32) <<< (x3 &&& 31))) (x3 + 1) M))))
def p_220 (x1 : Int32) (M : ux_M) : Prop := p_220_4 ux_fuel x1 (0 : Int32) (0 : Int32) M
noncomputable def r_220 (x1 : Int32) (M : ux_M) : Int32 := r_220_4 ux_fuel x1 (0 : Int32) (0 : Int32) M
theorem sa_220_4 {l : Launch} {E : ux_E} (hS : ux_SpecOK l E ux_chs) {d : Nat} {Q : Option ux_V → ux_M → Prop} (f : Nat) (x1 : Int32) (x2 : Int32) (x3 : Int32) (M : ux_M) (h : p_220_4 f x1 x2 x3 M) (hq : Q (some (.inl (r_220_4 f x1 x2 x3 M))) M) : ux_At l E (d + 2) y_220 4 [some (.inr (.inr (5, 819253, 0))), some (.inl x1), some (.inl x2), some (.inl x3)] [] M Q := by
  induction f generalizing x1 x2 x3 M with
  | zero => exact h.elim
  | succ f ih => exact w_220_4 hS (d := d + 1) x1 x2 x3 M ⟨h.1, ⟨fun q1 => (ux_r1 q1 hq), fun q1 => ⟨fun q2 => (ih x1 x2 (x3 + 1) _ ((h.2.2 q1).1 q2) (ux_r1 q2 (ux_r0 q1 hq))), fun q2 => ⟨((h.2.2 q1).2 q2).1, ⟨fun q3 => (ih x1 x2 (x3 + 1) _ (((h.2.2 q1).2 q2).2.1 q3) (ux_r1 q3 (ux_r0 q2 (ux_r0 q1 hq)))), fun q3 => ⟨(((h.2.2 q1).2 q2).2.2 q3).1, ⟨(((h.2.2 q1).2 q2).2.2 q3).2.1, (sf_209 hS x3 (ux_of M x3 29) x1 (ux_of M x1 29) _ (((h.2.2 q1).2 q2).2.2 q3).2.2.1 ⟨fun q4 => (ih x1 x2 (x3 + 1) _ ((((h.2.2 q1).2 q2).2.2 q3).2.2.2.1 q4) (ux_r1 q4 (ux_r0 q3 (ux_r0 q2 (ux_r0 q1 hq))))), fun q4 => (ih x1 (x2 ||| ((1 : Int32) <<< (x3 &&& 31))) (x3 + 1) _ ((((h.2.2 q1).2 q2).2.2 q3).2.2.2.2 q4) (ux_r0 q4 (ux_r0 q3 (ux_r0 q2 (ux_r0 q1 hq)))))⟩)⟩⟩⟩⟩⟩⟩⟩
theorem sf_220 {l : Launch} {E : ux_E} (hS : ux_SpecOK l E ux_chs) {d : Nat} (x1 : Int32) (M : ux_M) {Q : Int32 → ux_M → Prop} (h : p_220 x1 M) (hq0 : Q (r_220 x1 M) M) : ux_Call l E (d + 2) y_220 [.inr (.inr (5, 819253, 0)), .inl x1] M (ux_CI Q) := by
  have hq : (ux_CI Q) (some (.inl (r_220 x1 M))) M := ⟨_, rfl, hq0⟩
  exact c_220 hS (d := d + 1) x1 M (sa_220_4 hS ux_fuel x1 (0 : Int32) (0 : Int32) _ h hq)
-- Model.canRun 
def p_219_24 (x1 : Int32) (M : ux_M) : Prop := p_220 x1 M
noncomputable def r_219_24 (x1 : Int32) (M : ux_M) : Int32 := if (r_220 x1 M) = 0 then 1 else 0
def p_219 (x1 : Int32) (M : ux_M) : Prop := ux_u x1 29 ∧ (¬ ((ux_of M x1 29) : Int32) = 1 → p_219_24 x1 M) ∧ (((ux_of M x1 29) : Int32) = 1 → ux_u x1 28 ∧ (¬ ((ux_of M x1 28) : Int32) = 3 → p_219_24 x1 M) ∧ (((ux_of M x1 28) : Int32) = 3 → True))
noncomputable def r_219 (x1 : Int32) (M : ux_M) : Int32 := if ((ux_of M x1 29) : Int32) = 1 then (if ((ux_of M x1 28) : Int32) = 3 then 0 else (r_219_24 x1 M)) else (r_219_24 x1 M)
theorem sa_219_24 {l : Launch} {E : ux_E} (hS : ux_SpecOK l E ux_chs) {d : Nat} (x1 : Int32) (M : ux_M) {Q : Option ux_V → ux_M → Prop} (h : p_219_24 x1 M) (hq : Q (some (.inl (r_219_24 x1 M))) M) : ux_At l E (d + 3) y_219 24 [some (.inr (.inr (5, 819253, 0))), some (.inl x1)] [] M Q := w_219_24 hS (d := d + 2) x1 M (sf_220 hS x1 _ h ⟨fun q1 => (ux_r0 q1 hq), fun q1 => (ux_r1 q1 hq)⟩)
theorem sf_219 {l : Launch} {E : ux_E} (hS : ux_SpecOK l E ux_chs) {d : Nat} (x1 : Int32) (M : ux_M) {Q : Int32 → ux_M → Prop} (h : p_219 x1 M) (hq0 : Q (r_219 x1 M) M) : ux_Call l E (d + 3) y_219 [.inr (.inr (5, 819253, 0)), .inl x1] M (ux_CI Q) := by
  have hq : (ux_CI Q) (some (.inl (r_219 x1 M))) M := ⟨_, rfl, hq0⟩
  exact c_219 hS (d := d + 2) x1 M ⟨h.1, ⟨fun q2 => (sa_219_24 hS x1 _ (h.2.1 q2) (ux_r0 q2 hq)), fun q2 => ⟨(h.2.2 q2).1, ⟨fun q3 => (sa_219_24 hS x1 _ ((h.2.2 q2).2.1 q3) (ux_r0 q3 (ux_r1 q2 hq))), fun q3 => (ux_r1 q3 (ux_r1 q2 hq))⟩⟩⟩⟩
-- Model.beginsToStop 
def p_222_26 (x1 : Int32) (z0 : Int32) (M : ux_M) : Prop := (z0 ≤ 0 → p_215 x1 M) ∧ (¬ z0 ≤ 0 → vp_in 0 1084 ∧ ux_u x1 35)
noncomputable def m_222_26 (x1 : Int32) (z0 : Int32) (M : ux_M) : ux_M := if z0 ≤ 0 then (m_215 x1 M) else (let M4 : ux_M := ux_put M x1 35 ((M 5 844257 0 (0 : Int32).toNatClampNeg) + z0); M4)
def p_222 (x1 : Int32) (M : ux_M) : Prop := p_190 x1 3 M ∧ ux_u x1 0 ∧ (¬ ((ux_of (m_190 x1 3 M) x1 0) : Int32) = 0 → p_222_26 x1 (0 : Int32) (m_190 x1 3 M)) ∧ (((ux_of (m_190 x1 3 M) x1 0) : Int32) = 0 → ux_u x1 11 ∧ p_222_26 x1 (ux_of (m_190 x1 3 M) x1 11) (m_190 x1 3 M))
noncomputable def m_222 (x1 : Int32) (M : ux_M) : ux_M := if ((ux_of (m_190 x1 3 M) x1 0) : Int32) = 0 then (m_222_26 x1 (ux_of (m_190 x1 3 M) x1 11) (m_190 x1 3 M)) else (m_222_26 x1 (0 : Int32) (m_190 x1 3 M))
theorem sa_222_26 {l : Launch} {E : ux_E} (hS : ux_SpecOK l E ux_chs) {d : Nat} (x1 : Int32) (z0 : Int32) (M : ux_M) {Q : Option ux_V → ux_M → Prop} (h : p_222_26 x1 z0 M) (hq : Q none (m_222_26 x1 z0 M)) : ux_At l E (d + 3) y_222 26 [some (.inr (.inr (5, 819253, 0))), some (.inl x1), none] [.inl z0] M Q := w_222_26 hS (d := d + 2) x1 z0 M ⟨fun q1 => (sf_215 hS x1 _ (h.1 q1) (ux_v1 q1 hq)), fun q1 => ⟨(h.2 q1).1, ⟨(h.2 q1).2, (fun M4 e_M4 => by subst e_M4; exact (ux_v0 q1 hq))⟩⟩⟩
theorem sf_222 {l : Launch} {E : ux_E} (hS : ux_SpecOK l E ux_chs) {d : Nat} (x1 : Int32) (M : ux_M) {Q : ux_M → Prop} (h : p_222 x1 M) (hq0 : Q (m_222 x1 M)) : ux_Call l E (d + 3) y_222 [.inr (.inr (5, 819253, 0)), .inl x1] M (ux_CV Q) := by
  have hq : (ux_CV Q) none (m_222 x1 M) := ⟨rfl, hq0⟩
  exact c_222 hS (d := d + 2) x1 M (sf_190 hS x1 3 _ h.1 ⟨h.2.1, ⟨fun q2 => (sa_222_26 hS x1 (0 : Int32) _ (h.2.2.1 q2) (ux_v0 q2 hq)), fun q2 => ⟨(h.2.2.2 q2).1, (sa_222_26 hS x1 (ux_of (m_190 x1 3 M) x1 11) _ (h.2.2.2 q2).2 (ux_v1 q2 hq))⟩⟩⟩)
-- Model.runsStop 
def p_221 (x1 : Int32) (x2 : Int32) (M : ux_M) : Prop := (x2 = 0 → ux_u x1 29 ∧ ∀ M2 : ux_M, M2 = ux_put M x1 29 0 → ux_u x1 30 ∧ ∀ M3 : ux_M, M3 = ux_put M2 x1 30 0 → ux_u x1 41) ∧ (¬ x2 = 0 → (¬ x2 = 4 → (¬ x2 = 5 → ux_u x1 30 ∧ ∀ M10 : ux_M, M10 = ux_put M x1 30 1 → (x2 = 3 → True) ∧ (¬ x2 = 3 → p_222 x1 M10)) ∧ (x2 = 5 → p_190 x1 0 M ∧ ux_u x1 29 ∧ ∀ M17 : ux_M, M17 = ux_put (m_190 x1 0 M) x1 29 0 → ux_u x1 30 ∧ ∀ M18 : ux_M, M18 = ux_put M17 x1 30 0 → ux_u x1 41)) ∧ (x2 = 4 → ux_u x1 29 ∧ ∀ M23 : ux_M, M23 = ux_put M x1 29 0 → ux_u x1 30 ∧ ∀ M24 : ux_M, M24 = ux_put M23 x1 30 0 → ux_u x1 41))
noncomputable def m_221 (x1 : Int32) (x2 : Int32) (M : ux_M) : ux_M := if x2 = 0 then (let M2 : ux_M := ux_put M x1 29 0; let M3 : ux_M := ux_put M2 x1 30 0; let M4 : ux_M := ux_put M3 x1 41 0; M4) else (if x2 = 4 then (let M23 : ux_M := ux_put M x1 29 0; let M24 : ux_M := ux_put M23 x1 30 0; let M25 : ux_M := ux_put M24 x1 41 0; M25) else (if x2 = 5 then (let M17 : ux_M := ux_put (m_190 x1 0 M) x1 29 0; let M18 : ux_M := ux_put M17 x1 30 0; let M19 : ux_M := ux_put M18 x1 41 0; M19) else (let M10 : ux_M := ux_put M x1 30 1; if x2 = 3 then M10 else (m_222 x1 M10))))
theorem sf_221 {l : Launch} {E : ux_E} (hS : ux_SpecOK l E ux_chs) {d : Nat} (x1 : Int32) (x2 : Int32) (M : ux_M) {Q : ux_M → Prop} (h : p_221 x1 x2 M) (hq0 : Q (m_221 x1 x2 M)) : ux_Call l E (d + 4) y_221 [.inr (.inr (5, 819253, 0)), .inl x1, .inl x2] M (ux_CV Q) := by
  have hq : (ux_CV Q) none (m_221 x1 x2 M) := ⟨rfl, hq0⟩
  exact c_221 hS (d := d + 2) x1 x2 M ⟨fun q1 => ⟨(h.1 q1).1, (fun M2 e_M2 => by subst e_M2; exact ⟨((h.1 q1).2 _ rfl).1, (fun M3 e_M3 => by subst e_M3; exact ⟨(((h.1 q1).2 _ rfl).2 _ rfl), (fun M4 e_M4 => by subst e_M4; exact (ux_v1 q1 hq))⟩)⟩)⟩, fun q1 => ⟨fun q2 => ⟨fun q3 => ⟨(((h.2 q1).1 q2).1 q3).1, (fun M10 e_M10 => by subst e_M10; exact ⟨fun q4 => (ux_v1 q4 (ux_v0 q3 (ux_v0 q2 (ux_v0 q1 hq)))), fun q4 => (sf_222 hS x1 _ (((((h.2 q1).1 q2).1 q3).2 _ rfl).2 q4) (ux_v0 q4 (ux_v0 q3 (ux_v0 q2 (ux_v0 q1 hq)))))⟩)⟩, fun q3 => (sf_190 hS x1 0 _ (((h.2 q1).1 q2).2 q3).1 ⟨(((h.2 q1).1 q2).2 q3).2.1, (fun M17 e_M17 => by subst e_M17; exact ⟨((((h.2 q1).1 q2).2 q3).2.2 _ rfl).1, (fun M18 e_M18 => by subst e_M18; exact ⟨(((((h.2 q1).1 q2).2 q3).2.2 _ rfl).2 _ rfl), (fun M19 e_M19 => by subst e_M19; exact (ux_v1 q3 (ux_v0 q2 (ux_v0 q1 hq))))⟩)⟩)⟩)⟩, fun q2 => ⟨((h.2 q1).2 q2).1, (fun M23 e_M23 => by subst e_M23; exact ⟨(((h.2 q1).2 q2).2 _ rfl).1, (fun M24 e_M24 => by subst e_M24; exact ⟨((((h.2 q1).2 q2).2 _ rfl).2 _ rfl), (fun M25 e_M25 => by subst e_M25; exact (ux_v1 q2 (ux_v0 q1 hq)))⟩)⟩)⟩⟩⟩
-- Model.runsRestart 
def p_223 (x1 : Int32) (x2 : Int32) (M : ux_M) : Prop := (x2 = 0 → ux_u x1 29 ∧ ∀ M2 : ux_M, M2 = ux_put M x1 29 1 → ux_u x1 30) ∧ (¬ x2 = 0 → (x2 = 4 → ux_u x1 29 ∧ ∀ M7 : ux_M, M7 = ux_put M x1 29 1 → ux_u x1 30) ∧ (¬ x2 = 4 → (¬ x2 = 5 → ux_u x1 30 ∧ ∀ M12 : ux_M, M12 = ux_put M x1 30 1 → (x2 = 3 → True) ∧ (¬ x2 = 3 → p_222 x1 M12)) ∧ (x2 = 5 → ux_u x1 29 ∧ ∀ M17 : ux_M, M17 = ux_put M x1 29 1 → ux_u x1 30)))
noncomputable def m_223 (x1 : Int32) (x2 : Int32) (M : ux_M) : ux_M := if x2 = 0 then (let M2 : ux_M := ux_put M x1 29 1; let M3 : ux_M := ux_put M2 x1 30 0; M3) else (if x2 = 4 then (let M7 : ux_M := ux_put M x1 29 1; let M8 : ux_M := ux_put M7 x1 30 0; M8) else (if x2 = 5 then (let M17 : ux_M := ux_put M x1 29 1; let M18 : ux_M := ux_put M17 x1 30 0; M18) else (let M12 : ux_M := ux_put M x1 30 1; if x2 = 3 then M12 else (m_222 x1 M12))))
theorem sf_223 {l : Launch} {E : ux_E} (hS : ux_SpecOK l E ux_chs) {d : Nat} (x1 : Int32) (x2 : Int32) (M : ux_M) {Q : ux_M → Prop} (h : p_223 x1 x2 M) (hq0 : Q (m_223 x1 x2 M)) : ux_Call l E (d + 4) y_223 [.inr (.inr (5, 819253, 0)), .inl x1, .inl x2] M (ux_CV Q) := by
  have hq : (ux_CV Q) none (m_223 x1 x2 M) := ⟨rfl, hq0⟩
  exact c_223 hS (d := d + 2) x1 x2 M ⟨fun q1 => ⟨(h.1 q1).1, (fun M2 e_M2 => by subst e_M2; exact ⟨((h.1 q1).2 _ rfl), (fun M3 e_M3 => by subst e_M3; exact (ux_v1 q1 hq))⟩)⟩, fun q1 => ⟨fun q2 => ⟨((h.2 q1).1 q2).1, (fun M7 e_M7 => by subst e_M7; exact ⟨(((h.2 q1).1 q2).2 _ rfl), (fun M8 e_M8 => by subst e_M8; exact (ux_v1 q2 (ux_v0 q1 hq)))⟩)⟩, fun q2 => ⟨fun q3 => ⟨(((h.2 q1).2 q2).1 q3).1, (fun M12 e_M12 => by subst e_M12; exact ⟨fun q4 => (ux_v1 q4 (ux_v0 q3 (ux_v0 q2 (ux_v0 q1 hq)))), fun q4 => (sf_222 hS x1 _ (((((h.2 q1).2 q2).1 q3).2 _ rfl).2 q4) (ux_v0 q4 (ux_v0 q3 (ux_v0 q2 (ux_v0 q1 hq)))))⟩)⟩, fun q3 => ⟨(((h.2 q1).2 q2).2 q3).1, (fun M17 e_M17 => by subst e_M17; exact ⟨((((h.2 q1).2 q2).2 q3).2 _ rfl), (fun M18 e_M18 => by subst e_M18; exact (ux_v1 q3 (ux_v0 q2 (ux_v0 q1 hq))))⟩)⟩⟩⟩⟩
-- Model.areNeedsThere 
def p_225_2 : Nat → Int32 → Int32 → ux_M → Prop
  | 0, _, _, _ => False
  | f + 1, x1, x2, M => vp_in 1 1084 ∧ (((M 5 844257 0 (1 : Int32).toNatClampNeg) : Int32) ≤ x2 → True) ∧ (¬ ((M 5 844257 0 (1 : Int32).toNatClampNeg) : Int32) ≤ x2 → ux_u x1 22 ∧ ux_u x1 24 ∧ (¬ ((((((ux_of M x1 22) ||| (ux_of M x1 24)) >>> (x2 &&& 31)) &&& (1 : Int32)) : Int32) = 1) → p_225_2 f x1 (x2 + 1) M) ∧ ((((((ux_of M x1 22) ||| (ux_of M x1 24)) >>> (x2 &&& 31)) &&& (1 : Int32)) : Int32) = 1 → ux_u x2 28 ∧ (¬ ((ux_of M x2 28) : Int32) = 2 → ux_u x1 27 ∧ (((((ux_of M x1 27) >>> (x2 &&& 31)) &&& (1 : Int32)) : Int32) = 1 → True) ∧ (¬ (((((ux_of M x1 27) >>> (x2 &&& 31)) &&& (1 : Int32)) : Int32) = 1) → ux_u x2 28 ∧ (((ux_of M x2 28) : Int32) = 1 → p_225_2 f x1 (x2 + 1) M) ∧ (¬ ((ux_of M x2 28) : Int32) = 1 → ux_u x2 29 ∧ ((((ux_of M x2 29) : Int32) = 1) ∨ (((ux_of M x2 29) : Int32) = 3) → p_225_2 f x1 (x2 + 1) M) ∧ (¬ ((((ux_of M x2 29) : Int32) = 1) ∨ (((ux_of M x2 29) : Int32) = 3)) → True)))) ∧ (((ux_of M x2 28) : Int32) = 2 → p_225_2 f x1 (x2 + 1) M)))
noncomputable def r_225_2 : Nat → Int32 → Int32 → ux_M → Int32
  | 0, _, _, _ => 0
  | f + 1, x1, x2, M => if ((M 5 844257 0 (1 : Int32).toNatClampNeg) : Int32) ≤ x2 then 1 else (if (((((ux_of M x1 22) ||| (ux_of M x1 24)) >>> (x2 &&& 31)) &&& (1 : Int32)) : Int32) = 1 then (if ((ux_of M x2 28) : Int32) = 2 then (r_225_2 f x1 (x2 + 1) M) else (if ((((ux_of M x1 27) >>> (x2 &&& 31)) &&& (1 : Int32)) : Int32) = 1 then 0 else (if ((ux_of M x2 28) : Int32) = 1 then (r_225_2 f x1 (x2 + 1) M) else (if (((ux_of M x2 29) : Int32) = 1) ∨ (((ux_of M x2 29) : Int32) = 3) then (r_225_2 f x1 (x2 + 1) M) else 0)))) else (r_225_2 f x1 (x2 + 1) M))
def p_225 (x1 : Int32) (M : ux_M) : Prop := p_225_2 ux_fuel x1 (0 : Int32) M
noncomputable def r_225 (x1 : Int32) (M : ux_M) : Int32 := r_225_2 ux_fuel x1 (0 : Int32) M
theorem sa_225_2 {l : Launch} {E : ux_E} (hS : ux_SpecOK l E ux_chs) {d : Nat} {Q : Option ux_V → ux_M → Prop} (f : Nat) (x1 : Int32) (x2 : Int32) (M : ux_M) (h : p_225_2 f x1 x2 M) (hq : Q (some (.inl (r_225_2 f x1 x2 M))) M) : ux_At l E (d + 2) y_225 2 [some (.inr (.inr (5, 819253, 0))), some (.inl x1), some (.inl x2)] [] M Q := by
  induction f generalizing x1 x2 M with
  | zero => exact h.elim
  | succ f ih => exact w_225_2 hS x1 x2 M ⟨h.1, ⟨fun q1 => (ux_r1 q1 hq), fun q1 => ⟨(h.2.2 q1).1, ⟨(h.2.2 q1).2.1, ⟨fun q2 => (ih x1 (x2 + 1) _ ((h.2.2 q1).2.2.1 q2) (ux_r0 q2 (ux_r0 q1 hq))), fun q2 => ⟨((h.2.2 q1).2.2.2 q2).1, ⟨fun q3 => ⟨(((h.2.2 q1).2.2.2 q2).2.1 q3).1, ⟨fun q4 => (ux_r1 q4 (ux_r0 q3 (ux_r1 q2 (ux_r0 q1 hq)))), fun q4 => ⟨((((h.2.2 q1).2.2.2 q2).2.1 q3).2.2 q4).1, ⟨fun q5 => (ih x1 (x2 + 1) _ (((((h.2.2 q1).2.2.2 q2).2.1 q3).2.2 q4).2.1 q5) (ux_r1 q5 (ux_r0 q4 (ux_r0 q3 (ux_r1 q2 (ux_r0 q1 hq)))))), fun q5 => ⟨(((((h.2.2 q1).2.2.2 q2).2.1 q3).2.2 q4).2.2 q5).1, ⟨fun q6 => (ih x1 (x2 + 1) _ ((((((h.2.2 q1).2.2.2 q2).2.1 q3).2.2 q4).2.2 q5).2.1 q6) (ux_r1 q6 (ux_r0 q5 (ux_r0 q4 (ux_r0 q3 (ux_r1 q2 (ux_r0 q1 hq))))))), fun q6 => (ux_r0 q6 (ux_r0 q5 (ux_r0 q4 (ux_r0 q3 (ux_r1 q2 (ux_r0 q1 hq))))))⟩⟩⟩⟩⟩⟩, fun q3 => (ih x1 (x2 + 1) _ (((h.2.2 q1).2.2.2 q2).2.2 q3) (ux_r1 q3 (ux_r1 q2 (ux_r0 q1 hq))))⟩⟩⟩⟩⟩⟩⟩
theorem sf_225 {l : Launch} {E : ux_E} (hS : ux_SpecOK l E ux_chs) {d : Nat} (x1 : Int32) (M : ux_M) {Q : Int32 → ux_M → Prop} (h : p_225 x1 M) (hq0 : Q (r_225 x1 M) M) : ux_Call l E (d + 2) y_225 [.inr (.inr (5, 819253, 0)), .inl x1] M (ux_CI Q) := by
  have hq : (ux_CI Q) (some (.inl (r_225 x1 M))) M := ⟨_, rfl, hq0⟩
  exact c_225 hS x1 M (sa_225_2 hS ux_fuel x1 (0 : Int32) _ h hq)
-- Model.recent 
def p_226_4 : Nat → Int32 → Int32 → Int32 → ux_M → Prop
  | 0, _, _, _, _ => False
  | f + 1, x1, x2, x3, M => ux_u x1 45 ∧ (((ux_of M x1 45) : Int32) ≤ x3 → True) ∧ (¬ ((ux_of M x1 45) : Int32) ≤ x3 → ux_u x1 ((46 : Int32) + x3) ∧ vp_in 0 1084 ∧ ux_u x1 18 ∧ (((ux_of M x1 ((46 : Int32) + x3)) : Int32) ≤ ((M 5 844257 0 (0 : Int32).toNatClampNeg) - (ux_of M x1 18)) → p_226_4 f x1 (x2 + (0 : Int32)) (x3 + 1) M) ∧ (¬ ((ux_of M x1 ((46 : Int32) + x3)) : Int32) ≤ ((M 5 844257 0 (0 : Int32).toNatClampNeg) - (ux_of M x1 18)) → p_226_4 f x1 (x2 + (1 : Int32)) (x3 + 1) M))
noncomputable def r_226_4 : Nat → Int32 → Int32 → Int32 → ux_M → Int32
  | 0, _, _, _, _ => 0
  | f + 1, x1, x2, x3, M => if ((ux_of M x1 45) : Int32) ≤ x3 then x2 else (if ((ux_of M x1 ((46 : Int32) + x3)) : Int32) ≤ ((M 5 844257 0 (0 : Int32).toNatClampNeg) - (ux_of M x1 18)) then (r_226_4 f x1 (x2 + (0 : Int32)) (x3 + 1) M) else (r_226_4 f x1 (x2 + (1 : Int32)) (x3 + 1) M))
def p_226 (x1 : Int32) (M : ux_M) : Prop := p_226_4 ux_fuel x1 (0 : Int32) (0 : Int32) M
noncomputable def r_226 (x1 : Int32) (M : ux_M) : Int32 := r_226_4 ux_fuel x1 (0 : Int32) (0 : Int32) M
theorem sa_226_4 {l : Launch} {E : ux_E} (hS : ux_SpecOK l E ux_chs) {d : Nat} {Q : Option ux_V → ux_M → Prop} (f : Nat) (x1 : Int32) (x2 : Int32) (x3 : Int32) (M : ux_M) (h : p_226_4 f x1 x2 x3 M) (hq : Q (some (.inl (r_226_4 f x1 x2 x3 M))) M) : ux_At l E (d + 1) y_226 4 [some (.inr (.inr (5, 819253, 0))), some (.inl x1), some (.inl x2), some (.inl x3)] [] M Q := by
  induction f generalizing x1 x2 x3 M with
  | zero => exact h.elim
  | succ f ih => exact w_226_4 hS x1 x2 x3 M ⟨h.1, ⟨fun q1 => (ux_r1 q1 hq), fun q1 => ⟨(h.2.2 q1).1, ⟨(h.2.2 q1).2.1, ⟨(h.2.2 q1).2.2.1, ⟨fun q2 => (ih x1 (x2 + (0 : Int32)) (x3 + 1) _ ((h.2.2 q1).2.2.2.1 q2) (ux_r1 q2 (ux_r0 q1 hq))), fun q2 => (ih x1 (x2 + (1 : Int32)) (x3 + 1) _ ((h.2.2 q1).2.2.2.2 q2) (ux_r0 q2 (ux_r0 q1 hq)))⟩⟩⟩⟩⟩⟩
theorem sf_226 {l : Launch} {E : ux_E} (hS : ux_SpecOK l E ux_chs) {d : Nat} (x1 : Int32) (M : ux_M) {Q : Int32 → ux_M → Prop} (h : p_226 x1 M) (hq0 : Q (r_226 x1 M) M) : ux_Call l E (d + 1) y_226 [.inr (.inr (5, 819253, 0)), .inl x1] M (ux_CI Q) := by
  have hq : (ux_CI Q) (some (.inl (r_226 x1 M))) M := ⟨_, rfl, hq0⟩
  exact c_226 hS x1 M (sa_226_4 hS ux_fuel x1 (0 : Int32) (0 : Int32) _ h hq)
-- Model.hitsLimit 
def p_227_22 : Nat → Int32 → Int32 → ux_M → Prop
  | 0, _, _, _ => False
  | f + 1, x1, x2, M => vp_in 1 1084 ∧ (((M 5 844257 0 (1 : Int32).toNatClampNeg) : Int32) ≤ x2 → True) ∧ (¬ ((M 5 844257 0 (1 : Int32).toNatClampNeg) : Int32) ≤ x2 → ux_u x2 0 ∧ (¬ ((ux_of M x2 0) : Int32) = 1 → p_227_22 f x1 (x2 + 1) M) ∧ (((ux_of M x2 0) : Int32) = 1 → ux_u x2 20 ∧ (¬ ((ux_of M x2 20) : Int32) = x1 → p_227_22 f x1 (x2 + 1) M) ∧ (((ux_of M x2 20) : Int32) = x1 → ux_u x2 28 ∧ (((ux_of M x2 28) : Int32) = 2 → p_190 x2 4 M ∧ ux_u x2 32 ∧ ∀ M7 : ux_M, M7 = ux_put (m_190 x2 4 M) x2 32 3 → ux_u x2 29 ∧ (((ux_of M7 x2 29) : Int32) = 0 → p_227_22 f x1 (x2 + 1) M7) ∧ (¬ ((ux_of M7 x2 29) : Int32) = 0 → p_214 x2 M7 ∧ p_227_22 f x1 (x2 + 1) (m_214 x2 M7))) ∧ (¬ ((ux_of M x2 28) : Int32) = 2 → p_227_22 f x1 (x2 + 1) M))))
noncomputable def m_227_22 : Nat → Int32 → Int32 → ux_M → ux_M
  | 0, _, _, M => M
  | f + 1, x1, x2, M => if ((M 5 844257 0 (1 : Int32).toNatClampNeg) : Int32) ≤ x2 then M else (if ((ux_of M x2 0) : Int32) = 1 then (if ((ux_of M x2 20) : Int32) = x1 then (if ((ux_of M x2 28) : Int32) = 2 then (let M7 : ux_M := ux_put (m_190 x2 4 M) x2 32 3; if ((ux_of M7 x2 29) : Int32) = 0 then (m_227_22 f x1 (x2 + 1) M7) else (m_227_22 f x1 (x2 + 1) (m_214 x2 M7))) else (m_227_22 f x1 (x2 + 1) M)) else (m_227_22 f x1 (x2 + 1) M)) else (m_227_22 f x1 (x2 + 1) M))
def p_227 (x1 : Int32) (M : ux_M) : Prop := p_182 x1 3 M ∧ p_190 x1 4 (m_182 x1 3 M) ∧ ux_u x1 32 ∧ ∀ M5 : ux_M, M5 = ux_put (m_190 x1 4 (m_182 x1 3 M)) x1 32 3 → p_227_22 ux_fuel x1 (0 : Int32) M5
noncomputable def m_227 (x1 : Int32) (M : ux_M) : ux_M := let M5 : ux_M := ux_put (m_190 x1 4 (m_182 x1 3 M)) x1 32 3; m_227_22 ux_fuel x1 (0 : Int32) M5
theorem sa_227_22 {l : Launch} {E : ux_E} (hS : ux_SpecOK l E ux_chs) {d : Nat} {Q : Option ux_V → ux_M → Prop} (f : Nat) (x1 : Int32) (x2 : Int32) (M : ux_M) (h : p_227_22 f x1 x2 M) (hq : Q none (m_227_22 f x1 x2 M)) : ux_At l E (d + 26) y_227 22 [some (.inr (.inr (5, 819253, 0))), some (.inl x1), some (.inl x2)] [] M Q := by
  induction f generalizing x1 x2 M with
  | zero => exact h.elim
  | succ f ih => exact w_227_22 hS (d := d + 25) x1 x2 M ⟨h.1, ⟨fun q1 => (ux_v1 q1 hq), fun q1 => ⟨(h.2.2 q1).1, ⟨fun q2 => (ih x1 (x2 + 1) _ ((h.2.2 q1).2.1 q2) (ux_v0 q2 (ux_v0 q1 hq))), fun q2 => ⟨((h.2.2 q1).2.2 q2).1, ⟨fun q3 => (ih x1 (x2 + 1) _ (((h.2.2 q1).2.2 q2).2.1 q3) (ux_v0 q3 (ux_v1 q2 (ux_v0 q1 hq)))), fun q3 => ⟨(((h.2.2 q1).2.2 q2).2.2 q3).1, ⟨fun q4 => (sf_190 hS x2 4 _ ((((h.2.2 q1).2.2 q2).2.2 q3).2.1 q4).1 ⟨((((h.2.2 q1).2.2 q2).2.2 q3).2.1 q4).2.1, (fun M7 e_M7 => by subst e_M7; exact ⟨(((((h.2.2 q1).2.2 q2).2.2 q3).2.1 q4).2.2 _ rfl).1, ⟨fun q5 => (ih x1 (x2 + 1) _ ((((((h.2.2 q1).2.2 q2).2.2 q3).2.1 q4).2.2 _ rfl).2.1 q5) (ux_v1 q5 (ux_v1 q4 (ux_v1 q3 (ux_v1 q2 (ux_v0 q1 hq)))))), fun q5 => (sf_214 hS x2 _ ((((((h.2.2 q1).2.2 q2).2.2 q3).2.1 q4).2.2 _ rfl).2.2 q5).1 (ih x1 (x2 + 1) _ ((((((h.2.2 q1).2.2 q2).2.2 q3).2.1 q4).2.2 _ rfl).2.2 q5).2 (ux_v0 q5 (ux_v1 q4 (ux_v1 q3 (ux_v1 q2 (ux_v0 q1 hq)))))))⟩⟩)⟩), fun q4 => (ih x1 (x2 + 1) _ ((((h.2.2 q1).2.2 q2).2.2 q3).2.2 q4) (ux_v0 q4 (ux_v1 q3 (ux_v1 q2 (ux_v0 q1 hq)))))⟩⟩⟩⟩⟩⟩⟩⟩
theorem sf_227 {l : Launch} {E : ux_E} (hS : ux_SpecOK l E ux_chs) {d : Nat} (x1 : Int32) (M : ux_M) {Q : ux_M → Prop} (h : p_227 x1 M) (hq0 : Q (m_227 x1 M)) : ux_Call l E (d + 26) y_227 [.inr (.inr (5, 819253, 0)), .inl x1] M (ux_CV Q) := by
  have hq : (ux_CV Q) none (m_227 x1 M) := ⟨rfl, hq0⟩
  exact c_227 hS (d := d + 25) x1 M (sf_182 hS x1 3 _ h.1 (sf_190 hS x1 4 _ h.2.1 ⟨h.2.2.1, (fun M5 e_M5 => by subst e_M5; exact (sa_227_22 hS ux_fuel x1 (0 : Int32) _ (h.2.2.2 _ rfl) hq))⟩))
-- Model.notesBegin 
def p_229_54 (x1 : Int32) (M : ux_M) : Prop := ux_u x1 45 ∧ vp_in 0 1084 ∧ ux_u x1 ((46 : Int32) + (ux_of M x1 45)) ∧ ∀ M1 : ux_M, M1 = ux_put M x1 ((46 : Int32) + (ux_of M x1 45)) (M 5 844257 0 (0 : Int32).toNatClampNeg) → ux_u x1 45 ∧ ∀ M3 : ux_M, M3 = ux_put M1 x1 45 (ux_of M1 x1 45 + 1) → ux_u x1 39 ∧ ∀ M5 : ux_M, M5 = ux_put M3 x1 39 (ux_of M3 x1 39 + 1) → ux_u x1 38
noncomputable def m_229_54 (x1 : Int32) (M : ux_M) : ux_M := let M1 : ux_M := ux_put M x1 ((46 : Int32) + (ux_of M x1 45)) (M 5 844257 0 (0 : Int32).toNatClampNeg); let M3 : ux_M := ux_put M1 x1 45 (ux_of M1 x1 45 + 1); let M5 : ux_M := ux_put M3 x1 39 (ux_of M3 x1 39 + 1); let M7 : ux_M := ux_put M5 x1 38 (ux_of M5 x1 38 + 1); M7
def p_229_14 : Nat → Int32 → Int32 → ux_M → Prop
  | 0, _, _, _ => False
  | f + 1, x1, x2, M => ((9 : Int32) ≤ x2 → ux_u x1 45 ∧ ∀ M2 : ux_M, M2 = ux_put M x1 45 (ux_of M x1 45 + (-1)) → p_229_54 x1 M2) ∧ (¬ (9 : Int32) ≤ x2 → ux_u x1 ((46 : Int32) + x2) ∧ ux_u x1 (((46 : Int32) + x2) - (1 : Int32)) ∧ ∀ M4 : ux_M, M4 = ux_put M x1 (((46 : Int32) + x2) - (1 : Int32)) (ux_of M x1 ((46 : Int32) + x2)) → p_229_14 f x1 (x2 + 1) M4)
noncomputable def m_229_14 : Nat → Int32 → Int32 → ux_M → ux_M
  | 0, _, _, M => M
  | f + 1, x1, x2, M => if (9 : Int32) ≤ x2 then (let M2 : ux_M := ux_put M x1 45 (ux_of M x1 45 + (-1)); m_229_54 x1 M2) else (let M4 : ux_M := ux_put M x1 (((46 : Int32) + x2) - (1 : Int32)) (ux_of M x1 ((46 : Int32) + x2)); m_229_14 f x1 (x2 + 1) M4)
def p_229 (x1 : Int32) (M : ux_M) : Prop := ux_u x1 45 ∧ (¬ ((ux_of M x1 45) : Int32) = 9 → p_229_54 x1 M) ∧ (((ux_of M x1 45) : Int32) = 9 → p_229_14 ux_fuel x1 (1 : Int32) M)
noncomputable def m_229 (x1 : Int32) (M : ux_M) : ux_M := if ((ux_of M x1 45) : Int32) = 9 then (m_229_14 ux_fuel x1 (1 : Int32) M) else (m_229_54 x1 M)
theorem sa_229_54 {l : Launch} {E : ux_E} (hS : ux_SpecOK l E ux_chs) {d : Nat} (x1 : Int32) (M : ux_M) {Q : Option ux_V → ux_M → Prop} (h : p_229_54 x1 M) (hq : Q none (m_229_54 x1 M)) : ux_At l E (d + 1) y_229 54 [some (.inr (.inr (5, 819253, 0))), some (.inl x1), none] [] M Q := w_229_54 hS x1 M ⟨h.1, ⟨h.2.1, ⟨h.2.2.1, (fun M1 e_M1 => by subst e_M1; exact ⟨(h.2.2.2 _ rfl).1, (fun M3 e_M3 => by subst e_M3; exact ⟨((h.2.2.2 _ rfl).2 _ rfl).1, (fun M5 e_M5 => by subst e_M5; exact ⟨(((h.2.2.2 _ rfl).2 _ rfl).2 _ rfl), (fun M7 e_M7 => by subst e_M7; exact hq)⟩)⟩)⟩)⟩⟩⟩
theorem sa_229_14 {l : Launch} {E : ux_E} (hS : ux_SpecOK l E ux_chs) {d : Nat} {Q : Option ux_V → ux_M → Prop} (f : Nat) (x1 : Int32) (x2 : Int32) (M : ux_M) (h : p_229_14 f x1 x2 M) (hq : Q none (m_229_14 f x1 x2 M)) : ux_At l E (d + 1) y_229 14 [some (.inr (.inr (5, 819253, 0))), some (.inl x1), some (.inl x2)] [] M Q := by
  induction f generalizing x1 x2 M with
  | zero => exact h.elim
  | succ f ih => exact w_229_14 hS x1 x2 M ⟨fun q1 => ⟨(h.1 q1).1, (fun M2 e_M2 => by subst e_M2; exact (sa_229_54 hS x1 _ ((h.1 q1).2 _ rfl) (ux_v1 q1 hq)))⟩, fun q1 => ⟨(h.2 q1).1, ⟨(h.2 q1).2.1, (fun M4 e_M4 => by subst e_M4; exact (ih x1 (x2 + 1) _ ((h.2 q1).2.2 _ rfl) (ux_v0 q1 hq)))⟩⟩⟩
theorem sf_229 {l : Launch} {E : ux_E} (hS : ux_SpecOK l E ux_chs) {d : Nat} (x1 : Int32) (M : ux_M) {Q : ux_M → Prop} (h : p_229 x1 M) (hq0 : Q (m_229 x1 M)) : ux_Call l E (d + 1) y_229 [.inr (.inr (5, 819253, 0)), .inl x1] M (ux_CV Q) := by
  have hq : (ux_CV Q) none (m_229 x1 M) := ⟨rfl, hq0⟩
  exact c_229 hS x1 M ⟨h.1, ⟨fun q2 => (sa_229_54 hS x1 _ (h.2.1 q2) (ux_v0 q2 hq)), fun q2 => (sa_229_14 hS ux_fuel x1 (1 : Int32) _ (h.2.2 q2) (ux_v1 q2 hq))⟩⟩
-- Model.beginsToStart 
def p_228_31 (x1 : Int32) (z0 : Int32) (M : ux_M) : Prop := (z0 ≤ 0 → p_181 x1 M) ∧ (¬ z0 ≤ 0 → vp_in 0 1084 ∧ ux_u x1 35)
noncomputable def m_228_31 (x1 : Int32) (z0 : Int32) (M : ux_M) : ux_M := if z0 ≤ 0 then (m_181 x1 M) else (let M4 : ux_M := ux_put M x1 35 ((M 5 844257 0 (0 : Int32).toNatClampNeg) + z0); M4)
def p_228 (x1 : Int32) (M : ux_M) : Prop := p_190 x1 1 M ∧ p_229 x1 (m_190 x1 1 M) ∧ ux_u x1 0 ∧ (¬ ((ux_of (m_229 x1 (m_190 x1 1 M)) x1 0) : Int32) = 0 → p_228_31 x1 (0 : Int32) (m_229 x1 (m_190 x1 1 M))) ∧ (((ux_of (m_229 x1 (m_190 x1 1 M)) x1 0) : Int32) = 0 → ux_u x1 10 ∧ p_228_31 x1 (ux_of (m_229 x1 (m_190 x1 1 M)) x1 10) (m_229 x1 (m_190 x1 1 M)))
noncomputable def m_228 (x1 : Int32) (M : ux_M) : ux_M := if ((ux_of (m_229 x1 (m_190 x1 1 M)) x1 0) : Int32) = 0 then (m_228_31 x1 (ux_of (m_229 x1 (m_190 x1 1 M)) x1 10) (m_229 x1 (m_190 x1 1 M))) else (m_228_31 x1 (0 : Int32) (m_229 x1 (m_190 x1 1 M)))
theorem sa_228_31 {l : Launch} {E : ux_E} (hS : ux_SpecOK l E ux_chs) {d : Nat} (x1 : Int32) (z0 : Int32) (M : ux_M) {Q : Option ux_V → ux_M → Prop} (h : p_228_31 x1 z0 M) (hq : Q none (m_228_31 x1 z0 M)) : ux_At l E (d + 32) y_228 31 [some (.inr (.inr (5, 819253, 0))), some (.inl x1), none] [.inl z0] M Q := w_228_31 hS (d := d + 31) x1 z0 M ⟨fun q1 => (sf_181 hS x1 _ (h.1 q1) (ux_v1 q1 hq)), fun q1 => ⟨(h.2 q1).1, ⟨(h.2 q1).2, (fun M4 e_M4 => by subst e_M4; exact (ux_v0 q1 hq))⟩⟩⟩
theorem sf_228 {l : Launch} {E : ux_E} (hS : ux_SpecOK l E ux_chs) {d : Nat} (x1 : Int32) (M : ux_M) {Q : ux_M → Prop} (h : p_228 x1 M) (hq0 : Q (m_228 x1 M)) : ux_Call l E (d + 32) y_228 [.inr (.inr (5, 819253, 0)), .inl x1] M (ux_CV Q) := by
  have hq : (ux_CV Q) none (m_228 x1 M) := ⟨rfl, hq0⟩
  exact c_228 hS (d := d + 31) x1 M (sf_190 hS x1 1 _ h.1 (sf_229 hS x1 _ h.2.1 ⟨h.2.2.1, ⟨fun q2 => (sa_228_31 hS x1 (0 : Int32) _ (h.2.2.2.1 q2) (ux_v0 q2 hq)), fun q2 => ⟨(h.2.2.2.2 q2).1, (sa_228_31 hS x1 (ux_of (m_229 x1 (m_190 x1 1 M)) x1 10) _ (h.2.2.2.2 q2).2 (ux_v1 q2 hq))⟩⟩⟩))
-- Model.runsStart 
def p_224 (x1 : Int32) (x2 : Int32) (M : ux_M) : Prop := (¬ x2 = 2 → (¬ x2 = 1 → p_225 x1 M ∧ (¬ (r_225 x1 M) = 0 → ux_u x1 0 ∧ (¬ ((ux_of M x1 0) : Int32) = 0 → ux_u x1 30 ∧ ∀ M8 : ux_M, M8 = ux_put M x1 30 1 → p_228 x1 M8) ∧ (((ux_of M x1 0) : Int32) = 0 → p_226 x1 M ∧ ux_u x1 17 ∧ ((r_226 x1 M) < (ux_of M x1 17) → ux_u x1 30 ∧ ∀ M16 : ux_M, M16 = ux_put M x1 30 1 → p_228 x1 M16) ∧ (¬ (r_226 x1 M) < (ux_of M x1 17) → p_227 x1 M))) ∧ ((r_225 x1 M) = 0 → ux_u x1 29 ∧ ∀ M22 : ux_M, M22 = ux_put M x1 29 0 → ux_u x1 30 ∧ ∀ M23 : ux_M, M23 = ux_put M22 x1 30 0 → ux_u x1 41 ∧ ∀ M24 : ux_M, M24 = ux_put M23 x1 41 2 → p_189 x1 M24 ∧ p_186 x1 (m_189 x1 M24))) ∧ (x2 = 1 → ux_u x1 30)) ∧ (x2 = 2 → ux_u x1 29 ∧ ∀ M34 : ux_M, M34 = ux_put M x1 29 0 → ux_u x1 30 ∧ ∀ M35 : ux_M, M35 = ux_put M34 x1 30 0 → ux_u x1 41)
noncomputable def m_224 (x1 : Int32) (x2 : Int32) (M : ux_M) : ux_M := if x2 = 2 then (let M34 : ux_M := ux_put M x1 29 0; let M35 : ux_M := ux_put M34 x1 30 0; let M36 : ux_M := ux_put M35 x1 41 0; M36) else (if x2 = 1 then (let M32 : ux_M := ux_put M x1 30 1; M32) else (if (r_225 x1 M) = 0 then (let M22 : ux_M := ux_put M x1 29 0; let M23 : ux_M := ux_put M22 x1 30 0; let M24 : ux_M := ux_put M23 x1 41 2; (m_186 x1 (m_189 x1 M24))) else (if ((ux_of M x1 0) : Int32) = 0 then (if (r_226 x1 M) < (ux_of M x1 17) then (let M16 : ux_M := ux_put M x1 30 1; (m_228 x1 M16)) else (m_227 x1 M)) else (let M8 : ux_M := ux_put M x1 30 1; (m_228 x1 M8)))))
theorem sf_224 {l : Launch} {E : ux_E} (hS : ux_SpecOK l E ux_chs) {d : Nat} (x1 : Int32) (x2 : Int32) (M : ux_M) {Q : ux_M → Prop} (h : p_224 x1 x2 M) (hq0 : Q (m_224 x1 x2 M)) : ux_Call l E (d + 33) y_224 [.inr (.inr (5, 819253, 0)), .inl x1, .inl x2] M (ux_CV Q) := by
  have hq : (ux_CV Q) none (m_224 x1 x2 M) := ⟨rfl, hq0⟩
  exact c_224 hS (d := d + 31) x1 x2 M ⟨fun q1 => ⟨fun q2 => (sf_225 hS x1 _ ((h.1 q1).1 q2).1 ⟨fun q3 => ⟨(((h.1 q1).1 q2).2.1 q3).1, ⟨fun q4 => ⟨((((h.1 q1).1 q2).2.1 q3).2.1 q4).1, (fun M8 e_M8 => by subst e_M8; exact (sf_228 hS x1 _ (((((h.1 q1).1 q2).2.1 q3).2.1 q4).2 _ rfl) (ux_v0 q4 (ux_v0 q3 (ux_v0 q2 (ux_v0 q1 hq))))))⟩, fun q4 => (sf_226 hS x1 _ ((((h.1 q1).1 q2).2.1 q3).2.2 q4).1 ⟨((((h.1 q1).1 q2).2.1 q3).2.2 q4).2.1, ⟨fun q5 => ⟨(((((h.1 q1).1 q2).2.1 q3).2.2 q4).2.2.1 q5).1, (fun M16 e_M16 => by subst e_M16; exact (sf_228 hS x1 _ ((((((h.1 q1).1 q2).2.1 q3).2.2 q4).2.2.1 q5).2 _ rfl) (ux_v1 q5 (ux_v1 q4 (ux_v0 q3 (ux_v0 q2 (ux_v0 q1 hq)))))))⟩, fun q5 => (sf_227 hS x1 _ (((((h.1 q1).1 q2).2.1 q3).2.2 q4).2.2.2 q5) (ux_v0 q5 (ux_v1 q4 (ux_v0 q3 (ux_v0 q2 (ux_v0 q1 hq))))))⟩⟩)⟩⟩, fun q3 => ⟨(((h.1 q1).1 q2).2.2 q3).1, (fun M22 e_M22 => by subst e_M22; exact ⟨((((h.1 q1).1 q2).2.2 q3).2 _ rfl).1, (fun M23 e_M23 => by subst e_M23; exact ⟨(((((h.1 q1).1 q2).2.2 q3).2 _ rfl).2 _ rfl).1, (fun M24 e_M24 => by subst e_M24; exact (sf_189 hS x1 _ ((((((h.1 q1).1 q2).2.2 q3).2 _ rfl).2 _ rfl).2 _ rfl).1 (sf_186 hS x1 _ ((((((h.1 q1).1 q2).2.2 q3).2 _ rfl).2 _ rfl).2 _ rfl).2 (ux_v1 q3 (ux_v0 q2 (ux_v0 q1 hq))))))⟩)⟩)⟩⟩), fun q2 => ⟨((h.1 q1).2 q2), (fun M32 e_M32 => by subst e_M32; exact (ux_v1 q2 (ux_v0 q1 hq)))⟩⟩, fun q1 => ⟨(h.2 q1).1, (fun M34 e_M34 => by subst e_M34; exact ⟨((h.2 q1).2 _ rfl).1, (fun M35 e_M35 => by subst e_M35; exact ⟨(((h.2 q1).2 _ rfl).2 _ rfl), (fun M36 e_M36 => by subst e_M36; exact (ux_v1 q1 hq))⟩)⟩)⟩⟩
-- Model.runsJobs 
def p_218_10 (kp2 : Int32 → ux_M → Prop) : Nat → Int32 → Int32 → ux_M → Prop
  | 0, _, _, _ => False
  | f + 1, x1, x2, M => vp_in 1 1084 ∧ (((M 5 844257 0 (1 : Int32).toNatClampNeg) : Int32) ≤ x2 → kp2 x1 M) ∧ (¬ ((M 5 844257 0 (1 : Int32).toNatClampNeg) : Int32) ≤ x2 → ux_u x2 29 ∧ (((ux_of M x2 29) : Int32) = 0 → p_218_10 kp2 f x1 (x2 + 1) M) ∧ (¬ ((ux_of M x2 29) : Int32) = 0 → ux_u x2 30 ∧ (((ux_of M x2 30) : Int32) = 1 → p_218_10 kp2 f x1 (x2 + 1) M) ∧ (¬ ((ux_of M x2 30) : Int32) = 1 → p_219 x2 M ∧ (¬ (r_219 x2 M) = 0 → ux_u x2 28 ∧ ux_u x2 29 ∧ (¬ ((ux_of M x2 29) : Int32) = 2 → ux_u x2 29 ∧ (¬ ((ux_of M x2 29) : Int32) = 3 → p_224 x2 (ux_of M x2 28) M ∧ p_218_10 kp2 f (1 : Int32) (x2 + 1) (m_224 x2 (ux_of M x2 28) M)) ∧ (((ux_of M x2 29) : Int32) = 3 → p_223 x2 (ux_of M x2 28) M ∧ p_218_10 kp2 f (1 : Int32) (x2 + 1) (m_223 x2 (ux_of M x2 28) M))) ∧ (((ux_of M x2 29) : Int32) = 2 → p_221 x2 (ux_of M x2 28) M ∧ p_218_10 kp2 f (1 : Int32) (x2 + 1) (m_221 x2 (ux_of M x2 28) M))) ∧ ((r_219 x2 M) = 0 → p_218_10 kp2 f x1 (x2 + 1) M))))
noncomputable def m_218_10 (km2 : Int32 → ux_M → ux_M) : Nat → Int32 → Int32 → ux_M → ux_M
  | 0, _, _, M => M
  | f + 1, x1, x2, M => if ((M 5 844257 0 (1 : Int32).toNatClampNeg) : Int32) ≤ x2 then (km2 x1 M) else (if ((ux_of M x2 29) : Int32) = 0 then (m_218_10 km2 f x1 (x2 + 1) M) else (if ((ux_of M x2 30) : Int32) = 1 then (m_218_10 km2 f x1 (x2 + 1) M) else (if (r_219 x2 M) = 0 then (m_218_10 km2 f x1 (x2 + 1) M) else (if ((ux_of M x2 29) : Int32) = 2 then (m_218_10 km2 f (1 : Int32) (x2 + 1) (m_221 x2 (ux_of M x2 28) M)) else (if ((ux_of M x2 29) : Int32) = 3 then (m_218_10 km2 f (1 : Int32) (x2 + 1) (m_223 x2 (ux_of M x2 28) M)) else (m_218_10 km2 f (1 : Int32) (x2 + 1) (m_224 x2 (ux_of M x2 28) M)))))))
def p_218_2 : Nat → Int32 → ux_M → Prop
  | 0, _, _ => False
  | f + 1, x1, M => (x1 = 0 → True) ∧ (¬ x1 = 0 → p_218_10 (fun a0 a1 => p_218_2 f a0 a1) ux_fuel (0 : Int32) (0 : Int32) M)
noncomputable def m_218_2 : Nat → Int32 → ux_M → ux_M
  | 0, _, M => M
  | f + 1, x1, M => if x1 = 0 then M else (m_218_10 (fun a0 a1 => m_218_2 f a0 a1) ux_fuel (0 : Int32) (0 : Int32) M)
def p_218  (M : ux_M) : Prop := p_218_2 ux_fuel (1 : Int32) M
noncomputable def m_218  (M : ux_M) : ux_M := m_218_2 ux_fuel (1 : Int32) M
theorem sa_218_10 {l : Launch} {E : ux_E} (hS : ux_SpecOK l E ux_chs) {d : Nat} {Q : Option ux_V → ux_M → Prop} (kp2 : Int32 → ux_M → Prop) (km2 : Int32 → ux_M → ux_M) (hk2 : ∀ (x1 : Int32) (M : ux_M), kp2 x1 M → Q none (km2 x1 M) → ux_At l E (d + 34) y_218 2 [some (.inr (.inr (5, 819253, 0))), some (.inl x1), none, none] [] M Q) (f : Nat) (x1 : Int32) (x2 : Int32) (M : ux_M) (h : p_218_10 kp2 f x1 x2 M) (hq : Q none (m_218_10 km2 f x1 x2 M)) : ux_At l E (d + 34) y_218 10 [some (.inr (.inr (5, 819253, 0))), some (.inl x1), some (.inl x2), none] [] M Q := by
  induction f generalizing x1 x2 M with
  | zero => exact h.elim
  | succ f ih => exact w_218_10 hS (d := d + 33) x1 x2 M ⟨h.1, ⟨fun q1 => (hk2 x1 _ (h.2.1 q1) (ux_v1 q1 hq)), fun q1 => ⟨(h.2.2 q1).1, ⟨fun q2 => (ih x1 (x2 + 1) _ ((h.2.2 q1).2.1 q2) (ux_v1 q2 (ux_v0 q1 hq))), fun q2 => ⟨((h.2.2 q1).2.2 q2).1, ⟨fun q3 => (ih x1 (x2 + 1) _ (((h.2.2 q1).2.2 q2).2.1 q3) (ux_v1 q3 (ux_v0 q2 (ux_v0 q1 hq)))), fun q3 => (sf_219 hS x2 _ (((h.2.2 q1).2.2 q2).2.2 q3).1 ⟨fun q4 => ⟨((((h.2.2 q1).2.2 q2).2.2 q3).2.1 q4).1, ⟨((((h.2.2 q1).2.2 q2).2.2 q3).2.1 q4).2.1, ⟨fun q5 => ⟨(((((h.2.2 q1).2.2 q2).2.2 q3).2.1 q4).2.2.1 q5).1, ⟨fun q6 => (sf_224 hS x2 (ux_of M x2 28) _ ((((((h.2.2 q1).2.2 q2).2.2 q3).2.1 q4).2.2.1 q5).2.1 q6).1 (ih (1 : Int32) (x2 + 1) _ ((((((h.2.2 q1).2.2 q2).2.2 q3).2.1 q4).2.2.1 q5).2.1 q6).2 (ux_v0 q6 (ux_v0 q5 (ux_v0 q4 (ux_v0 q3 (ux_v0 q2 (ux_v0 q1 hq)))))))), fun q6 => (sf_223 hS x2 (ux_of M x2 28) _ ((((((h.2.2 q1).2.2 q2).2.2 q3).2.1 q4).2.2.1 q5).2.2 q6).1 (ih (1 : Int32) (x2 + 1) _ ((((((h.2.2 q1).2.2 q2).2.2 q3).2.1 q4).2.2.1 q5).2.2 q6).2 (ux_v1 q6 (ux_v0 q5 (ux_v0 q4 (ux_v0 q3 (ux_v0 q2 (ux_v0 q1 hq))))))))⟩⟩, fun q5 => (sf_221 hS x2 (ux_of M x2 28) _ (((((h.2.2 q1).2.2 q2).2.2 q3).2.1 q4).2.2.2 q5).1 (ih (1 : Int32) (x2 + 1) _ (((((h.2.2 q1).2.2 q2).2.2 q3).2.1 q4).2.2.2 q5).2 (ux_v1 q5 (ux_v0 q4 (ux_v0 q3 (ux_v0 q2 (ux_v0 q1 hq)))))))⟩⟩⟩, fun q4 => (ih x1 (x2 + 1) _ ((((h.2.2 q1).2.2 q2).2.2 q3).2.2 q4) (ux_v1 q4 (ux_v0 q3 (ux_v0 q2 (ux_v0 q1 hq)))))⟩)⟩⟩⟩⟩⟩⟩
theorem sa_218_2 {l : Launch} {E : ux_E} (hS : ux_SpecOK l E ux_chs) {d : Nat} {Q : Option ux_V → ux_M → Prop} (f : Nat) (x1 : Int32) (M : ux_M) (h : p_218_2 f x1 M) (hq : Q none (m_218_2 f x1 M)) : ux_At l E (d + 34) y_218 2 [some (.inr (.inr (5, 819253, 0))), some (.inl x1), none, none] [] M Q := by
  induction f generalizing x1 M with
  | zero => exact h.elim
  | succ f ih => exact w_218_2 hS (d := d + 33) x1 M ⟨fun q7 => (ux_v1 q7 hq), fun q7 => (sa_218_10 hS (fun a0 a1 => p_218_2 f a0 a1) (fun a0 a1 => m_218_2 f a0 a1) (fun a0 a1 h0 q0 => ih a0 a1 h0 q0) ux_fuel (0 : Int32) (0 : Int32) _ (h.2 q7) (ux_v0 q7 hq))⟩
theorem sf_218 {l : Launch} {E : ux_E} (hS : ux_SpecOK l E ux_chs) {d : Nat}  (M : ux_M) {Q : ux_M → Prop} (h : p_218  M) (hq0 : Q (m_218  M)) : ux_Call l E (d + 34) y_218 [.inr (.inr (5, 819253, 0))] M (ux_CV Q) := by
  have hq : (ux_CV Q) none (m_218  M) := ⟨rfl, hq0⟩
  exact c_218 hS (d := d + 33)  M (sa_218_2 hS ux_fuel (1 : Int32) _ h hq)
-- Model.ticks 
def p_177_12 : Nat → Int32 → ux_M → Prop
  | 0, _, _ => False
  | f + 1, x1, M => vp_in 1 1084 ∧ (((M 5 844257 0 (1 : Int32).toNatClampNeg) : Int32) ≤ x1 → p_218 M) ∧ (¬ ((M 5 844257 0 (1 : Int32).toNatClampNeg) : Int32) ≤ x1 → p_178 x1 M ∧ vp_in 0 1084 ∧ (¬ (r_178 x1 M) = (M 5 844257 0 (0 : Int32).toNatClampNeg) → p_177_12 f (x1 + 1) M) ∧ ((r_178 x1 M) = (M 5 844257 0 (0 : Int32).toNatClampNeg) → p_180 x1 M ∧ p_177_12 f (x1 + 1) (m_180 x1 M)))
noncomputable def m_177_12 : Nat → Int32 → ux_M → ux_M
  | 0, _, M => M
  | f + 1, x1, M => if ((M 5 844257 0 (1 : Int32).toNatClampNeg) : Int32) ≤ x1 then (m_218 M) else (if (r_178 x1 M) = (M 5 844257 0 (0 : Int32).toNatClampNeg) then (m_177_12 f (x1 + 1) (m_180 x1 M)) else (m_177_12 f (x1 + 1) M))
def p_177  (M : ux_M) : Prop := vp_in 0 1084 ∧ vp_in 0 1084 ∧ ∀ M1 : ux_M, M1 = ux_set M 5 844257 0 (0 : Int32).toNatClampNeg ((M 5 844257 0 (0 : Int32).toNatClampNeg) + (1 : Int32)) → p_177_12 ux_fuel (0 : Int32) M1
noncomputable def m_177  (M : ux_M) : ux_M := let M1 : ux_M := ux_set M 5 844257 0 (0 : Int32).toNatClampNeg ((M 5 844257 0 (0 : Int32).toNatClampNeg) + (1 : Int32)); m_177_12 ux_fuel (0 : Int32) M1
theorem sa_177_12 {l : Launch} {E : ux_E} (hS : ux_SpecOK l E ux_chs) {d : Nat} {Q : Option ux_V → ux_M → Prop} (f : Nat) (x1 : Int32) (M : ux_M) (h : p_177_12 f x1 M) (hq : Q none (m_177_12 f x1 M)) : ux_At l E (d + 35) y_177 12 [some (.inr (.inr (5, 819253, 0))), some (.inl x1)] [] M Q := by
  induction f generalizing x1 M with
  | zero => exact h.elim
  | succ f ih => exact w_177_12 hS (d := d + 34) x1 M ⟨h.1, ⟨fun q1 => (sf_218 hS  _ (h.2.1 q1) (ux_v1 q1 hq)), fun q1 => (sf_178 hS x1 _ (h.2.2 q1).1 ⟨(h.2.2 q1).2.1, ⟨fun q2 => (ih (x1 + 1) _ ((h.2.2 q1).2.2.1 q2) (ux_v0 q2 (ux_v0 q1 hq))), fun q2 => (sf_180 hS x1 _ ((h.2.2 q1).2.2.2 q2).1 (ih (x1 + 1) _ ((h.2.2 q1).2.2.2 q2).2 (ux_v1 q2 (ux_v0 q1 hq))))⟩⟩)⟩⟩
theorem sf_177 {l : Launch} {E : ux_E} (hS : ux_SpecOK l E ux_chs) {d : Nat}  (M : ux_M) {Q : ux_M → Prop} (h : p_177  M) (hq0 : Q (m_177  M)) : ux_Call l E (d + 35) y_177 [.inr (.inr (5, 819253, 0))] M (ux_CV Q) := by
  have hq : (ux_CV Q) none (m_177  M) := ⟨rfl, hq0⟩
  exact c_177 hS (d := d + 34)  M ⟨h.1, ⟨h.2.1, (fun M1 e_M1 => by subst e_M1; exact (sa_177_12 hS ux_fuel (0 : Int32) _ (h.2.2 _ rfl) hq))⟩⟩
-- Model.advance 
def p_175_51 : Nat → Int32 → Int32 → ux_M → Prop
  | 0, _, _, _ => False
  | f + 1, x1, x2, M => (x1 ≤ x2 → vp_in 0 1084) ∧ (¬ x1 ≤ x2 → p_177 M ∧ p_175_51 f x1 (x2 + 1) (m_177 M))
noncomputable def r_175_51 : Nat → Int32 → Int32 → ux_M → Int32
  | 0, _, _, _ => 0
  | f + 1, x1, x2, M => if x1 ≤ x2 then (M 5 844257 0 (0 : Int32).toNatClampNeg) else (r_175_51 f x1 (x2 + 1) (m_177 M))
noncomputable def m_175_51 : Nat → Int32 → Int32 → ux_M → ux_M
  | 0, _, _, M => M
  | f + 1, x1, x2, M => if x1 ≤ x2 then M else (m_175_51 f x1 (x2 + 1) (m_177 M))
def p_175_23 (x1 : Int32) (z0 : Int32) (M : ux_M) : Prop := p_176 z0 1 M ∧ ((r_176 z0 1 M) = 0 → vp_in 0 1084 ∧ (((((m_176 z0 1 M) 5 844257 0 (0 : Int32).toNatClampNeg) + x1) : Int32) ≤ 1000000 → p_175_51 ux_fuel x1 (0 : Int32) (m_176 z0 1 M)) ∧ (¬ ((((m_176 z0 1 M) 5 844257 0 (0 : Int32).toNatClampNeg) + x1) : Int32) ≤ 1000000 → True)) ∧ (¬ (r_176 z0 1 M) = 0 → True)
noncomputable def r_175_23 (x1 : Int32) (z0 : Int32) (M : ux_M) : Int32 := if (r_176 z0 1 M) = 0 then (if ((((m_176 z0 1 M) 5 844257 0 (0 : Int32).toNatClampNeg) + x1) : Int32) ≤ 1000000 then (r_175_51 ux_fuel x1 (0 : Int32) (m_176 z0 1 M)) else (-2)) else 0
noncomputable def m_175_23 (x1 : Int32) (z0 : Int32) (M : ux_M) : ux_M := if (r_176 z0 1 M) = 0 then (if ((((m_176 z0 1 M) 5 844257 0 (0 : Int32).toNatClampNeg) + x1) : Int32) ≤ 1000000 then (m_175_51 ux_fuel x1 (0 : Int32) (m_176 z0 1 M)) else (m_176 z0 1 M)) else (m_176 z0 1 M)
def p_175 (x1 : Int32) (M : ux_M) : Prop := ∀ M1 : ux_M, M1 = ux_set M 5 819253 0 6 0 → (¬ (((lg_cmp ((x1 : Int32).toInt64) ((1 : Int32).toInt64)) : Int32) < 0) ∧ (¬ ((0 : Int32) < (lg_cmp ((x1 : Int32).toInt64) (Int64.ofNat 1000)))) → p_175_23 x1 (0 : Int32) M1) ∧ (¬ (¬ (((lg_cmp ((x1 : Int32).toInt64) ((1 : Int32).toInt64)) : Int32) < 0) ∧ (¬ ((0 : Int32) < (lg_cmp ((x1 : Int32).toInt64) (Int64.ofNat 1000))))) → p_175_23 x1 (1 : Int32) M1)
noncomputable def r_175 (x1 : Int32) (M : ux_M) : Int32 := let M1 : ux_M := ux_set M 5 819253 0 6 0; if ¬ (((lg_cmp ((x1 : Int32).toInt64) ((1 : Int32).toInt64)) : Int32) < 0) ∧ (¬ ((0 : Int32) < (lg_cmp ((x1 : Int32).toInt64) (Int64.ofNat 1000)))) then (r_175_23 x1 (0 : Int32) M1) else (r_175_23 x1 (1 : Int32) M1)
noncomputable def m_175 (x1 : Int32) (M : ux_M) : ux_M := let M1 : ux_M := ux_set M 5 819253 0 6 0; if ¬ (((lg_cmp ((x1 : Int32).toInt64) ((1 : Int32).toInt64)) : Int32) < 0) ∧ (¬ ((0 : Int32) < (lg_cmp ((x1 : Int32).toInt64) (Int64.ofNat 1000)))) then (m_175_23 x1 (0 : Int32) M1) else (m_175_23 x1 (1 : Int32) M1)
theorem sa_175_51 {l : Launch} {E : ux_E} (hS : ux_SpecOK l E ux_chs) {d : Nat} {Q : Option ux_V → ux_M → Prop} (f : Nat) (x1 : Int32) (x2 : Int32) (M : ux_M) (h : p_175_51 f x1 x2 M) (hq : Q (some (.inl (r_175_51 f x1 x2 M))) (m_175_51 f x1 x2 M)) : ux_At l E (d + 36) y_175 51 [some (.inr (.inr (5, 819253, 0))), some (.inl x1), some (.inl x2)] [] M Q := by
  induction f generalizing x1 x2 M with
  | zero => exact h.elim
  | succ f ih => exact w_175_51 hS (d := d + 35) x1 x2 M ⟨fun q1 => ⟨(h.1 q1), (ux_rm1 q1 hq)⟩, fun q1 => (sf_177 hS  _ (h.2 q1).1 (ih x1 (x2 + 1) _ (h.2 q1).2 (ux_rm0 q1 hq)))⟩
theorem sa_175_23 {l : Launch} {E : ux_E} (hS : ux_SpecOK l E ux_chs) {d : Nat} (x1 : Int32) (z0 : Int32) (M : ux_M) {Q : Option ux_V → ux_M → Prop} (h : p_175_23 x1 z0 M) (hq : Q (some (.inl (r_175_23 x1 z0 M))) (m_175_23 x1 z0 M)) : ux_At l E (d + 36) y_175 23 [some (.inr (.inr (5, 819253, 0))), some (.inl x1), none] [.inl z0, .inr (.inr (5, 819253, 0))] M Q := w_175_23 hS (d := d + 35) x1 z0 M (sf_176 hS z0 1 _ h.1 ⟨fun q2 => ⟨(h.2.1 q2).1, ⟨fun q3 => (sa_175_51 hS ux_fuel x1 (0 : Int32) _ ((h.2.1 q2).2.1 q3) (ux_rm1 q3 (ux_rm1 q2 hq))), fun q3 => (ux_rm0 q3 (ux_rm1 q2 hq))⟩⟩, fun q2 => (ux_rm0 q2 hq)⟩)
theorem sf_175 {l : Launch} {E : ux_E} (hS : ux_SpecOK l E ux_chs) {d : Nat} (x1 : Int32) (M : ux_M) {Q : Int32 → ux_M → Prop} (h : p_175 x1 M) (hq0 : Q (r_175 x1 M) (m_175 x1 M)) : ux_Call l E (d + 36) y_175 [.inr (.inr (5, 819253, 0)), .inl x1] M (ux_CI Q) := by
  have hq : (ux_CI Q) (some (.inl (r_175 x1 M))) (m_175 x1 M) := ⟨_, rfl, hq0⟩
  exact c_175 hS (d := d + 35) x1 M (fun M1 e_M1 => by subst e_M1; exact ⟨fun q4 => (sa_175_23 hS x1 (0 : Int32) _ ((h _ rfl).1 q4) (ux_rm1 q4 hq)), fun q4 => (sa_175_23 hS x1 (1 : Int32) _ ((h _ rfl).2 q4) (ux_rm0 q4 hq))⟩)
-- Model.own 
def p_231 (x1 : Int32) (M : ux_M) : Prop := ∀ M1 : ux_M, M1 = ux_set M 5 819253 0 6 0 → vp_in x1 1084
noncomputable def r_231 (x1 : Int32) (M : ux_M) : Int32 := let M1 : ux_M := ux_set M 5 819253 0 6 0; (M1 5 844257 0 (x1 : Int32).toNatClampNeg)
noncomputable def m_231 (x1 : Int32) (M : ux_M) : ux_M := let M1 : ux_M := ux_set M 5 819253 0 6 0; M1
theorem sf_231 {l : Launch} {E : ux_E} (hS : ux_SpecOK l E ux_chs) {d : Nat} (x1 : Int32) (M : ux_M) {Q : Int32 → ux_M → Prop} (h : p_231 x1 M) (hq0 : Q (r_231 x1 M) (m_231 x1 M)) : ux_Call l E d y_231 [.inr (.inr (5, 819253, 0)), .inl x1] M (ux_CI Q) := by
  have hq : (ux_CI Q) (some (.inl (r_231 x1 M))) (m_231 x1 M) := ⟨_, rfl, hq0⟩
  exact c_231 hS x1 M (fun M1 e_M1 => by subst e_M1; exact ⟨(h _ rfl), hq⟩)
-- Model.time 
def p_230  (M : ux_M) : Prop := ∀ M1 : ux_M, M1 = ux_set M 5 819253 0 6 0 → vp_in 0 1084
noncomputable def r_230  (M : ux_M) : Int32 := let M1 : ux_M := ux_set M 5 819253 0 6 0; (M1 5 844257 0 (0 : Int32).toNatClampNeg)
noncomputable def m_230  (M : ux_M) : ux_M := let M1 : ux_M := ux_set M 5 819253 0 6 0; M1
theorem sf_230 {l : Launch} {E : ux_E} (hS : ux_SpecOK l E ux_chs) {d : Nat}  (M : ux_M) {Q : Int32 → ux_M → Prop} (h : p_230  M) (hq0 : Q (r_230  M) (m_230  M)) : ux_Call l E (d + 1) y_230 [.inr (.inr (5, 819253, 0))] M (ux_CI Q) := by
  have hq : (ux_CI Q) (some (.inl (r_230  M))) (m_230  M) := ⟨_, rfl, hq0⟩
  exact c_230 hS  M (fun M1 e_M1 => by subst e_M1; exact ⟨(h _ rfl), hq⟩)
-- Model.unitCount 
def p_232  (M : ux_M) : Prop := ∀ M1 : ux_M, M1 = ux_set M 5 819253 0 6 0 → vp_in 1 1084
noncomputable def r_232  (M : ux_M) : Int32 := let M1 : ux_M := ux_set M 5 819253 0 6 0; (M1 5 844257 0 (1 : Int32).toNatClampNeg)
noncomputable def m_232  (M : ux_M) : ux_M := let M1 : ux_M := ux_set M 5 819253 0 6 0; M1
theorem sf_232 {l : Launch} {E : ux_E} (hS : ux_SpecOK l E ux_chs) {d : Nat}  (M : ux_M) {Q : Int32 → ux_M → Prop} (h : p_232  M) (hq0 : Q (r_232  M) (m_232  M)) : ux_Call l E (d + 1) y_232 [.inr (.inr (5, 819253, 0))] M (ux_CI Q) := by
  have hq : (ux_CI Q) (some (.inl (r_232  M))) (m_232  M) := ⟨_, rfl, hq0⟩
  exact c_232 hS  M (fun M1 e_M1 => by subst e_M1; exact ⟨(h _ rfl), hq⟩)
-- Model.noUnit 
def p_235 (x1 : Int32) (M : ux_M) : Prop := ∀ M1 : ux_M, M1 = ux_set M 5 819253 0 6 0 → vp_in 1 1084 ∧ (¬ (((lg_cmp ((x1 : Int32).toInt64) ((0 : Int32).toInt64)) : Int32) < 0) ∧ (¬ ((0 : Int32) < (lg_cmp ((x1 : Int32).toInt64) ((((M1 5 844257 0 (1 : Int32).toNatClampNeg) - (1 : Int32)) : Int32).toInt64)))) → p_176 0 1 M1 ∧ ((r_176 0 1 M1) = 0 ∨ (r_176 0 1 M1) = 1)) ∧ (¬ (¬ (((lg_cmp ((x1 : Int32).toInt64) ((0 : Int32).toInt64)) : Int32) < 0) ∧ (¬ ((0 : Int32) < (lg_cmp ((x1 : Int32).toInt64) ((((M1 5 844257 0 (1 : Int32).toNatClampNeg) - (1 : Int32)) : Int32).toInt64))))) → p_176 1 1 M1 ∧ ((r_176 1 1 M1) = 0 ∨ (r_176 1 1 M1) = 1))
noncomputable def r_235 (x1 : Int32) (M : ux_M) : Int32 := let M1 : ux_M := ux_set M 5 819253 0 6 0; if ¬ (((lg_cmp ((x1 : Int32).toInt64) ((0 : Int32).toInt64)) : Int32) < 0) ∧ (¬ ((0 : Int32) < (lg_cmp ((x1 : Int32).toInt64) ((((M1 5 844257 0 (1 : Int32).toNatClampNeg) - (1 : Int32)) : Int32).toInt64)))) then (r_176 0 1 M1) else (r_176 1 1 M1)
noncomputable def m_235 (x1 : Int32) (M : ux_M) : ux_M := let M1 : ux_M := ux_set M 5 819253 0 6 0; if ¬ (((lg_cmp ((x1 : Int32).toInt64) ((0 : Int32).toInt64)) : Int32) < 0) ∧ (¬ ((0 : Int32) < (lg_cmp ((x1 : Int32).toInt64) ((((M1 5 844257 0 (1 : Int32).toNatClampNeg) - (1 : Int32)) : Int32).toInt64)))) then (m_176 0 1 M1) else (m_176 1 1 M1)
theorem sf_235 {l : Launch} {E : ux_E} (hS : ux_SpecOK l E ux_chs) {d : Nat} (x1 : Int32) (M : ux_M) {Q : Int32 → ux_M → Prop} (h : p_235 x1 M) (hq0 : Q (r_235 x1 M) (m_235 x1 M)) : ux_Call l E (d + 1) y_235 [.inr (.inr (5, 819253, 0)), .inl x1] M (ux_CI Q) := by
  have hq : (ux_CI Q) (some (.inl (r_235 x1 M))) (m_235 x1 M) := ⟨_, rfl, hq0⟩
  exact c_235 hS x1 M (fun M1 e_M1 => by subst e_M1; exact ⟨(h _ rfl).1, ⟨fun q1 => (sf_176 hS 0 1 _ ((h _ rfl).2.1 q1).1 ⟨((h _ rfl).2.1 q1).2, (ux_rm1 q1 hq)⟩), fun q1 => (sf_176 hS 1 1 _ ((h _ rfl).2.2 q1).1 ⟨((h _ rfl).2.2 q1).2, (ux_rm0 q1 hq)⟩)⟩⟩)
-- Model.told 
def p_234 (x1 : Int32) (x2 : Int32) (M : ux_M) : Prop := p_235 x1 M ∧ ((r_235 x1 M) = 0 → ux_u x1 x2) ∧ (¬ (r_235 x1 M) = 0 → True)
noncomputable def r_234 (x1 : Int32) (x2 : Int32) (M : ux_M) : Int32 := if (r_235 x1 M) = 0 then (ux_of (m_235 x1 M) x1 x2) else 0
noncomputable def m_234 (x1 : Int32) (x2 : Int32) (M : ux_M) : ux_M := if (r_235 x1 M) = 0 then (m_235 x1 M) else (m_235 x1 M)
theorem sf_234 {l : Launch} {E : ux_E} (hS : ux_SpecOK l E ux_chs) {d : Nat} (x1 : Int32) (x2 : Int32) (M : ux_M) {Q : Int32 → ux_M → Prop} (h : p_234 x1 x2 M) (hq0 : Q (r_234 x1 x2 M) (m_234 x1 x2 M)) : ux_Call l E (d + 2) y_234 [.inr (.inr (5, 819253, 0)), .inl x1, .inl x2] M (ux_CI Q) := by
  have hq : (ux_CI Q) (some (.inl (r_234 x1 x2 M))) (m_234 x1 x2 M) := ⟨_, rfl, hq0⟩
  exact c_234 hS (d := d + 1) x1 x2 M (sf_235 hS x1 _ h.1 ⟨fun q1 => ⟨(h.2.1 q1), (ux_rm1 q1 hq)⟩, fun q1 => (ux_rm0 q1 hq)⟩)
-- Model.kindOf 
def p_233 (x1 : Int32) (M : ux_M) : Prop := p_234 x1 0 M
noncomputable def r_233 (x1 : Int32) (M : ux_M) : Int32 := (r_234 x1 0 M)
noncomputable def m_233 (x1 : Int32) (M : ux_M) : ux_M := (m_234 x1 0 M)
theorem sf_233 {l : Launch} {E : ux_E} (hS : ux_SpecOK l E ux_chs) {d : Nat} (x1 : Int32) (M : ux_M) {Q : Int32 → ux_M → Prop} (h : p_233 x1 M) (hq0 : Q (r_233 x1 M) (m_233 x1 M)) : ux_Call l E (d + 3) y_233 [.inr (.inr (5, 819253, 0)), .inl x1] M (ux_CI Q) := by
  have hq : (ux_CI Q) (some (.inl (r_233 x1 M))) (m_233 x1 M) := ⟨_, rfl, hq0⟩
  exact c_233 hS (d := d + 2) x1 M (sf_234 hS x1 0 _ h hq)
-- Model.nameLetter 
def p_236 (x1 : Int32) (x2 : Int32) (M : ux_M) : Prop := p_235 x1 M ∧ ((r_235 x1 M) = 0 → ux_u x1 1 ∧ (¬ (¬ (((lg_cmp ((x2 : Int32).toInt64) ((0 : Int32).toInt64)) : Int32) < 0) ∧ (¬ ((0 : Int32) < (lg_cmp ((x2 : Int32).toInt64) ((((ux_of (m_235 x1 M) x1 1) - (1 : Int32)) : Int32).toInt64))))) → True) ∧ (¬ (((lg_cmp ((x2 : Int32).toInt64) ((0 : Int32).toInt64)) : Int32) < 0) ∧ (¬ ((0 : Int32) < (lg_cmp ((x2 : Int32).toInt64) ((((ux_of (m_235 x1 M) x1 1) - (1 : Int32)) : Int32).toInt64)))) → ux_u x1 ((2 : Int32) + x2))) ∧ (¬ (r_235 x1 M) = 0 → True)
noncomputable def r_236 (x1 : Int32) (x2 : Int32) (M : ux_M) : Int32 := if (r_235 x1 M) = 0 then (if ¬ (((lg_cmp ((x2 : Int32).toInt64) ((0 : Int32).toInt64)) : Int32) < 0) ∧ (¬ ((0 : Int32) < (lg_cmp ((x2 : Int32).toInt64) ((((ux_of (m_235 x1 M) x1 1) - (1 : Int32)) : Int32).toInt64)))) then (ux_of (m_235 x1 M) x1 ((2 : Int32) + x2)) else (-1)) else 0
noncomputable def m_236 (x1 : Int32) (x2 : Int32) (M : ux_M) : ux_M := if (r_235 x1 M) = 0 then (if ¬ (((lg_cmp ((x2 : Int32).toInt64) ((0 : Int32).toInt64)) : Int32) < 0) ∧ (¬ ((0 : Int32) < (lg_cmp ((x2 : Int32).toInt64) ((((ux_of (m_235 x1 M) x1 1) - (1 : Int32)) : Int32).toInt64)))) then (m_235 x1 M) else (m_235 x1 M)) else (m_235 x1 M)
theorem sf_236 {l : Launch} {E : ux_E} (hS : ux_SpecOK l E ux_chs) {d : Nat} (x1 : Int32) (x2 : Int32) (M : ux_M) {Q : Int32 → ux_M → Prop} (h : p_236 x1 x2 M) (hq0 : Q (r_236 x1 x2 M) (m_236 x1 x2 M)) : ux_Call l E (d + 2) y_236 [.inr (.inr (5, 819253, 0)), .inl x1, .inl x2] M (ux_CI Q) := by
  have hq : (ux_CI Q) (some (.inl (r_236 x1 x2 M))) (m_236 x1 x2 M) := ⟨_, rfl, hq0⟩
  exact c_236 hS (d := d + 1) x1 x2 M (sf_235 hS x1 _ h.1 ⟨fun q1 => ⟨(h.2.1 q1).1, ⟨fun q2 => (ux_rm0 q2 (ux_rm1 q1 hq)), fun q2 => ⟨((h.2.1 q1).2.2 q2), (ux_rm1 q2 (ux_rm1 q1 hq))⟩⟩⟩, fun q1 => (ux_rm0 q1 hq)⟩)
-- Model.toldOf 
def p_238 (x1 : Int32) (x2 : Int32) (x3 : Int32) (M : ux_M) : Prop := p_235 x1 M ∧ ((r_235 x1 M) = 0 → ux_u x1 0 ∧ (¬ ((ux_of (m_235 x1 M) x1 0) : Int32) = x2 → True) ∧ (((ux_of (m_235 x1 M) x1 0) : Int32) = x2 → ux_u x1 x3)) ∧ (¬ (r_235 x1 M) = 0 → True)
noncomputable def r_238 (x1 : Int32) (x2 : Int32) (x3 : Int32) (M : ux_M) : Int32 := if (r_235 x1 M) = 0 then (if ((ux_of (m_235 x1 M) x1 0) : Int32) = x2 then (ux_of (m_235 x1 M) x1 x3) else (-1)) else 0
noncomputable def m_238 (x1 : Int32) (x2 : Int32) (x3 : Int32) (M : ux_M) : ux_M := if (r_235 x1 M) = 0 then (if ((ux_of (m_235 x1 M) x1 0) : Int32) = x2 then (m_235 x1 M) else (m_235 x1 M)) else (m_235 x1 M)
theorem sf_238 {l : Launch} {E : ux_E} (hS : ux_SpecOK l E ux_chs) {d : Nat} (x1 : Int32) (x2 : Int32) (x3 : Int32) (M : ux_M) {Q : Int32 → ux_M → Prop} (h : p_238 x1 x2 x3 M) (hq0 : Q (r_238 x1 x2 x3 M) (m_238 x1 x2 x3 M)) : ux_Call l E (d + 2) y_238 [.inr (.inr (5, 819253, 0)), .inl x1, .inl x2, .inl x3] M (ux_CI Q) := by
  have hq : (ux_CI Q) (some (.inl (r_238 x1 x2 x3 M))) (m_238 x1 x2 x3 M) := ⟨_, rfl, hq0⟩
  exact c_238 hS (d := d + 1) x1 x2 x3 M (sf_235 hS x1 _ h.1 ⟨fun q1 => ⟨(h.2.1 q1).1, ⟨fun q2 => (ux_rm0 q2 (ux_rm1 q1 hq)), fun q2 => ⟨((h.2.1 q1).2.2 q2), (ux_rm1 q2 (ux_rm1 q1 hq))⟩⟩⟩, fun q1 => (ux_rm0 q1 hq)⟩)
-- Model.property 
def p_237_26 (x1 : Int32) (x2 : Int32) (z0 : Int32) (M : ux_M) : Prop := p_176 z0 2 M ∧ ((r_176 z0 2 M) = 0 → p_238 x1 0 ((10 : Int32) + x2) (m_176 z0 2 M)) ∧ (¬ (r_176 z0 2 M) = 0 → True)
noncomputable def r_237_26 (x1 : Int32) (x2 : Int32) (z0 : Int32) (M : ux_M) : Int32 := if (r_176 z0 2 M) = 0 then (r_238 x1 0 ((10 : Int32) + x2) (m_176 z0 2 M)) else 0
noncomputable def m_237_26 (x1 : Int32) (x2 : Int32) (z0 : Int32) (M : ux_M) : ux_M := if (r_176 z0 2 M) = 0 then (m_238 x1 0 ((10 : Int32) + x2) (m_176 z0 2 M)) else (m_176 z0 2 M)
def p_237 (x1 : Int32) (x2 : Int32) (M : ux_M) : Prop := p_235 x1 M ∧ (¬ (r_235 x1 M) = 0 → True) ∧ ((r_235 x1 M) = 0 → (¬ (((lg_cmp ((x2 : Int32).toInt64) ((0 : Int32).toInt64)) : Int32) < 0) ∧ (¬ ((0 : Int32) < (lg_cmp ((x2 : Int32).toInt64) (Int64.ofNat 9)))) → p_237_26 x1 x2 (0 : Int32) (m_235 x1 M)) ∧ (¬ (¬ (((lg_cmp ((x2 : Int32).toInt64) ((0 : Int32).toInt64)) : Int32) < 0) ∧ (¬ ((0 : Int32) < (lg_cmp ((x2 : Int32).toInt64) (Int64.ofNat 9))))) → p_237_26 x1 x2 (1 : Int32) (m_235 x1 M)))
noncomputable def r_237 (x1 : Int32) (x2 : Int32) (M : ux_M) : Int32 := if (r_235 x1 M) = 0 then (if ¬ (((lg_cmp ((x2 : Int32).toInt64) ((0 : Int32).toInt64)) : Int32) < 0) ∧ (¬ ((0 : Int32) < (lg_cmp ((x2 : Int32).toInt64) (Int64.ofNat 9)))) then (r_237_26 x1 x2 (0 : Int32) (m_235 x1 M)) else (r_237_26 x1 x2 (1 : Int32) (m_235 x1 M))) else 0
noncomputable def m_237 (x1 : Int32) (x2 : Int32) (M : ux_M) : ux_M := if (r_235 x1 M) = 0 then (if ¬ (((lg_cmp ((x2 : Int32).toInt64) ((0 : Int32).toInt64)) : Int32) < 0) ∧ (¬ ((0 : Int32) < (lg_cmp ((x2 : Int32).toInt64) (Int64.ofNat 9)))) then (m_237_26 x1 x2 (0 : Int32) (m_235 x1 M)) else (m_237_26 x1 x2 (1 : Int32) (m_235 x1 M))) else (m_235 x1 M)
theorem sa_237_26 {l : Launch} {E : ux_E} (hS : ux_SpecOK l E ux_chs) {d : Nat} (x1 : Int32) (x2 : Int32) (z0 : Int32) (M : ux_M) {Q : Option ux_V → ux_M → Prop} (h : p_237_26 x1 x2 z0 M) (hq : Q (some (.inl (r_237_26 x1 x2 z0 M))) (m_237_26 x1 x2 z0 M)) : ux_At l E (d + 3) y_237 26 [some (.inr (.inr (5, 819253, 0))), some (.inl x1), some (.inl x2)] [.inl z0, .inr (.inr (5, 819253, 0))] M Q := w_237_26 hS (d := d + 2) x1 x2 z0 M (sf_176 hS z0 2 _ h.1 ⟨fun q1 => (sf_238 hS x1 0 ((10 : Int32) + x2) _ (h.2.1 q1) (ux_rm1 q1 hq)), fun q1 => (ux_rm0 q1 hq)⟩)
theorem sf_237 {l : Launch} {E : ux_E} (hS : ux_SpecOK l E ux_chs) {d : Nat} (x1 : Int32) (x2 : Int32) (M : ux_M) {Q : Int32 → ux_M → Prop} (h : p_237 x1 x2 M) (hq0 : Q (r_237 x1 x2 M) (m_237 x1 x2 M)) : ux_Call l E (d + 3) y_237 [.inr (.inr (5, 819253, 0)), .inl x1, .inl x2] M (ux_CI Q) := by
  have hq : (ux_CI Q) (some (.inl (r_237 x1 x2 M))) (m_237 x1 x2 M) := ⟨_, rfl, hq0⟩
  exact c_237 hS (d := d + 2) x1 x2 M (sf_235 hS x1 _ h.1 ⟨fun q2 => (ux_rm0 q2 hq), fun q2 => ⟨fun q3 => (sa_237_26 hS x1 x2 (0 : Int32) _ ((h.2.2 q2).1 q3) (ux_rm1 q3 (ux_rm1 q2 hq))), fun q3 => (sa_237_26 hS x1 x2 (1 : Int32) _ ((h.2.2 q2).2 q3) (ux_rm0 q3 (ux_rm1 q2 hq)))⟩⟩)
-- Model.related 
def p_239_26 (x1 : Int32) (x2 : Int32) (z0 : Int32) (M : ux_M) : Prop := p_176 z0 2 M ∧ ((r_176 z0 2 M) = 0 → ux_u x1 ((22 : Int32) + x2)) ∧ (¬ (r_176 z0 2 M) = 0 → True)
noncomputable def r_239_26 (x1 : Int32) (x2 : Int32) (z0 : Int32) (M : ux_M) : Int32 := if (r_176 z0 2 M) = 0 then (ux_of (m_176 z0 2 M) x1 ((22 : Int32) + x2)) else 0
noncomputable def m_239_26 (x1 : Int32) (x2 : Int32) (z0 : Int32) (M : ux_M) : ux_M := if (r_176 z0 2 M) = 0 then (m_176 z0 2 M) else (m_176 z0 2 M)
def p_239 (x1 : Int32) (x2 : Int32) (M : ux_M) : Prop := p_235 x1 M ∧ (¬ (r_235 x1 M) = 0 → True) ∧ ((r_235 x1 M) = 0 → (¬ (((lg_cmp ((x2 : Int32).toInt64) ((0 : Int32).toInt64)) : Int32) < 0) ∧ (¬ ((0 : Int32) < (lg_cmp ((x2 : Int32).toInt64) (Int64.ofNat 5)))) → p_239_26 x1 x2 (0 : Int32) (m_235 x1 M)) ∧ (¬ (¬ (((lg_cmp ((x2 : Int32).toInt64) ((0 : Int32).toInt64)) : Int32) < 0) ∧ (¬ ((0 : Int32) < (lg_cmp ((x2 : Int32).toInt64) (Int64.ofNat 5))))) → p_239_26 x1 x2 (1 : Int32) (m_235 x1 M)))
noncomputable def r_239 (x1 : Int32) (x2 : Int32) (M : ux_M) : Int32 := if (r_235 x1 M) = 0 then (if ¬ (((lg_cmp ((x2 : Int32).toInt64) ((0 : Int32).toInt64)) : Int32) < 0) ∧ (¬ ((0 : Int32) < (lg_cmp ((x2 : Int32).toInt64) (Int64.ofNat 5)))) then (r_239_26 x1 x2 (0 : Int32) (m_235 x1 M)) else (r_239_26 x1 x2 (1 : Int32) (m_235 x1 M))) else 0
noncomputable def m_239 (x1 : Int32) (x2 : Int32) (M : ux_M) : ux_M := if (r_235 x1 M) = 0 then (if ¬ (((lg_cmp ((x2 : Int32).toInt64) ((0 : Int32).toInt64)) : Int32) < 0) ∧ (¬ ((0 : Int32) < (lg_cmp ((x2 : Int32).toInt64) (Int64.ofNat 5)))) then (m_239_26 x1 x2 (0 : Int32) (m_235 x1 M)) else (m_239_26 x1 x2 (1 : Int32) (m_235 x1 M))) else (m_235 x1 M)
theorem sa_239_26 {l : Launch} {E : ux_E} (hS : ux_SpecOK l E ux_chs) {d : Nat} (x1 : Int32) (x2 : Int32) (z0 : Int32) (M : ux_M) {Q : Option ux_V → ux_M → Prop} (h : p_239_26 x1 x2 z0 M) (hq : Q (some (.inl (r_239_26 x1 x2 z0 M))) (m_239_26 x1 x2 z0 M)) : ux_At l E (d + 2) y_239 26 [some (.inr (.inr (5, 819253, 0))), some (.inl x1), some (.inl x2)] [.inl z0, .inr (.inr (5, 819253, 0))] M Q := w_239_26 hS (d := d + 1) x1 x2 z0 M (sf_176 hS z0 2 _ h.1 ⟨fun q1 => ⟨(h.2.1 q1), (ux_rm1 q1 hq)⟩, fun q1 => (ux_rm0 q1 hq)⟩)
theorem sf_239 {l : Launch} {E : ux_E} (hS : ux_SpecOK l E ux_chs) {d : Nat} (x1 : Int32) (x2 : Int32) (M : ux_M) {Q : Int32 → ux_M → Prop} (h : p_239 x1 x2 M) (hq0 : Q (r_239 x1 x2 M) (m_239 x1 x2 M)) : ux_Call l E (d + 2) y_239 [.inr (.inr (5, 819253, 0)), .inl x1, .inl x2] M (ux_CI Q) := by
  have hq : (ux_CI Q) (some (.inl (r_239 x1 x2 M))) (m_239 x1 x2 M) := ⟨_, rfl, hq0⟩
  exact c_239 hS (d := d + 1) x1 x2 M (sf_235 hS x1 _ h.1 ⟨fun q2 => (ux_rm0 q2 hq), fun q2 => ⟨fun q3 => (sa_239_26 hS x1 x2 (0 : Int32) _ ((h.2.2 q2).1 q3) (ux_rm1 q3 (ux_rm1 q2 hq))), fun q3 => (sa_239_26 hS x1 x2 (1 : Int32) _ ((h.2.2 q2).2 q3) (ux_rm0 q3 (ux_rm1 q2 hq)))⟩⟩)
-- Model.serviceOf 
def p_240 (x1 : Int32) (M : ux_M) : Prop := p_234 x1 20 M
noncomputable def r_240 (x1 : Int32) (M : ux_M) : Int32 := (r_234 x1 20 M)
noncomputable def m_240 (x1 : Int32) (M : ux_M) : ux_M := (m_234 x1 20 M)
theorem sf_240 {l : Launch} {E : ux_E} (hS : ux_SpecOK l E ux_chs) {d : Nat} (x1 : Int32) (M : ux_M) {Q : Int32 → ux_M → Prop} (h : p_240 x1 M) (hq0 : Q (r_240 x1 M) (m_240 x1 M)) : ux_Call l E (d + 3) y_240 [.inr (.inr (5, 819253, 0)), .inl x1] M (ux_CI Q) := by
  have hq : (ux_CI Q) (some (.inl (r_240 x1 M))) (m_240 x1 M) := ⟨_, rfl, hq0⟩
  exact c_240 hS (d := d + 2) x1 M (sf_234 hS x1 20 _ h hq)
-- Model.stateOf 
def p_241 (x1 : Int32) (M : ux_M) : Prop := p_234 x1 28 M
noncomputable def r_241 (x1 : Int32) (M : ux_M) : Int32 := (r_234 x1 28 M)
noncomputable def m_241 (x1 : Int32) (M : ux_M) : ux_M := (m_234 x1 28 M)
theorem sf_241 {l : Launch} {E : ux_E} (hS : ux_SpecOK l E ux_chs) {d : Nat} (x1 : Int32) (M : ux_M) {Q : Int32 → ux_M → Prop} (h : p_241 x1 M) (hq0 : Q (r_241 x1 M) (m_241 x1 M)) : ux_Call l E (d + 3) y_241 [.inr (.inr (5, 819253, 0)), .inl x1] M (ux_CI Q) := by
  have hq : (ux_CI Q) (some (.inl (r_241 x1 M))) (m_241 x1 M) := ⟨_, rfl, hq0⟩
  exact c_241 hS (d := d + 2) x1 M (sf_234 hS x1 28 _ h hq)
-- Model.resultOf 
def p_242 (x1 : Int32) (M : ux_M) : Prop := p_234 x1 32 M
noncomputable def r_242 (x1 : Int32) (M : ux_M) : Int32 := (r_234 x1 32 M)
noncomputable def m_242 (x1 : Int32) (M : ux_M) : ux_M := (m_234 x1 32 M)
theorem sf_242 {l : Launch} {E : ux_E} (hS : ux_SpecOK l E ux_chs) {d : Nat} (x1 : Int32) (M : ux_M) {Q : Int32 → ux_M → Prop} (h : p_242 x1 M) (hq0 : Q (r_242 x1 M) (m_242 x1 M)) : ux_Call l E (d + 3) y_242 [.inr (.inr (5, 819253, 0)), .inl x1] M (ux_CI Q) := by
  have hq : (ux_CI Q) (some (.inl (r_242 x1 M))) (m_242 x1 M) := ⟨_, rfl, hq0⟩
  exact c_242 hS (d := d + 2) x1 M (sf_234 hS x1 32 _ h hq)
-- Model.exitCode 
def p_243 (x1 : Int32) (M : ux_M) : Prop := p_234 x1 33 M
noncomputable def r_243 (x1 : Int32) (M : ux_M) : Int32 := (r_234 x1 33 M)
noncomputable def m_243 (x1 : Int32) (M : ux_M) : ux_M := (m_234 x1 33 M)
theorem sf_243 {l : Launch} {E : ux_E} (hS : ux_SpecOK l E ux_chs) {d : Nat} (x1 : Int32) (M : ux_M) {Q : Int32 → ux_M → Prop} (h : p_243 x1 M) (hq0 : Q (r_243 x1 M) (m_243 x1 M)) : ux_Call l E (d + 3) y_243 [.inr (.inr (5, 819253, 0)), .inl x1] M (ux_CI Q) := by
  have hq : (ux_CI Q) (some (.inl (r_243 x1 M))) (m_243 x1 M) := ⟨_, rfl, hq0⟩
  exact c_243 hS (d := d + 2) x1 M (sf_234 hS x1 33 _ h hq)
-- Model.since 
def p_244 (x1 : Int32) (M : ux_M) : Prop := p_234 x1 34 M
noncomputable def r_244 (x1 : Int32) (M : ux_M) : Int32 := (r_234 x1 34 M)
noncomputable def m_244 (x1 : Int32) (M : ux_M) : ux_M := (m_234 x1 34 M)
theorem sf_244 {l : Launch} {E : ux_E} (hS : ux_SpecOK l E ux_chs) {d : Nat} (x1 : Int32) (M : ux_M) {Q : Int32 → ux_M → Prop} (h : p_244 x1 M) (hq0 : Q (r_244 x1 M) (m_244 x1 M)) : ux_Call l E (d + 3) y_244 [.inr (.inr (5, 819253, 0)), .inl x1] M (ux_CI Q) := by
  have hq : (ux_CI Q) (some (.inl (r_244 x1 M))) (m_244 x1 M) := ⟨_, rfl, hq0⟩
  exact c_244 hS (d := d + 2) x1 M (sf_234 hS x1 34 _ h hq)
-- Model.dueAt 
def p_245 (x1 : Int32) (M : ux_M) : Prop := p_235 x1 M ∧ ((r_235 x1 M) = 0 → p_178 x1 (m_235 x1 M)) ∧ (¬ (r_235 x1 M) = 0 → True)
noncomputable def r_245 (x1 : Int32) (M : ux_M) : Int32 := if (r_235 x1 M) = 0 then (r_178 x1 (m_235 x1 M)) else 0
noncomputable def m_245 (x1 : Int32) (M : ux_M) : ux_M := if (r_235 x1 M) = 0 then (m_235 x1 M) else (m_235 x1 M)
theorem sf_245 {l : Launch} {E : ux_E} (hS : ux_SpecOK l E ux_chs) {d : Nat} (x1 : Int32) (M : ux_M) {Q : Int32 → ux_M → Prop} (h : p_245 x1 M) (hq0 : Q (r_245 x1 M) (m_245 x1 M)) : ux_Call l E (d + 2) y_245 [.inr (.inr (5, 819253, 0)), .inl x1] M (ux_CI Q) := by
  have hq : (ux_CI Q) (some (.inl (r_245 x1 M))) (m_245 x1 M) := ⟨_, rfl, hq0⟩
  exact c_245 hS (d := d + 1) x1 M (sf_235 hS x1 _ h.1 ⟨fun q1 => (sf_178 hS x1 _ (h.2.1 q1) (ux_rm1 q1 hq)), fun q1 => (ux_rm0 q1 hq)⟩)
-- Model.restarts 
def p_246 (x1 : Int32) (M : ux_M) : Prop := p_234 x1 40 M
noncomputable def r_246 (x1 : Int32) (M : ux_M) : Int32 := (r_234 x1 40 M)
noncomputable def m_246 (x1 : Int32) (M : ux_M) : ux_M := (m_234 x1 40 M)
theorem sf_246 {l : Launch} {E : ux_E} (hS : ux_SpecOK l E ux_chs) {d : Nat} (x1 : Int32) (M : ux_M) {Q : Int32 → ux_M → Prop} (h : p_246 x1 M) (hq0 : Q (r_246 x1 M) (m_246 x1 M)) : ux_Call l E (d + 3) y_246 [.inr (.inr (5, 819253, 0)), .inl x1] M (ux_CI Q) := by
  have hq : (ux_CI Q) (some (.inl (r_246 x1 M))) (m_246 x1 M) := ⟨_, rfl, hq0⟩
  exact c_246 hS (d := d + 2) x1 M (sf_234 hS x1 40 _ h hq)
-- Model.begins 
def p_247 (x1 : Int32) (M : ux_M) : Prop := p_234 x1 39 M
noncomputable def r_247 (x1 : Int32) (M : ux_M) : Int32 := (r_234 x1 39 M)
noncomputable def m_247 (x1 : Int32) (M : ux_M) : ux_M := (m_234 x1 39 M)
theorem sf_247 {l : Launch} {E : ux_E} (hS : ux_SpecOK l E ux_chs) {d : Nat} (x1 : Int32) (M : ux_M) {Q : Int32 → ux_M → Prop} (h : p_247 x1 M) (hq0 : Q (r_247 x1 M) (m_247 x1 M)) : ux_Call l E (d + 3) y_247 [.inr (.inr (5, 819253, 0)), .inl x1] M (ux_CI Q) := by
  have hq : (ux_CI Q) (some (.inl (r_247 x1 M))) (m_247 x1 M) := ⟨_, rfl, hq0⟩
  exact c_247 hS (d := d + 2) x1 M (sf_234 hS x1 39 _ h hq)
-- Model.recentBegins 
def p_248 (x1 : Int32) (M : ux_M) : Prop := p_235 x1 M ∧ ((r_235 x1 M) = 0 → ux_u x1 0 ∧ (¬ ((ux_of (m_235 x1 M) x1 0) : Int32) = 0 → True) ∧ (((ux_of (m_235 x1 M) x1 0) : Int32) = 0 → p_226 x1 (m_235 x1 M))) ∧ (¬ (r_235 x1 M) = 0 → True)
noncomputable def r_248 (x1 : Int32) (M : ux_M) : Int32 := if (r_235 x1 M) = 0 then (if ((ux_of (m_235 x1 M) x1 0) : Int32) = 0 then (r_226 x1 (m_235 x1 M)) else (-1)) else 0
noncomputable def m_248 (x1 : Int32) (M : ux_M) : ux_M := if (r_235 x1 M) = 0 then (if ((ux_of (m_235 x1 M) x1 0) : Int32) = 0 then (m_235 x1 M) else (m_235 x1 M)) else (m_235 x1 M)
theorem sf_248 {l : Launch} {E : ux_E} (hS : ux_SpecOK l E ux_chs) {d : Nat} (x1 : Int32) (M : ux_M) {Q : Int32 → ux_M → Prop} (h : p_248 x1 M) (hq0 : Q (r_248 x1 M) (m_248 x1 M)) : ux_Call l E (d + 2) y_248 [.inr (.inr (5, 819253, 0)), .inl x1] M (ux_CI Q) := by
  have hq : (ux_CI Q) (some (.inl (r_248 x1 M))) (m_248 x1 M) := ⟨_, rfl, hq0⟩
  exact c_248 hS (d := d + 1) x1 M (sf_235 hS x1 _ h.1 ⟨fun q1 => ⟨(h.2.1 q1).1, ⟨fun q2 => (ux_rm0 q2 (ux_rm1 q1 hq)), fun q2 => (sf_226 hS x1 _ ((h.2.1 q1).2.2 q2) (ux_rm1 q2 (ux_rm1 q1 hq)))⟩⟩, fun q1 => (ux_rm0 q1 hq)⟩)
-- Model.queued 
def p_249 (x1 : Int32) (M : ux_M) : Prop := p_238 x1 1 42 M
noncomputable def r_249 (x1 : Int32) (M : ux_M) : Int32 := (r_238 x1 1 42 M)
noncomputable def m_249 (x1 : Int32) (M : ux_M) : ux_M := (m_238 x1 1 42 M)
theorem sf_249 {l : Launch} {E : ux_E} (hS : ux_SpecOK l E ux_chs) {d : Nat} (x1 : Int32) (M : ux_M) {Q : Int32 → ux_M → Prop} (h : p_249 x1 M) (hq0 : Q (r_249 x1 M) (m_249 x1 M)) : ux_Call l E (d + 3) y_249 [.inr (.inr (5, 819253, 0)), .inl x1] M (ux_CI Q) := by
  have hq : (ux_CI Q) (some (.inl (r_249 x1 M))) (m_249 x1 M) := ⟨_, rfl, hq0⟩
  exact c_249 hS (d := d + 2) x1 M (sf_238 hS x1 1 42 _ h hq)
-- Model.accepted 
def p_250 (x1 : Int32) (M : ux_M) : Prop := p_238 x1 1 43 M
noncomputable def r_250 (x1 : Int32) (M : ux_M) : Int32 := (r_238 x1 1 43 M)
noncomputable def m_250 (x1 : Int32) (M : ux_M) : ux_M := (m_238 x1 1 43 M)
theorem sf_250 {l : Launch} {E : ux_E} (hS : ux_SpecOK l E ux_chs) {d : Nat} (x1 : Int32) (M : ux_M) {Q : Int32 → ux_M → Prop} (h : p_250 x1 M) (hq0 : Q (r_250 x1 M) (m_250 x1 M)) : ux_Call l E (d + 3) y_250 [.inr (.inr (5, 819253, 0)), .inl x1] M (ux_CI Q) := by
  have hq : (ux_CI Q) (some (.inl (r_250 x1 M))) (m_250 x1 M) := ⟨_, rfl, hq0⟩
  exact c_250 hS (d := d + 2) x1 M (sf_238 hS x1 1 43 _ h hq)
-- Model.lost 
def p_251 (x1 : Int32) (M : ux_M) : Prop := p_238 x1 1 44 M
noncomputable def r_251 (x1 : Int32) (M : ux_M) : Int32 := (r_238 x1 1 44 M)
noncomputable def m_251 (x1 : Int32) (M : ux_M) : ux_M := (m_238 x1 1 44 M)
theorem sf_251 {l : Launch} {E : ux_E} (hS : ux_SpecOK l E ux_chs) {d : Nat} (x1 : Int32) (M : ux_M) {Q : Int32 → ux_M → Prop} (h : p_251 x1 M) (hq0 : Q (r_251 x1 M) (m_251 x1 M)) : ux_Call l E (d + 3) y_251 [.inr (.inr (5, 819253, 0)), .inl x1] M (ux_CI Q) := by
  have hq : (ux_CI Q) (some (.inl (r_251 x1 M))) (m_251 x1 M) := ⟨_, rfl, hq0⟩
  exact c_251 hS (d := d + 2) x1 M (sf_238 hS x1 1 44 _ h hq)
-- Model.jobOf 
def p_252 (x1 : Int32) (M : ux_M) : Prop := p_234 x1 29 M
noncomputable def r_252 (x1 : Int32) (M : ux_M) : Int32 := (r_234 x1 29 M)
noncomputable def m_252 (x1 : Int32) (M : ux_M) : ux_M := (m_234 x1 29 M)
theorem sf_252 {l : Launch} {E : ux_E} (hS : ux_SpecOK l E ux_chs) {d : Nat} (x1 : Int32) (M : ux_M) {Q : Int32 → ux_M → Prop} (h : p_252 x1 M) (hq0 : Q (r_252 x1 M) (m_252 x1 M)) : ux_Call l E (d + 3) y_252 [.inr (.inr (5, 819253, 0)), .inl x1] M (ux_CI Q) := by
  have hq : (ux_CI Q) (some (.inl (r_252 x1 M))) (m_252 x1 M) := ⟨_, rfl, hq0⟩
  exact c_252 hS (d := d + 2) x1 M (sf_234 hS x1 29 _ h hq)
-- Model.isRunning 
def p_253 (x1 : Int32) (M : ux_M) : Prop := p_234 x1 30 M
noncomputable def r_253 (x1 : Int32) (M : ux_M) : Int32 := if (r_234 x1 30 M) = 1 then 1 else 0
noncomputable def m_253 (x1 : Int32) (M : ux_M) : ux_M := if (r_234 x1 30 M) = 1 then (m_234 x1 30 M) else (m_234 x1 30 M)
theorem sf_253 {l : Launch} {E : ux_E} (hS : ux_SpecOK l E ux_chs) {d : Nat} (x1 : Int32) (M : ux_M) {Q : Int32 → ux_M → Prop} (h : p_253 x1 M) (hq0 : Q (r_253 x1 M) (m_253 x1 M)) : ux_Call l E (d + 3) y_253 [.inr (.inr (5, 819253, 0)), .inl x1] M (ux_CI Q) := by
  have hq : (ux_CI Q) (some (.inl (r_253 x1 M))) (m_253 x1 M) := ⟨_, rfl, hq0⟩
  exact c_253 hS (d := d + 2) x1 M (sf_234 hS x1 30 _ h ⟨fun q1 => (ux_rm0 q1 hq), fun q1 => (ux_rm1 q1 hq)⟩)
-- Model.outcomeOf 
def p_254 (x1 : Int32) (M : ux_M) : Prop := p_234 x1 41 M
noncomputable def r_254 (x1 : Int32) (M : ux_M) : Int32 := (r_234 x1 41 M)
noncomputable def m_254 (x1 : Int32) (M : ux_M) : ux_M := (m_234 x1 41 M)
theorem sf_254 {l : Launch} {E : ux_E} (hS : ux_SpecOK l E ux_chs) {d : Nat} (x1 : Int32) (M : ux_M) {Q : Int32 → ux_M → Prop} (h : p_254 x1 M) (hq0 : Q (r_254 x1 M) (m_254 x1 M)) : ux_Call l E (d + 3) y_254 [.inr (.inr (5, 819253, 0)), .inl x1] M (ux_CI Q) := by
  have hq : (ux_CI Q) (some (.inl (r_254 x1 M))) (m_254 x1 M) := ⟨_, rfl, hq0⟩
  exact c_254 hS (d := d + 2) x1 M (sf_234 hS x1 41 _ h hq)
-- Model.precedingJobs 
def p_255 (x1 : Int32) (M : ux_M) : Prop := p_235 x1 M ∧ ((r_235 x1 M) = 0 → ux_u x1 29 ∧ (¬ ((ux_of (m_235 x1 M) x1 29) : Int32) = 0 → p_220 x1 (m_235 x1 M)) ∧ (((ux_of (m_235 x1 M) x1 29) : Int32) = 0 → True)) ∧ (¬ (r_235 x1 M) = 0 → True)
noncomputable def r_255 (x1 : Int32) (M : ux_M) : Int32 := if (r_235 x1 M) = 0 then (if ((ux_of (m_235 x1 M) x1 29) : Int32) = 0 then 0 else (r_220 x1 (m_235 x1 M))) else 0
noncomputable def m_255 (x1 : Int32) (M : ux_M) : ux_M := if (r_235 x1 M) = 0 then (if ((ux_of (m_235 x1 M) x1 29) : Int32) = 0 then (m_235 x1 M) else (m_235 x1 M)) else (m_235 x1 M)
theorem sf_255 {l : Launch} {E : ux_E} (hS : ux_SpecOK l E ux_chs) {d : Nat} (x1 : Int32) (M : ux_M) {Q : Int32 → ux_M → Prop} (h : p_255 x1 M) (hq0 : Q (r_255 x1 M) (m_255 x1 M)) : ux_Call l E (d + 3) y_255 [.inr (.inr (5, 819253, 0)), .inl x1] M (ux_CI Q) := by
  have hq : (ux_CI Q) (some (.inl (r_255 x1 M))) (m_255 x1 M) := ⟨_, rfl, hq0⟩
  exact c_255 hS (d := d + 2) x1 M (sf_235 hS x1 _ h.1 ⟨fun q1 => ⟨(h.2.1 q1).1, ⟨fun q2 => (sf_220 hS x1 _ ((h.2.1 q1).2.1 q2) (ux_rm0 q2 (ux_rm1 q1 hq))), fun q2 => (ux_rm1 q2 (ux_rm1 q1 hq))⟩⟩, fun q1 => (ux_rm0 q1 hq)⟩)
-- Model.queueMany 
def p_257_4 : Nat → Int32 → Int32 → ux_M → Prop
  | 0, _, _, _ => False
  | f + 1, x1, x2, M => vp_in 1 1084 ∧ (((M 5 844257 0 (1 : Int32).toNatClampNeg) : Int32) ≤ x2 → True) ∧ (¬ ((M 5 844257 0 (1 : Int32).toNatClampNeg) : Int32) ≤ x2 → ux_u x2 29 ∧ (¬ ((ux_of M x2 29) : Int32) = 0 → p_257_4 f (x1 + (1 : Int32)) (x2 + 1) M) ∧ (((ux_of M x2 29) : Int32) = 0 → p_257_4 f (x1 + (0 : Int32)) (x2 + 1) M))
noncomputable def r_257_4 : Nat → Int32 → Int32 → ux_M → Int32
  | 0, _, _, _ => 0
  | f + 1, x1, x2, M => if ((M 5 844257 0 (1 : Int32).toNatClampNeg) : Int32) ≤ x2 then x1 else (if ((ux_of M x2 29) : Int32) = 0 then (r_257_4 f (x1 + (0 : Int32)) (x2 + 1) M) else (r_257_4 f (x1 + (1 : Int32)) (x2 + 1) M))
def p_257  (M : ux_M) : Prop := p_257_4 ux_fuel (0 : Int32) (0 : Int32) M
noncomputable def r_257  (M : ux_M) : Int32 := r_257_4 ux_fuel (0 : Int32) (0 : Int32) M
theorem sa_257_4 {l : Launch} {E : ux_E} (hS : ux_SpecOK l E ux_chs) {d : Nat} {Q : Option ux_V → ux_M → Prop} (f : Nat) (x1 : Int32) (x2 : Int32) (M : ux_M) (h : p_257_4 f x1 x2 M) (hq : Q (some (.inl (r_257_4 f x1 x2 M))) M) : ux_At l E (d + 1) y_257 4 [some (.inr (.inr (5, 819253, 0))), some (.inl x1), some (.inl x2)] [] M Q := by
  induction f generalizing x1 x2 M with
  | zero => exact h.elim
  | succ f ih => exact w_257_4 hS x1 x2 M ⟨h.1, ⟨fun q1 => (ux_r1 q1 hq), fun q1 => ⟨(h.2.2 q1).1, ⟨fun q2 => (ih (x1 + (1 : Int32)) (x2 + 1) _ ((h.2.2 q1).2.1 q2) (ux_r0 q2 (ux_r0 q1 hq))), fun q2 => (ih (x1 + (0 : Int32)) (x2 + 1) _ ((h.2.2 q1).2.2 q2) (ux_r1 q2 (ux_r0 q1 hq)))⟩⟩⟩⟩
theorem sf_257 {l : Launch} {E : ux_E} (hS : ux_SpecOK l E ux_chs) {d : Nat}  (M : ux_M) {Q : Int32 → ux_M → Prop} (h : p_257  M) (hq0 : Q (r_257  M) M) : ux_Call l E (d + 1) y_257 [.inr (.inr (5, 819253, 0))] M (ux_CI Q) := by
  have hq : (ux_CI Q) (some (.inl (r_257  M))) M := ⟨_, rfl, hq0⟩
  exact c_257 hS  M (sa_257_4 hS ux_fuel (0 : Int32) (0 : Int32) _ h hq)
-- Model.queueLength 
def p_256  (M : ux_M) : Prop := ∀ M1 : ux_M, M1 = ux_set M 5 819253 0 6 0 → p_257 M1
noncomputable def r_256  (M : ux_M) : Int32 := let M1 : ux_M := ux_set M 5 819253 0 6 0; (r_257 M1)
noncomputable def m_256  (M : ux_M) : ux_M := let M1 : ux_M := ux_set M 5 819253 0 6 0; M1
theorem sf_256 {l : Launch} {E : ux_E} (hS : ux_SpecOK l E ux_chs) {d : Nat}  (M : ux_M) {Q : Int32 → ux_M → Prop} (h : p_256  M) (hq0 : Q (r_256  M) (m_256  M)) : ux_Call l E (d + 2) y_256 [.inr (.inr (5, 819253, 0))] M (ux_CI Q) := by
  have hq : (ux_CI Q) (some (.inl (r_256  M))) (m_256  M) := ⟨_, rfl, hq0⟩
  exact c_256 hS (d := d + 1)  M (fun M1 e_M1 => by subst e_M1; exact (sf_257 hS  _ (h _ rfl) hq))
-- Model.unitsIn 
def p_259_4 : Nat → Int32 → Int32 → Int32 → ux_M → Prop
  | 0, _, _, _, _ => False
  | f + 1, x1, x2, x3, M => vp_in 1 1084 ∧ (((M 5 844257 0 (1 : Int32).toNatClampNeg) : Int32) ≤ x3 → True) ∧ (¬ ((M 5 844257 0 (1 : Int32).toNatClampNeg) : Int32) ≤ x3 → ux_u x3 28 ∧ (¬ ((ux_of M x3 28) : Int32) = x1 → p_259_4 f x1 (x2 ||| (0 : Int32)) (x3 + 1) M) ∧ (((ux_of M x3 28) : Int32) = x1 → p_259_4 f x1 (x2 ||| ((1 : Int32) <<< (x3 &&& 31))) (x3 + 1) M))
noncomputable def r_259_4 : Nat → Int32 → Int32 → Int32 → ux_M → Int32
  | 0, _, _, _, _ => 0
  | f + 1, x1, x2, x3, M => if ((M 5 844257 0 (1 : Int32).toNatClampNeg) : Int32) ≤ x3 then x2 else (if ((ux_of M x3 28) : Int32) = x1 then (r_259_4 f x1 (x2 ||| ((1 : Int32) <<< (x3 &&& 31))) (x3 + 1) M) else (r_259_4 f x1 (x2 ||| (0 : Int32)) (x3 + 1) M))
def p_259 (x1 : Int32) (M : ux_M) : Prop := p_259_4 ux_fuel x1 (0 : Int32) (0 : Int32) M
noncomputable def r_259 (x1 : Int32) (M : ux_M) : Int32 := r_259_4 ux_fuel x1 (0 : Int32) (0 : Int32) M
theorem sa_259_4 {l : Launch} {E : ux_E} (hS : ux_SpecOK l E ux_chs) {d : Nat} {Q : Option ux_V → ux_M → Prop} (f : Nat) (x1 : Int32) (x2 : Int32) (x3 : Int32) (M : ux_M) (h : p_259_4 f x1 x2 x3 M) (hq : Q (some (.inl (r_259_4 f x1 x2 x3 M))) M) : ux_At l E (d + 1) y_259 4 [some (.inr (.inr (5, 819253, 0))), some (.inl x1), some (.inl x2), some (.inl x3)] [] M Q := by
  induction f generalizing x1 x2 x3 M with
  | zero => exact h.elim
  | succ f ih => exact w_259_4 hS x1 x2 x3 M ⟨h.1, ⟨fun q1 => (ux_r1 q1 hq), fun q1 => ⟨(h.2.2 q1).1, ⟨fun q2 => (ih x1 (x2 ||| (0 : Int32)) (x3 + 1) _ ((h.2.2 q1).2.1 q2) (ux_r0 q2 (ux_r0 q1 hq))), fun q2 => (ih x1 (x2 ||| ((1 : Int32) <<< (x3 &&& 31))) (x3 + 1) _ ((h.2.2 q1).2.2 q2) (ux_r1 q2 (ux_r0 q1 hq)))⟩⟩⟩⟩
theorem sf_259 {l : Launch} {E : ux_E} (hS : ux_SpecOK l E ux_chs) {d : Nat} (x1 : Int32) (M : ux_M) {Q : Int32 → ux_M → Prop} (h : p_259 x1 M) (hq0 : Q (r_259 x1 M) M) : ux_Call l E (d + 1) y_259 [.inr (.inr (5, 819253, 0)), .inl x1] M (ux_CI Q) := by
  have hq : (ux_CI Q) (some (.inl (r_259 x1 M))) M := ⟨_, rfl, hq0⟩
  exact c_259 hS x1 M (sa_259_4 hS ux_fuel x1 (0 : Int32) (0 : Int32) _ h hq)
-- Model.inState 
def p_258_23 (x1 : Int32) (z0 : Int32) (M : ux_M) : Prop := p_176 z0 1 M ∧ ((r_176 z0 1 M) = 0 → p_259 x1 (m_176 z0 1 M)) ∧ (¬ (r_176 z0 1 M) = 0 → True)
noncomputable def r_258_23 (x1 : Int32) (z0 : Int32) (M : ux_M) : Int32 := if (r_176 z0 1 M) = 0 then (r_259 x1 (m_176 z0 1 M)) else 0
noncomputable def m_258_23 (x1 : Int32) (z0 : Int32) (M : ux_M) : ux_M := if (r_176 z0 1 M) = 0 then (m_176 z0 1 M) else (m_176 z0 1 M)
def p_258 (x1 : Int32) (M : ux_M) : Prop := ∀ M1 : ux_M, M1 = ux_set M 5 819253 0 6 0 → (¬ (((lg_cmp ((x1 : Int32).toInt64) ((0 : Int32).toInt64)) : Int32) < 0) ∧ (¬ ((0 : Int32) < (lg_cmp ((x1 : Int32).toInt64) (Int64.ofNat 5)))) → p_258_23 x1 (0 : Int32) M1) ∧ (¬ (¬ (((lg_cmp ((x1 : Int32).toInt64) ((0 : Int32).toInt64)) : Int32) < 0) ∧ (¬ ((0 : Int32) < (lg_cmp ((x1 : Int32).toInt64) (Int64.ofNat 5))))) → p_258_23 x1 (1 : Int32) M1)
noncomputable def r_258 (x1 : Int32) (M : ux_M) : Int32 := let M1 : ux_M := ux_set M 5 819253 0 6 0; if ¬ (((lg_cmp ((x1 : Int32).toInt64) ((0 : Int32).toInt64)) : Int32) < 0) ∧ (¬ ((0 : Int32) < (lg_cmp ((x1 : Int32).toInt64) (Int64.ofNat 5)))) then (r_258_23 x1 (0 : Int32) M1) else (r_258_23 x1 (1 : Int32) M1)
noncomputable def m_258 (x1 : Int32) (M : ux_M) : ux_M := let M1 : ux_M := ux_set M 5 819253 0 6 0; if ¬ (((lg_cmp ((x1 : Int32).toInt64) ((0 : Int32).toInt64)) : Int32) < 0) ∧ (¬ ((0 : Int32) < (lg_cmp ((x1 : Int32).toInt64) (Int64.ofNat 5)))) then (m_258_23 x1 (0 : Int32) M1) else (m_258_23 x1 (1 : Int32) M1)
theorem sa_258_23 {l : Launch} {E : ux_E} (hS : ux_SpecOK l E ux_chs) {d : Nat} (x1 : Int32) (z0 : Int32) (M : ux_M) {Q : Option ux_V → ux_M → Prop} (h : p_258_23 x1 z0 M) (hq : Q (some (.inl (r_258_23 x1 z0 M))) (m_258_23 x1 z0 M)) : ux_At l E (d + 2) y_258 23 [some (.inr (.inr (5, 819253, 0))), some (.inl x1)] [.inl z0, .inr (.inr (5, 819253, 0))] M Q := w_258_23 hS (d := d + 1) x1 z0 M (sf_176 hS z0 1 _ h.1 ⟨fun q1 => (sf_259 hS x1 _ (h.2.1 q1) (ux_rm1 q1 hq)), fun q1 => (ux_rm0 q1 hq)⟩)
theorem sf_258 {l : Launch} {E : ux_E} (hS : ux_SpecOK l E ux_chs) {d : Nat} (x1 : Int32) (M : ux_M) {Q : Int32 → ux_M → Prop} (h : p_258 x1 M) (hq0 : Q (r_258 x1 M) (m_258 x1 M)) : ux_Call l E (d + 2) y_258 [.inr (.inr (5, 819253, 0)), .inl x1] M (ux_CI Q) := by
  have hq : (ux_CI Q) (some (.inl (r_258 x1 M))) (m_258 x1 M) := ⟨_, rfl, hq0⟩
  exact c_258 hS (d := d + 1) x1 M (fun M1 e_M1 => by subst e_M1; exact ⟨fun q2 => (sa_258_23 hS x1 (0 : Int32) _ ((h _ rfl).1 q2) (ux_rm1 q2 hq)), fun q2 => (sa_258_23 hS x1 (1 : Int32) _ ((h _ rfl).2 q2) (ux_rm0 q2 hq))⟩)
-- Model.logSize 
def p_260  (M : ux_M) : Prop := ∀ M1 : ux_M, M1 = ux_set M 5 819253 0 6 0 → vp_in 2 1084
noncomputable def r_260  (M : ux_M) : Int32 := let M1 : ux_M := ux_set M 5 819253 0 6 0; (M1 5 844257 0 (2 : Int32).toNatClampNeg)
noncomputable def m_260  (M : ux_M) : ux_M := let M1 : ux_M := ux_set M 5 819253 0 6 0; M1
theorem sf_260 {l : Launch} {E : ux_E} (hS : ux_SpecOK l E ux_chs) {d : Nat}  (M : ux_M) {Q : Int32 → ux_M → Prop} (h : p_260  M) (hq0 : Q (r_260  M) (m_260  M)) : ux_Call l E (d + 1) y_260 [.inr (.inr (5, 819253, 0))] M (ux_CI Q) := by
  have hq : (ux_CI Q) (some (.inl (r_260  M))) (m_260  M) := ⟨_, rfl, hq0⟩
  exact c_260 hS  M (fun M1 e_M1 => by subst e_M1; exact ⟨(h _ rfl), hq⟩)
-- Model.logEntry 
def p_261_23 (x1 : Int32) (x2 : Int32) (z0 : Int32) (M : ux_M) : Prop := p_176 z0 1 M ∧ ((r_176 z0 1 M) = 0 → vp_in 2 1084 ∧ (¬ (¬ (((lg_cmp ((x1 : Int32).toInt64) ((0 : Int32).toInt64)) : Int32) < 0) ∧ (¬ ((0 : Int32) < (lg_cmp ((x1 : Int32).toInt64) (((((m_176 z0 1 M) 5 844257 0 (2 : Int32).toNatClampNeg) - (1 : Int32)) : Int32).toInt64))))) → True) ∧ (¬ (((lg_cmp ((x1 : Int32).toInt64) ((0 : Int32).toInt64)) : Int32) < 0) ∧ (¬ ((0 : Int32) < (lg_cmp ((x1 : Int32).toInt64) (((((m_176 z0 1 M) 5 844257 0 (2 : Int32).toNatClampNeg) - (1 : Int32)) : Int32).toInt64)))) → vp_in (((8 : Int32) + ((3 : Int32) * x1)) + x2) 1084)) ∧ (¬ (r_176 z0 1 M) = 0 → True)
noncomputable def r_261_23 (x1 : Int32) (x2 : Int32) (z0 : Int32) (M : ux_M) : Int32 := if (r_176 z0 1 M) = 0 then (if ¬ (((lg_cmp ((x1 : Int32).toInt64) ((0 : Int32).toInt64)) : Int32) < 0) ∧ (¬ ((0 : Int32) < (lg_cmp ((x1 : Int32).toInt64) (((((m_176 z0 1 M) 5 844257 0 (2 : Int32).toNatClampNeg) - (1 : Int32)) : Int32).toInt64)))) then ((m_176 z0 1 M) 5 844257 0 ((((8 : Int32) + ((3 : Int32) * x1)) + x2) : Int32).toNatClampNeg) else (-1)) else 0
noncomputable def m_261_23 (x1 : Int32) (x2 : Int32) (z0 : Int32) (M : ux_M) : ux_M := if (r_176 z0 1 M) = 0 then (if ¬ (((lg_cmp ((x1 : Int32).toInt64) ((0 : Int32).toInt64)) : Int32) < 0) ∧ (¬ ((0 : Int32) < (lg_cmp ((x1 : Int32).toInt64) (((((m_176 z0 1 M) 5 844257 0 (2 : Int32).toNatClampNeg) - (1 : Int32)) : Int32).toInt64)))) then (m_176 z0 1 M) else (m_176 z0 1 M)) else (m_176 z0 1 M)
def p_261 (x1 : Int32) (x2 : Int32) (M : ux_M) : Prop := ∀ M1 : ux_M, M1 = ux_set M 5 819253 0 6 0 → (¬ (((lg_cmp ((x2 : Int32).toInt64) ((0 : Int32).toInt64)) : Int32) < 0) ∧ (¬ ((0 : Int32) < (lg_cmp ((x2 : Int32).toInt64) (Int64.ofNat 2)))) → p_261_23 x1 x2 (0 : Int32) M1) ∧ (¬ (¬ (((lg_cmp ((x2 : Int32).toInt64) ((0 : Int32).toInt64)) : Int32) < 0) ∧ (¬ ((0 : Int32) < (lg_cmp ((x2 : Int32).toInt64) (Int64.ofNat 2))))) → p_261_23 x1 x2 (1 : Int32) M1)
noncomputable def r_261 (x1 : Int32) (x2 : Int32) (M : ux_M) : Int32 := let M1 : ux_M := ux_set M 5 819253 0 6 0; if ¬ (((lg_cmp ((x2 : Int32).toInt64) ((0 : Int32).toInt64)) : Int32) < 0) ∧ (¬ ((0 : Int32) < (lg_cmp ((x2 : Int32).toInt64) (Int64.ofNat 2)))) then (r_261_23 x1 x2 (0 : Int32) M1) else (r_261_23 x1 x2 (1 : Int32) M1)
noncomputable def m_261 (x1 : Int32) (x2 : Int32) (M : ux_M) : ux_M := let M1 : ux_M := ux_set M 5 819253 0 6 0; if ¬ (((lg_cmp ((x2 : Int32).toInt64) ((0 : Int32).toInt64)) : Int32) < 0) ∧ (¬ ((0 : Int32) < (lg_cmp ((x2 : Int32).toInt64) (Int64.ofNat 2)))) then (m_261_23 x1 x2 (0 : Int32) M1) else (m_261_23 x1 x2 (1 : Int32) M1)
theorem sa_261_23 {l : Launch} {E : ux_E} (hS : ux_SpecOK l E ux_chs) {d : Nat} (x1 : Int32) (x2 : Int32) (z0 : Int32) (M : ux_M) {Q : Option ux_V → ux_M → Prop} (h : p_261_23 x1 x2 z0 M) (hq : Q (some (.inl (r_261_23 x1 x2 z0 M))) (m_261_23 x1 x2 z0 M)) : ux_At l E (d + 1) y_261 23 [some (.inr (.inr (5, 819253, 0))), some (.inl x1), some (.inl x2)] [.inl z0, .inr (.inr (5, 819253, 0))] M Q := w_261_23 hS x1 x2 z0 M (sf_176 hS z0 1 _ h.1 ⟨fun q1 => ⟨(h.2.1 q1).1, ⟨fun q2 => (ux_rm0 q2 (ux_rm1 q1 hq)), fun q2 => ⟨((h.2.1 q1).2.2 q2), (ux_rm1 q2 (ux_rm1 q1 hq))⟩⟩⟩, fun q1 => (ux_rm0 q1 hq)⟩)
theorem sf_261 {l : Launch} {E : ux_E} (hS : ux_SpecOK l E ux_chs) {d : Nat} (x1 : Int32) (x2 : Int32) (M : ux_M) {Q : Int32 → ux_M → Prop} (h : p_261 x1 x2 M) (hq0 : Q (r_261 x1 x2 M) (m_261 x1 x2 M)) : ux_Call l E (d + 1) y_261 [.inr (.inr (5, 819253, 0)), .inl x1, .inl x2] M (ux_CI Q) := by
  have hq : (ux_CI Q) (some (.inl (r_261 x1 x2 M))) (m_261 x1 x2 M) := ⟨_, rfl, hq0⟩
  exact c_261 hS x1 x2 M (fun M1 e_M1 => by subst e_M1; exact ⟨fun q3 => (sa_261_23 hS x1 x2 (0 : Int32) _ ((h _ rfl).1 q3) (ux_rm1 q3 hq)), fun q3 => (sa_261_23 hS x1 x2 (1 : Int32) _ ((h _ rfl).2 q3) (ux_rm0 q3 hq))⟩)
-- Model.calls 
def p_263 (x1 : Int32) (x2 : Int32) (x3 : Int32) (M : ux_M) : Prop := p_235 x1 M ∧ ((r_235 x1 M) = 0 → p_197 x1 x2 (m_235 x1 M) ∧ ((r_197 x1 x2 (m_235 x1 M)) = 0 → p_211 x3 (m_197 x1 x2 (m_235 x1 M)) ∧ ((r_211 x3 (m_197 x1 x2 (m_235 x1 M))) < 0 → True) ∧ (¬ (r_211 x3 (m_197 x1 x2 (m_235 x1 M))) < 0 → p_218 (m_211 x3 (m_197 x1 x2 (m_235 x1 M))))) ∧ (¬ (r_197 x1 x2 (m_235 x1 M)) = 0 → True)) ∧ (¬ (r_235 x1 M) = 0 → True)
noncomputable def r_263 (x1 : Int32) (x2 : Int32) (x3 : Int32) (M : ux_M) : Int32 := if (r_235 x1 M) = 0 then (if (r_197 x1 x2 (m_235 x1 M)) = 0 then (if (r_211 x3 (m_197 x1 x2 (m_235 x1 M))) < 0 then (r_211 x3 (m_197 x1 x2 (m_235 x1 M))) else (r_211 x3 (m_197 x1 x2 (m_235 x1 M)))) else (r_197 x1 x2 (m_235 x1 M))) else 0
noncomputable def m_263 (x1 : Int32) (x2 : Int32) (x3 : Int32) (M : ux_M) : ux_M := if (r_235 x1 M) = 0 then (if (r_197 x1 x2 (m_235 x1 M)) = 0 then (if (r_211 x3 (m_197 x1 x2 (m_235 x1 M))) < 0 then (m_211 x3 (m_197 x1 x2 (m_235 x1 M))) else (m_218 (m_211 x3 (m_197 x1 x2 (m_235 x1 M))))) else (m_197 x1 x2 (m_235 x1 M))) else (m_235 x1 M)
theorem sf_263 {l : Launch} {E : ux_E} (hS : ux_SpecOK l E ux_chs) {d : Nat} (x1 : Int32) (x2 : Int32) (x3 : Int32) (M : ux_M) {Q : Int32 → ux_M → Prop} (h : p_263 x1 x2 x3 M) (hq0 : Q (r_263 x1 x2 x3 M) (m_263 x1 x2 x3 M)) : ux_Call l E (d + 35) y_263 [.inr (.inr (5, 819253, 0)), .inl x1, .inl x2, .inl x3] M (ux_CI Q) := by
  have hq : (ux_CI Q) (some (.inl (r_263 x1 x2 x3 M))) (m_263 x1 x2 x3 M) := ⟨_, rfl, hq0⟩
  exact c_263 hS (d := d + 34) x1 x2 x3 M (sf_235 hS x1 _ h.1 ⟨fun q1 => (sf_197 hS x1 x2 _ (h.2.1 q1).1 ⟨fun q2 => (sf_211 hS x3 _ ((h.2.1 q1).2.1 q2).1 ⟨fun q3 => (ux_rm1 q3 (ux_rm1 q2 (ux_rm1 q1 hq))), fun q3 => (sf_218 hS  _ (((h.2.1 q1).2.1 q2).2.2 q3) (ux_rm0 q3 (ux_rm1 q2 (ux_rm1 q1 hq))))⟩), fun q2 => (ux_rm0 q2 (ux_rm1 q1 hq))⟩), fun q1 => (ux_rm0 q1 hq)⟩)
-- Model.start 
def p_262 (x1 : Int32) (x2 : Int32) (M : ux_M) : Prop := p_263 x1 1 x2 M
noncomputable def r_262 (x1 : Int32) (x2 : Int32) (M : ux_M) : Int32 := (r_263 x1 1 x2 M)
noncomputable def m_262 (x1 : Int32) (x2 : Int32) (M : ux_M) : ux_M := (m_263 x1 1 x2 M)
theorem sf_262 {l : Launch} {E : ux_E} (hS : ux_SpecOK l E ux_chs) {d : Nat} (x1 : Int32) (x2 : Int32) (M : ux_M) {Q : Int32 → ux_M → Prop} (h : p_262 x1 x2 M) (hq0 : Q (r_262 x1 x2 M) (m_262 x1 x2 M)) : ux_Call l E (d + 36) y_262 [.inr (.inr (5, 819253, 0)), .inl x1, .inl x2] M (ux_CI Q) := by
  have hq : (ux_CI Q) (some (.inl (r_262 x1 x2 M))) (m_262 x1 x2 M) := ⟨_, rfl, hq0⟩
  exact c_262 hS (d := d + 35) x1 x2 M (sf_263 hS x1 1 x2 _ h hq)
-- Model.stop 
def p_264 (x1 : Int32) (x2 : Int32) (M : ux_M) : Prop := p_263 x1 2 x2 M
noncomputable def r_264 (x1 : Int32) (x2 : Int32) (M : ux_M) : Int32 := (r_263 x1 2 x2 M)
noncomputable def m_264 (x1 : Int32) (x2 : Int32) (M : ux_M) : ux_M := (m_263 x1 2 x2 M)
theorem sf_264 {l : Launch} {E : ux_E} (hS : ux_SpecOK l E ux_chs) {d : Nat} (x1 : Int32) (x2 : Int32) (M : ux_M) {Q : Int32 → ux_M → Prop} (h : p_264 x1 x2 M) (hq0 : Q (r_264 x1 x2 M) (m_264 x1 x2 M)) : ux_Call l E (d + 36) y_264 [.inr (.inr (5, 819253, 0)), .inl x1, .inl x2] M (ux_CI Q) := by
  have hq : (ux_CI Q) (some (.inl (r_264 x1 x2 M))) (m_264 x1 x2 M) := ⟨_, rfl, hq0⟩
  exact c_264 hS (d := d + 35) x1 x2 M (sf_263 hS x1 2 x2 _ h hq)
-- Model.restart 
def p_265 (x1 : Int32) (x2 : Int32) (M : ux_M) : Prop := p_263 x1 3 x2 M
noncomputable def r_265 (x1 : Int32) (x2 : Int32) (M : ux_M) : Int32 := (r_263 x1 3 x2 M)
noncomputable def m_265 (x1 : Int32) (x2 : Int32) (M : ux_M) : ux_M := (m_263 x1 3 x2 M)
theorem sf_265 {l : Launch} {E : ux_E} (hS : ux_SpecOK l E ux_chs) {d : Nat} (x1 : Int32) (x2 : Int32) (M : ux_M) {Q : Int32 → ux_M → Prop} (h : p_265 x1 x2 M) (hq0 : Q (r_265 x1 x2 M) (m_265 x1 x2 M)) : ux_Call l E (d + 36) y_265 [.inr (.inr (5, 819253, 0)), .inl x1, .inl x2] M (ux_CI Q) := by
  have hq : (ux_CI Q) (some (.inl (r_265 x1 x2 M))) (m_265 x1 x2 M) := ⟨_, rfl, hq0⟩
  exact c_265 hS (d := d + 35) x1 x2 M (sf_263 hS x1 3 x2 _ h hq)
-- Model.cancel 
def p_266 (x1 : Int32) (M : ux_M) : Prop := p_235 x1 M ∧ ((r_235 x1 M) = 0 → ux_u x1 29 ∧ (((ux_of (m_235 x1 M) x1 29) : Int32) = 0 → True) ∧ (¬ ((ux_of (m_235 x1 M) x1 29) : Int32) = 0 → ux_u x1 30 ∧ (¬ ((ux_of (m_235 x1 M) x1 30) : Int32) = 1 → ux_u x1 29 ∧ ux_u x1 29 ∧ ∀ M7 : ux_M, M7 = ux_put (m_235 x1 M) x1 29 0 → ux_u x1 30 ∧ ∀ M8 : ux_M, M8 = ux_put M7 x1 30 0 → ux_u x1 41 ∧ ∀ M9 : ux_M, M9 = ux_put M8 x1 41 4 → (¬ ((((ux_of (m_235 x1 M) x1 29) : Int32) = 1) ∨ (((ux_of (m_235 x1 M) x1 29) : Int32) = 3)) → p_218 M9 ∧ p_257 (m_218 M9)) ∧ ((((ux_of (m_235 x1 M) x1 29) : Int32) = 1) ∨ (((ux_of (m_235 x1 M) x1 29) : Int32) = 3) → p_189 x1 M9 ∧ p_186 x1 (m_189 x1 M9) ∧ p_218 (m_186 x1 (m_189 x1 M9)) ∧ p_257 (m_218 (m_186 x1 (m_189 x1 M9))))) ∧ (((ux_of (m_235 x1 M) x1 30) : Int32) = 1 → True))) ∧ (¬ (r_235 x1 M) = 0 → True)
noncomputable def r_266 (x1 : Int32) (M : ux_M) : Int32 := if (r_235 x1 M) = 0 then (if ((ux_of (m_235 x1 M) x1 29) : Int32) = 0 then (-7) else (if ((ux_of (m_235 x1 M) x1 30) : Int32) = 1 then (-7) else (let M7 : ux_M := ux_put (m_235 x1 M) x1 29 0; let M8 : ux_M := ux_put M7 x1 30 0; let M9 : ux_M := ux_put M8 x1 41 4; if (((ux_of (m_235 x1 M) x1 29) : Int32) = 1) ∨ (((ux_of (m_235 x1 M) x1 29) : Int32) = 3) then (r_257 (m_218 (m_186 x1 (m_189 x1 M9)))) else (r_257 (m_218 M9))))) else 0
noncomputable def m_266 (x1 : Int32) (M : ux_M) : ux_M := if (r_235 x1 M) = 0 then (if ((ux_of (m_235 x1 M) x1 29) : Int32) = 0 then (m_235 x1 M) else (if ((ux_of (m_235 x1 M) x1 30) : Int32) = 1 then (m_235 x1 M) else (let M7 : ux_M := ux_put (m_235 x1 M) x1 29 0; let M8 : ux_M := ux_put M7 x1 30 0; let M9 : ux_M := ux_put M8 x1 41 4; if (((ux_of (m_235 x1 M) x1 29) : Int32) = 1) ∨ (((ux_of (m_235 x1 M) x1 29) : Int32) = 3) then (m_218 (m_186 x1 (m_189 x1 M9))) else (m_218 M9)))) else (m_235 x1 M)
theorem sf_266 {l : Launch} {E : ux_E} (hS : ux_SpecOK l E ux_chs) {d : Nat} (x1 : Int32) (M : ux_M) {Q : Int32 → ux_M → Prop} (h : p_266 x1 M) (hq0 : Q (r_266 x1 M) (m_266 x1 M)) : ux_Call l E (d + 35) y_266 [.inr (.inr (5, 819253, 0)), .inl x1] M (ux_CI Q) := by
  have hq : (ux_CI Q) (some (.inl (r_266 x1 M))) (m_266 x1 M) := ⟨_, rfl, hq0⟩
  exact c_266 hS (d := d + 33) x1 M (sf_235 hS x1 _ h.1 ⟨fun q1 => ⟨(h.2.1 q1).1, ⟨fun q2 => (ux_rm1 q2 (ux_rm1 q1 hq)), fun q2 => ⟨((h.2.1 q1).2.2 q2).1, ⟨fun q3 => ⟨(((h.2.1 q1).2.2 q2).2.1 q3).1, ⟨(((h.2.1 q1).2.2 q2).2.1 q3).2.1, (fun M7 e_M7 => by subst e_M7; exact ⟨((((h.2.1 q1).2.2 q2).2.1 q3).2.2 _ rfl).1, (fun M8 e_M8 => by subst e_M8; exact ⟨(((((h.2.1 q1).2.2 q2).2.1 q3).2.2 _ rfl).2 _ rfl).1, (fun M9 e_M9 => by subst e_M9; exact ⟨fun q4 => (sf_218 hS  _ (((((((h.2.1 q1).2.2 q2).2.1 q3).2.2 _ rfl).2 _ rfl).2 _ rfl).1 q4).1 (sf_257 hS  _ (((((((h.2.1 q1).2.2 q2).2.1 q3).2.2 _ rfl).2 _ rfl).2 _ rfl).1 q4).2 (ux_rm0 q4 (ux_rm0 q3 (ux_rm0 q2 (ux_rm1 q1 hq)))))), fun q4 => (sf_189 hS x1 _ (((((((h.2.1 q1).2.2 q2).2.1 q3).2.2 _ rfl).2 _ rfl).2 _ rfl).2 q4).1 (sf_186 hS x1 _ (((((((h.2.1 q1).2.2 q2).2.1 q3).2.2 _ rfl).2 _ rfl).2 _ rfl).2 q4).2.1 (sf_218 hS  _ (((((((h.2.1 q1).2.2 q2).2.1 q3).2.2 _ rfl).2 _ rfl).2 _ rfl).2 q4).2.2.1 (sf_257 hS  _ (((((((h.2.1 q1).2.2 q2).2.1 q3).2.2 _ rfl).2 _ rfl).2 _ rfl).2 q4).2.2.2 (ux_rm1 q4 (ux_rm0 q3 (ux_rm0 q2 (ux_rm1 q1 hq))))))))⟩)⟩)⟩)⟩⟩, fun q3 => (ux_rm1 q3 (ux_rm0 q2 (ux_rm1 q1 hq)))⟩⟩⟩⟩, fun q1 => (ux_rm0 q1 hq)⟩)
-- Model.connects 
def p_268_103 (x2 : Int32) (z0 : Int32) (M : ux_M) : Prop := ux_u x2 29 ∧ (¬ ((ux_of M x2 29) : Int32) = 0 → True) ∧ (((ux_of M x2 29) : Int32) = 0 → ux_u x2 31 ∧ (¬ ((ux_of M x2 31) : Int32) = 0 → True) ∧ (((ux_of M x2 31) : Int32) = 0 → (z0 = 0 → True) ∧ (¬ z0 = 0 → p_197 x2 1 M ∧ (¬ (r_197 x2 1 M) = 0 → True) ∧ ((r_197 x2 1 M) = 0 → p_211 0 (m_197 x2 1 M)))))
noncomputable def r_268_103 (x2 : Int32) (z0 : Int32) (M : ux_M) : Int32 := if ((ux_of M x2 29) : Int32) = 0 then (if ((ux_of M x2 31) : Int32) = 0 then (if z0 = 0 then 1 else (if (r_197 x2 1 M) = 0 then 1 else 1)) else 1) else 1
noncomputable def m_268_103 (x2 : Int32) (z0 : Int32) (M : ux_M) : ux_M := if ((ux_of M x2 29) : Int32) = 0 then (if ((ux_of M x2 31) : Int32) = 0 then (if z0 = 0 then M else (if (r_197 x2 1 M) = 0 then (m_211 0 (m_197 x2 1 M)) else (m_197 x2 1 M))) else M) else M
def p_268_98 (x2 : Int32) (M : ux_M) : Prop := p_268_103 x2 (1 : Int32) M
noncomputable def r_268_98 (x2 : Int32) (M : ux_M) : Int32 := r_268_103 x2 (1 : Int32) M
noncomputable def m_268_98 (x2 : Int32) (M : ux_M) : ux_M := m_268_103 x2 (1 : Int32) M
def p_268 (x1 : Int32) (M : ux_M) : Prop := ux_u x1 20 ∧ ux_u (ux_of M x1 20) 28 ∧ (¬ ((ux_of M (ux_of M x1 20) 28) : Int32) = 2 → ux_u x1 42 ∧ ux_u x1 21 ∧ (((ux_of M x1 42) : Int32) < (ux_of M x1 21) → ux_u x1 42 ∧ ∀ M3 : ux_M, M3 = ux_put M x1 42 (ux_of M x1 42 + 1) → ux_u (ux_of M x1 20) 28 ∧ (((ux_of M3 (ux_of M x1 20) 28) : Int32) = 0 → p_268_98 (ux_of M x1 20) M3) ∧ (¬ ((ux_of M3 (ux_of M x1 20) 28) : Int32) = 0 → ux_u (ux_of M x1 20) 28 ∧ (¬ ((ux_of M3 (ux_of M x1 20) 28) : Int32) = 4 → p_268_103 (ux_of M x1 20) (0 : Int32) M3) ∧ (((ux_of M3 (ux_of M x1 20) 28) : Int32) = 4 → p_268_98 (ux_of M x1 20) M3))) ∧ (¬ ((ux_of M x1 42) : Int32) < (ux_of M x1 21) → ux_u x1 44)) ∧ (((ux_of M (ux_of M x1 20) 28) : Int32) = 2 → ux_u x1 43 ∧ ∀ M9 : ux_M, M9 = ux_put M x1 43 (ux_of M x1 43 + 1) → vp_in 0 1084 ∧ ux_u (ux_of M x1 20) 37)
noncomputable def r_268 (x1 : Int32) (M : ux_M) : Int32 := if ((ux_of M (ux_of M x1 20) 28) : Int32) = 2 then (let M9 : ux_M := ux_put M x1 43 (ux_of M x1 43 + 1); let M11 : ux_M := ux_put M9 (ux_of M x1 20) 37 (M9 5 844257 0 (0 : Int32).toNatClampNeg); 1) else (if ((ux_of M x1 42) : Int32) < (ux_of M x1 21) then (let M3 : ux_M := ux_put M x1 42 (ux_of M x1 42 + 1); if ((ux_of M3 (ux_of M x1 20) 28) : Int32) = 0 then (r_268_98 (ux_of M x1 20) M3) else (if ((ux_of M3 (ux_of M x1 20) 28) : Int32) = 4 then (r_268_98 (ux_of M x1 20) M3) else (r_268_103 (ux_of M x1 20) (0 : Int32) M3))) else (let M7 : ux_M := ux_put M x1 44 (ux_of M x1 44 + 1); 0))
noncomputable def m_268 (x1 : Int32) (M : ux_M) : ux_M := if ((ux_of M (ux_of M x1 20) 28) : Int32) = 2 then (let M9 : ux_M := ux_put M x1 43 (ux_of M x1 43 + 1); let M11 : ux_M := ux_put M9 (ux_of M x1 20) 37 (M9 5 844257 0 (0 : Int32).toNatClampNeg); M11) else (if ((ux_of M x1 42) : Int32) < (ux_of M x1 21) then (let M3 : ux_M := ux_put M x1 42 (ux_of M x1 42 + 1); if ((ux_of M3 (ux_of M x1 20) 28) : Int32) = 0 then (m_268_98 (ux_of M x1 20) M3) else (if ((ux_of M3 (ux_of M x1 20) 28) : Int32) = 4 then (m_268_98 (ux_of M x1 20) M3) else (m_268_103 (ux_of M x1 20) (0 : Int32) M3))) else (let M7 : ux_M := ux_put M x1 44 (ux_of M x1 44 + 1); M7))
theorem sa_268_103 {l : Launch} {E : ux_E} (hS : ux_SpecOK l E ux_chs) {d : Nat} (x2 : Int32) (z0 : Int32) (M : ux_M) {Q : Option ux_V → ux_M → Prop} (h : p_268_103 x2 z0 M) (hq : Q (some (.inl (r_268_103 x2 z0 M))) (m_268_103 x2 z0 M)) : ux_At l E (d + 28) y_268 103 [some (.inr (.inr (5, 819253, 0))), none, some (.inl x2), none, none] [.inl z0] M Q := w_268_103 hS (d := d + 27) x2 z0 M ⟨h.1, ⟨fun q1 => (ux_rm0 q1 hq), fun q1 => ⟨(h.2.2 q1).1, ⟨fun q2 => (ux_rm0 q2 (ux_rm1 q1 hq)), fun q2 => ⟨fun q3 => (ux_rm1 q3 (ux_rm1 q2 (ux_rm1 q1 hq))), fun q3 => (sf_197 hS x2 1 _ (((h.2.2 q1).2.2 q2).2 q3).1 ⟨fun q4 => (ux_rm0 q4 (ux_rm0 q3 (ux_rm1 q2 (ux_rm1 q1 hq)))), fun q4 => (sf_211 hS 0 _ ((((h.2.2 q1).2.2 q2).2 q3).2.2 q4) (ux_rm1 q4 (ux_rm0 q3 (ux_rm1 q2 (ux_rm1 q1 hq)))))⟩)⟩⟩⟩⟩⟩
theorem sa_268_98 {l : Launch} {E : ux_E} (hS : ux_SpecOK l E ux_chs) {d : Nat} (x2 : Int32) (M : ux_M) {Q : Option ux_V → ux_M → Prop} (h : p_268_98 x2 M) (hq : Q (some (.inl (r_268_98 x2 M))) (m_268_98 x2 M)) : ux_At l E (d + 28) y_268 98 [some (.inr (.inr (5, 819253, 0))), none, some (.inl x2), none, none] [] M Q := w_268_98 hS (d := d + 27) x2 M (sa_268_103 hS x2 (1 : Int32) _ h hq)
theorem sf_268 {l : Launch} {E : ux_E} (hS : ux_SpecOK l E ux_chs) {d : Nat} (x1 : Int32) (M : ux_M) {Q : Int32 → ux_M → Prop} (h : p_268 x1 M) (hq0 : Q (r_268 x1 M) (m_268 x1 M)) : ux_Call l E (d + 28) y_268 [.inr (.inr (5, 819253, 0)), .inl x1] M (ux_CI Q) := by
  have hq : (ux_CI Q) (some (.inl (r_268 x1 M))) (m_268 x1 M) := ⟨_, rfl, hq0⟩
  exact c_268 hS (d := d + 27) x1 M ⟨h.1, ⟨h.2.1, ⟨fun q5 => ⟨(h.2.2.1 q5).1, ⟨(h.2.2.1 q5).2.1, ⟨fun q6 => ⟨((h.2.2.1 q5).2.2.1 q6).1, (fun M3 e_M3 => by subst e_M3; exact ⟨(((h.2.2.1 q5).2.2.1 q6).2 _ rfl).1, ⟨fun q7 => (sa_268_98 hS (ux_of M x1 20) _ ((((h.2.2.1 q5).2.2.1 q6).2 _ rfl).2.1 q7) (ux_rm1 q7 (ux_rm1 q6 (ux_rm0 q5 hq)))), fun q7 => ⟨((((h.2.2.1 q5).2.2.1 q6).2 _ rfl).2.2 q7).1, ⟨fun q8 => (sa_268_103 hS (ux_of M x1 20) (0 : Int32) _ (((((h.2.2.1 q5).2.2.1 q6).2 _ rfl).2.2 q7).2.1 q8) (ux_rm0 q8 (ux_rm0 q7 (ux_rm1 q6 (ux_rm0 q5 hq))))), fun q8 => (sa_268_98 hS (ux_of M x1 20) _ (((((h.2.2.1 q5).2.2.1 q6).2 _ rfl).2.2 q7).2.2 q8) (ux_rm1 q8 (ux_rm0 q7 (ux_rm1 q6 (ux_rm0 q5 hq)))))⟩⟩⟩⟩)⟩, fun q6 => ⟨((h.2.2.1 q5).2.2.2 q6), (fun M7 e_M7 => by subst e_M7; exact (ux_rm0 q6 (ux_rm0 q5 hq)))⟩⟩⟩⟩, fun q5 => ⟨(h.2.2.2 q5).1, (fun M9 e_M9 => by subst e_M9; exact ⟨((h.2.2.2 q5).2 _ rfl).1, ⟨((h.2.2.2 q5).2 _ rfl).2, (fun M11 e_M11 => by subst e_M11; exact (ux_rm1 q5 hq))⟩⟩)⟩⟩⟩⟩
-- Model.connect 
def p_267_64 : Nat → Int32 → Int32 → Int32 → Int32 → ux_M → Prop
  | 0, _, _, _, _, _ => False
  | f + 1, x1, x2, x3, x4, M => (x2 ≤ x4 → p_218 M) ∧ (¬ x2 ≤ x4 → p_268 x1 M ∧ ((r_268 x1 M) = 0 → p_267_64 f x1 x2 (x3 + (0 : Int32)) (x4 + 1) (m_268 x1 M)) ∧ (¬ (r_268 x1 M) = 0 → p_267_64 f x1 x2 (x3 + (1 : Int32)) (x4 + 1) (m_268 x1 M)))
noncomputable def r_267_64 : Nat → Int32 → Int32 → Int32 → Int32 → ux_M → Int32
  | 0, _, _, _, _, _ => 0
  | f + 1, x1, x2, x3, x4, M => if x2 ≤ x4 then x3 else (if (r_268 x1 M) = 0 then (r_267_64 f x1 x2 (x3 + (0 : Int32)) (x4 + 1) (m_268 x1 M)) else (r_267_64 f x1 x2 (x3 + (1 : Int32)) (x4 + 1) (m_268 x1 M)))
noncomputable def m_267_64 : Nat → Int32 → Int32 → Int32 → Int32 → ux_M → ux_M
  | 0, _, _, _, _, M => M
  | f + 1, x1, x2, x3, x4, M => if x2 ≤ x4 then (m_218 M) else (if (r_268 x1 M) = 0 then (m_267_64 f x1 x2 (x3 + (0 : Int32)) (x4 + 1) (m_268 x1 M)) else (m_267_64 f x1 x2 (x3 + (1 : Int32)) (x4 + 1) (m_268 x1 M)))
def p_267_26 (x1 : Int32) (x2 : Int32) (z0 : Int32) (M : ux_M) : Prop := p_176 z0 2 M ∧ ((r_176 z0 2 M) = 0 → ux_u x1 0 ∧ (¬ ((ux_of (m_176 z0 2 M) x1 0) : Int32) = 1 → True) ∧ (((ux_of (m_176 z0 2 M) x1 0) : Int32) = 1 → ux_u x1 28 ∧ (((ux_of (m_176 z0 2 M) x1 28) : Int32) = 2 → p_267_64 ux_fuel x1 x2 (0 : Int32) (0 : Int32) (m_176 z0 2 M)) ∧ (¬ ((ux_of (m_176 z0 2 M) x1 28) : Int32) = 2 → True))) ∧ (¬ (r_176 z0 2 M) = 0 → True)
noncomputable def r_267_26 (x1 : Int32) (x2 : Int32) (z0 : Int32) (M : ux_M) : Int32 := if (r_176 z0 2 M) = 0 then (if ((ux_of (m_176 z0 2 M) x1 0) : Int32) = 1 then (if ((ux_of (m_176 z0 2 M) x1 28) : Int32) = 2 then (r_267_64 ux_fuel x1 x2 (0 : Int32) (0 : Int32) (m_176 z0 2 M)) else (-7)) else (-7)) else 0
noncomputable def m_267_26 (x1 : Int32) (x2 : Int32) (z0 : Int32) (M : ux_M) : ux_M := if (r_176 z0 2 M) = 0 then (if ((ux_of (m_176 z0 2 M) x1 0) : Int32) = 1 then (if ((ux_of (m_176 z0 2 M) x1 28) : Int32) = 2 then (m_267_64 ux_fuel x1 x2 (0 : Int32) (0 : Int32) (m_176 z0 2 M)) else (m_176 z0 2 M)) else (m_176 z0 2 M)) else (m_176 z0 2 M)
def p_267 (x1 : Int32) (x2 : Int32) (M : ux_M) : Prop := p_235 x1 M ∧ (¬ (r_235 x1 M) = 0 → True) ∧ ((r_235 x1 M) = 0 → (¬ (((lg_cmp ((x2 : Int32).toInt64) ((1 : Int32).toInt64)) : Int32) < 0) ∧ (¬ ((0 : Int32) < (lg_cmp ((x2 : Int32).toInt64) (Int64.ofNat 100)))) → p_267_26 x1 x2 (0 : Int32) (m_235 x1 M)) ∧ (¬ (¬ (((lg_cmp ((x2 : Int32).toInt64) ((1 : Int32).toInt64)) : Int32) < 0) ∧ (¬ ((0 : Int32) < (lg_cmp ((x2 : Int32).toInt64) (Int64.ofNat 100))))) → p_267_26 x1 x2 (1 : Int32) (m_235 x1 M)))
noncomputable def r_267 (x1 : Int32) (x2 : Int32) (M : ux_M) : Int32 := if (r_235 x1 M) = 0 then (if ¬ (((lg_cmp ((x2 : Int32).toInt64) ((1 : Int32).toInt64)) : Int32) < 0) ∧ (¬ ((0 : Int32) < (lg_cmp ((x2 : Int32).toInt64) (Int64.ofNat 100)))) then (r_267_26 x1 x2 (0 : Int32) (m_235 x1 M)) else (r_267_26 x1 x2 (1 : Int32) (m_235 x1 M))) else 0
noncomputable def m_267 (x1 : Int32) (x2 : Int32) (M : ux_M) : ux_M := if (r_235 x1 M) = 0 then (if ¬ (((lg_cmp ((x2 : Int32).toInt64) ((1 : Int32).toInt64)) : Int32) < 0) ∧ (¬ ((0 : Int32) < (lg_cmp ((x2 : Int32).toInt64) (Int64.ofNat 100)))) then (m_267_26 x1 x2 (0 : Int32) (m_235 x1 M)) else (m_267_26 x1 x2 (1 : Int32) (m_235 x1 M))) else (m_235 x1 M)
theorem sa_267_64 {l : Launch} {E : ux_E} (hS : ux_SpecOK l E ux_chs) {d : Nat} {Q : Option ux_V → ux_M → Prop} (f : Nat) (x1 : Int32) (x2 : Int32) (x3 : Int32) (x4 : Int32) (M : ux_M) (h : p_267_64 f x1 x2 x3 x4 M) (hq : Q (some (.inl (r_267_64 f x1 x2 x3 x4 M))) (m_267_64 f x1 x2 x3 x4 M)) : ux_At l E (d + 35) y_267 64 [some (.inr (.inr (5, 819253, 0))), some (.inl x1), some (.inl x2), some (.inl x3), some (.inl x4)] [] M Q := by
  induction f generalizing x1 x2 x3 x4 M with
  | zero => exact h.elim
  | succ f ih => exact w_267_64 hS (d := d + 34) x1 x2 x3 x4 M ⟨fun q1 => (sf_218 hS  _ (h.1 q1) (ux_rm1 q1 hq)), fun q1 => (sf_268 hS x1 _ (h.2 q1).1 ⟨fun q2 => (ih x1 x2 (x3 + (0 : Int32)) (x4 + 1) _ ((h.2 q1).2.1 q2) (ux_rm1 q2 (ux_rm0 q1 hq))), fun q2 => (ih x1 x2 (x3 + (1 : Int32)) (x4 + 1) _ ((h.2 q1).2.2 q2) (ux_rm0 q2 (ux_rm0 q1 hq)))⟩)⟩
theorem sa_267_26 {l : Launch} {E : ux_E} (hS : ux_SpecOK l E ux_chs) {d : Nat} (x1 : Int32) (x2 : Int32) (z0 : Int32) (M : ux_M) {Q : Option ux_V → ux_M → Prop} (h : p_267_26 x1 x2 z0 M) (hq : Q (some (.inl (r_267_26 x1 x2 z0 M))) (m_267_26 x1 x2 z0 M)) : ux_At l E (d + 35) y_267 26 [some (.inr (.inr (5, 819253, 0))), some (.inl x1), some (.inl x2), none, none] [.inl z0, .inr (.inr (5, 819253, 0))] M Q := w_267_26 hS (d := d + 34) x1 x2 z0 M (sf_176 hS z0 2 _ h.1 ⟨fun q3 => ⟨(h.2.1 q3).1, ⟨fun q4 => (ux_rm0 q4 (ux_rm1 q3 hq)), fun q4 => ⟨((h.2.1 q3).2.2 q4).1, ⟨fun q5 => (sa_267_64 hS ux_fuel x1 x2 (0 : Int32) (0 : Int32) _ (((h.2.1 q3).2.2 q4).2.1 q5) (ux_rm1 q5 (ux_rm1 q4 (ux_rm1 q3 hq)))), fun q5 => (ux_rm0 q5 (ux_rm1 q4 (ux_rm1 q3 hq)))⟩⟩⟩⟩, fun q3 => (ux_rm0 q3 hq)⟩)
theorem sf_267 {l : Launch} {E : ux_E} (hS : ux_SpecOK l E ux_chs) {d : Nat} (x1 : Int32) (x2 : Int32) (M : ux_M) {Q : Int32 → ux_M → Prop} (h : p_267 x1 x2 M) (hq0 : Q (r_267 x1 x2 M) (m_267 x1 x2 M)) : ux_Call l E (d + 35) y_267 [.inr (.inr (5, 819253, 0)), .inl x1, .inl x2] M (ux_CI Q) := by
  have hq : (ux_CI Q) (some (.inl (r_267 x1 x2 M))) (m_267 x1 x2 M) := ⟨_, rfl, hq0⟩
  exact c_267 hS (d := d + 34) x1 x2 M (sf_235 hS x1 _ h.1 ⟨fun q6 => (ux_rm0 q6 hq), fun q6 => ⟨fun q7 => (sa_267_26 hS x1 x2 (0 : Int32) _ ((h.2.2 q6).1 q7) (ux_rm1 q7 (ux_rm1 q6 hq))), fun q7 => (sa_267_26 hS x1 x2 (1 : Int32) _ ((h.2.2 q6).2 q7) (ux_rm0 q7 (ux_rm1 q6 hq)))⟩⟩)
-- Model.canBeKilled 
def p_270 (x1 : Int32) (M : ux_M) : Prop := ux_u x1 0 ∧ (¬ ((ux_of M x1 0) : Int32) = 0 → True) ∧ (((ux_of M x1 0) : Int32) = 0 → ux_u x1 28 ∧ (((ux_of M x1 28) : Int32) = 1 → True) ∧ (¬ ((ux_of M x1 28) : Int32) = 1 → ux_u x1 28))
noncomputable def r_270 (x1 : Int32) (M : ux_M) : Int32 := if ((ux_of M x1 0) : Int32) = 0 then (if ((ux_of M x1 28) : Int32) = 1 then 1 else (if ((ux_of M x1 28) : Int32) = 2 then 1 else 0)) else 0
theorem sf_270 {l : Launch} {E : ux_E} (hS : ux_SpecOK l E ux_chs) {d : Nat} (x1 : Int32) (M : ux_M) {Q : Int32 → ux_M → Prop} (h : p_270 x1 M) (hq0 : Q (r_270 x1 M) M) : ux_Call l E (d + 1) y_270 [.inr (.inr (5, 819253, 0)), .inl x1] M (ux_CI Q) := by
  have hq : (ux_CI Q) (some (.inl (r_270 x1 M))) M := ⟨_, rfl, hq0⟩
  exact c_270 hS x1 M ⟨h.1, ⟨fun q1 => (ux_r0 q1 hq), fun q1 => ⟨(h.2.2 q1).1, ⟨fun q2 => (ux_r1 q2 (ux_r1 q1 hq)), fun q2 => ⟨((h.2.2 q1).2.2 q2), ⟨fun q3 => (ux_r0 q3 (ux_r0 q2 (ux_r1 q1 hq))), fun q3 => (ux_r1 q3 (ux_r0 q2 (ux_r1 q1 hq)))⟩⟩⟩⟩⟩⟩
-- Model.kills 
def p_271 (x1 : Int32) (x2 : Int32) (M : ux_M) : Prop := ux_u x1 28 ∧ (¬ ((ux_of M x1 28) : Int32) = 1 → p_193 x1 x2 M ∧ p_218 (m_193 x1 x2 M)) ∧ (((ux_of M x1 28) : Int32) = 1 → ux_u x1 29 ∧ (¬ ((ux_of M x1 29) : Int32) = 1 → p_193 x1 x2 M ∧ p_218 (m_193 x1 x2 M)) ∧ (((ux_of M x1 29) : Int32) = 1 → p_182 x1 1 M ∧ p_193 x1 x2 (m_182 x1 1 M) ∧ p_218 (m_193 x1 x2 (m_182 x1 1 M))))
noncomputable def m_271 (x1 : Int32) (x2 : Int32) (M : ux_M) : ux_M := if ((ux_of M x1 28) : Int32) = 1 then (if ((ux_of M x1 29) : Int32) = 1 then (m_218 (m_193 x1 x2 (m_182 x1 1 M))) else (m_218 (m_193 x1 x2 M))) else (m_218 (m_193 x1 x2 M))
theorem sf_271 {l : Launch} {E : ux_E} (hS : ux_SpecOK l E ux_chs) {d : Nat} (x1 : Int32) (x2 : Int32) (M : ux_M) {Q : ux_M → Prop} (h : p_271 x1 x2 M) (hq0 : Q (m_271 x1 x2 M)) : ux_Call l E (d + 35) y_271 [.inr (.inr (5, 819253, 0)), .inl x1, .inl x2] M (ux_CV Q) := by
  have hq : (ux_CV Q) none (m_271 x1 x2 M) := ⟨rfl, hq0⟩
  exact c_271 hS (d := d + 34) x1 x2 M ⟨h.1, ⟨fun q1 => (sf_193 hS x1 x2 _ (h.2.1 q1).1 (sf_218 hS  _ (h.2.1 q1).2 (ux_v0 q1 hq))), fun q1 => ⟨(h.2.2 q1).1, ⟨fun q2 => (sf_193 hS x1 x2 _ ((h.2.2 q1).2.1 q2).1 (sf_218 hS  _ ((h.2.2 q1).2.1 q2).2 (ux_v0 q2 (ux_v1 q1 hq)))), fun q2 => (sf_182 hS x1 1 _ ((h.2.2 q1).2.2 q2).1 (sf_193 hS x1 x2 _ ((h.2.2 q1).2.2 q2).2.1 (sf_218 hS  _ ((h.2.2 q1).2.2 q2).2.2 (ux_v1 q2 (ux_v1 q1 hq)))))⟩⟩⟩⟩
-- Model.kill 
def p_269_26 (x1 : Int32) (x2 : Int32) (z0 : Int32) (M : ux_M) : Prop := p_176 z0 2 M ∧ ((r_176 z0 2 M) = 0 → p_270 x1 (m_176 z0 2 M) ∧ (¬ (r_270 x1 (m_176 z0 2 M)) = 0 → p_271 x1 x2 (m_176 z0 2 M) ∧ ux_u x1 28) ∧ ((r_270 x1 (m_176 z0 2 M)) = 0 → True)) ∧ (¬ (r_176 z0 2 M) = 0 → True)
noncomputable def r_269_26 (x1 : Int32) (x2 : Int32) (z0 : Int32) (M : ux_M) : Int32 := if (r_176 z0 2 M) = 0 then (if (r_270 x1 (m_176 z0 2 M)) = 0 then (-7) else (ux_of (m_271 x1 x2 (m_176 z0 2 M)) x1 28)) else 0
noncomputable def m_269_26 (x1 : Int32) (x2 : Int32) (z0 : Int32) (M : ux_M) : ux_M := if (r_176 z0 2 M) = 0 then (if (r_270 x1 (m_176 z0 2 M)) = 0 then (m_176 z0 2 M) else (m_271 x1 x2 (m_176 z0 2 M))) else (m_176 z0 2 M)
def p_269 (x1 : Int32) (x2 : Int32) (M : ux_M) : Prop := p_235 x1 M ∧ (¬ (r_235 x1 M) = 0 → True) ∧ ((r_235 x1 M) = 0 → (¬ (((lg_cmp ((x2 : Int32).toInt64) ((0 : Int32).toInt64)) : Int32) < 0) ∧ (¬ ((0 : Int32) < (lg_cmp ((x2 : Int32).toInt64) (Int64.ofNat 255)))) → p_269_26 x1 x2 (0 : Int32) (m_235 x1 M)) ∧ (¬ (¬ (((lg_cmp ((x2 : Int32).toInt64) ((0 : Int32).toInt64)) : Int32) < 0) ∧ (¬ ((0 : Int32) < (lg_cmp ((x2 : Int32).toInt64) (Int64.ofNat 255))))) → p_269_26 x1 x2 (1 : Int32) (m_235 x1 M)))
noncomputable def r_269 (x1 : Int32) (x2 : Int32) (M : ux_M) : Int32 := if (r_235 x1 M) = 0 then (if ¬ (((lg_cmp ((x2 : Int32).toInt64) ((0 : Int32).toInt64)) : Int32) < 0) ∧ (¬ ((0 : Int32) < (lg_cmp ((x2 : Int32).toInt64) (Int64.ofNat 255)))) then (r_269_26 x1 x2 (0 : Int32) (m_235 x1 M)) else (r_269_26 x1 x2 (1 : Int32) (m_235 x1 M))) else 0
noncomputable def m_269 (x1 : Int32) (x2 : Int32) (M : ux_M) : ux_M := if (r_235 x1 M) = 0 then (if ¬ (((lg_cmp ((x2 : Int32).toInt64) ((0 : Int32).toInt64)) : Int32) < 0) ∧ (¬ ((0 : Int32) < (lg_cmp ((x2 : Int32).toInt64) (Int64.ofNat 255)))) then (m_269_26 x1 x2 (0 : Int32) (m_235 x1 M)) else (m_269_26 x1 x2 (1 : Int32) (m_235 x1 M))) else (m_235 x1 M)
theorem sa_269_26 {l : Launch} {E : ux_E} (hS : ux_SpecOK l E ux_chs) {d : Nat} (x1 : Int32) (x2 : Int32) (z0 : Int32) (M : ux_M) {Q : Option ux_V → ux_M → Prop} (h : p_269_26 x1 x2 z0 M) (hq : Q (some (.inl (r_269_26 x1 x2 z0 M))) (m_269_26 x1 x2 z0 M)) : ux_At l E (d + 36) y_269 26 [some (.inr (.inr (5, 819253, 0))), some (.inl x1), some (.inl x2)] [.inl z0, .inr (.inr (5, 819253, 0))] M Q := w_269_26 hS (d := d + 35) x1 x2 z0 M (sf_176 hS z0 2 _ h.1 ⟨fun q1 => (sf_270 hS x1 _ (h.2.1 q1).1 ⟨fun q2 => (sf_271 hS x1 x2 _ ((h.2.1 q1).2.1 q2).1 ⟨((h.2.1 q1).2.1 q2).2, (ux_rm0 q2 (ux_rm1 q1 hq))⟩), fun q2 => (ux_rm1 q2 (ux_rm1 q1 hq))⟩), fun q1 => (ux_rm0 q1 hq)⟩)
theorem sf_269 {l : Launch} {E : ux_E} (hS : ux_SpecOK l E ux_chs) {d : Nat} (x1 : Int32) (x2 : Int32) (M : ux_M) {Q : Int32 → ux_M → Prop} (h : p_269 x1 x2 M) (hq0 : Q (r_269 x1 x2 M) (m_269 x1 x2 M)) : ux_Call l E (d + 36) y_269 [.inr (.inr (5, 819253, 0)), .inl x1, .inl x2] M (ux_CI Q) := by
  have hq : (ux_CI Q) (some (.inl (r_269 x1 x2 M))) (m_269 x1 x2 M) := ⟨_, rfl, hq0⟩
  exact c_269 hS (d := d + 35) x1 x2 M (sf_235 hS x1 _ h.1 ⟨fun q3 => (ux_rm0 q3 hq), fun q3 => ⟨fun q4 => (sa_269_26 hS x1 x2 (0 : Int32) _ ((h.2.2 q3).1 q4) (ux_rm1 q4 (ux_rm1 q3 hq))), fun q4 => (sa_269_26 hS x1 x2 (1 : Int32) _ ((h.2.2 q3).2 q4) (ux_rm0 q4 (ux_rm1 q3 hq)))⟩⟩)
-- Model.reset 
def p_272_45 (x1 : Int32) (M : ux_M) : Prop := ux_u x1 32 ∧ ∀ M1 : ux_M, M1 = ux_put M x1 32 0 → ux_u x1 38 ∧ ∀ M3 : ux_M, M3 = ux_put M1 x1 38 0 → ux_u x1 45 ∧ ∀ M5 : ux_M, M5 = ux_put M3 x1 45 0 → p_218 M5
noncomputable def r_272_45 (x1 : Int32) (M : ux_M) : Int32 := let M1 : ux_M := ux_put M x1 32 0; let M3 : ux_M := ux_put M1 x1 38 0; let M5 : ux_M := ux_put M3 x1 45 0; 1
noncomputable def m_272_45 (x1 : Int32) (M : ux_M) : ux_M := let M1 : ux_M := ux_put M x1 32 0; let M3 : ux_M := ux_put M1 x1 38 0; let M5 : ux_M := ux_put M3 x1 45 0; (m_218 M5)
def p_272 (x1 : Int32) (M : ux_M) : Prop := p_235 x1 M ∧ (¬ (r_235 x1 M) = 0 → True) ∧ ((r_235 x1 M) = 0 → ux_u x1 28 ∧ (¬ (¬ (((lg_cmp (((ux_of (m_235 x1 M) x1 28) : Int32).toInt64) ((1 : Int32).toInt64)) : Int32) < 0) ∧ (¬ ((0 : Int32) < (lg_cmp (((ux_of (m_235 x1 M) x1 28) : Int32).toInt64) (Int64.ofNat 3))))) → ux_u x1 28 ∧ (¬ ((ux_of (m_235 x1 M) x1 28) : Int32) = 4 → p_272_45 x1 (m_235 x1 M)) ∧ (((ux_of (m_235 x1 M) x1 28) : Int32) = 4 → p_190 x1 0 (m_235 x1 M) ∧ p_272_45 x1 (m_190 x1 0 (m_235 x1 M)))) ∧ (¬ (((lg_cmp (((ux_of (m_235 x1 M) x1 28) : Int32).toInt64) ((1 : Int32).toInt64)) : Int32) < 0) ∧ (¬ ((0 : Int32) < (lg_cmp (((ux_of (m_235 x1 M) x1 28) : Int32).toInt64) (Int64.ofNat 3)))) → True))
noncomputable def r_272 (x1 : Int32) (M : ux_M) : Int32 := if (r_235 x1 M) = 0 then (if ¬ (((lg_cmp (((ux_of (m_235 x1 M) x1 28) : Int32).toInt64) ((1 : Int32).toInt64)) : Int32) < 0) ∧ (¬ ((0 : Int32) < (lg_cmp (((ux_of (m_235 x1 M) x1 28) : Int32).toInt64) (Int64.ofNat 3)))) then 0 else (if ((ux_of (m_235 x1 M) x1 28) : Int32) = 4 then (r_272_45 x1 (m_190 x1 0 (m_235 x1 M))) else (r_272_45 x1 (m_235 x1 M)))) else 0
noncomputable def m_272 (x1 : Int32) (M : ux_M) : ux_M := if (r_235 x1 M) = 0 then (if ¬ (((lg_cmp (((ux_of (m_235 x1 M) x1 28) : Int32).toInt64) ((1 : Int32).toInt64)) : Int32) < 0) ∧ (¬ ((0 : Int32) < (lg_cmp (((ux_of (m_235 x1 M) x1 28) : Int32).toInt64) (Int64.ofNat 3)))) then (m_235 x1 M) else (if ((ux_of (m_235 x1 M) x1 28) : Int32) = 4 then (m_272_45 x1 (m_190 x1 0 (m_235 x1 M))) else (m_272_45 x1 (m_235 x1 M)))) else (m_235 x1 M)
theorem sa_272_45 {l : Launch} {E : ux_E} (hS : ux_SpecOK l E ux_chs) {d : Nat} (x1 : Int32) (M : ux_M) {Q : Option ux_V → ux_M → Prop} (h : p_272_45 x1 M) (hq : Q (some (.inl (r_272_45 x1 M))) (m_272_45 x1 M)) : ux_At l E (d + 35) y_272 45 [some (.inr (.inr (5, 819253, 0))), some (.inl x1)] [] M Q := w_272_45 hS (d := d + 34) x1 M ⟨h.1, (fun M1 e_M1 => by subst e_M1; exact ⟨(h.2 _ rfl).1, (fun M3 e_M3 => by subst e_M3; exact ⟨((h.2 _ rfl).2 _ rfl).1, (fun M5 e_M5 => by subst e_M5; exact (sf_218 hS  _ (((h.2 _ rfl).2 _ rfl).2 _ rfl) hq))⟩)⟩)⟩
theorem sf_272 {l : Launch} {E : ux_E} (hS : ux_SpecOK l E ux_chs) {d : Nat} (x1 : Int32) (M : ux_M) {Q : Int32 → ux_M → Prop} (h : p_272 x1 M) (hq0 : Q (r_272 x1 M) (m_272 x1 M)) : ux_Call l E (d + 35) y_272 [.inr (.inr (5, 819253, 0)), .inl x1] M (ux_CI Q) := by
  have hq : (ux_CI Q) (some (.inl (r_272 x1 M))) (m_272 x1 M) := ⟨_, rfl, hq0⟩
  exact c_272 hS (d := d + 34) x1 M (sf_235 hS x1 _ h.1 ⟨fun q1 => (ux_rm0 q1 hq), fun q1 => ⟨(h.2.2 q1).1, ⟨fun q2 => ⟨((h.2.2 q1).2.1 q2).1, ⟨fun q3 => (sa_272_45 hS x1 _ (((h.2.2 q1).2.1 q2).2.1 q3) (ux_rm0 q3 (ux_rm0 q2 (ux_rm1 q1 hq)))), fun q3 => (sf_190 hS x1 0 _ (((h.2.2 q1).2.1 q2).2.2 q3).1 (sa_272_45 hS x1 _ (((h.2.2 q1).2.1 q2).2.2 q3).2 (ux_rm1 q3 (ux_rm0 q2 (ux_rm1 q1 hq)))))⟩⟩, fun q2 => (ux_rm1 q2 (ux_rm1 q1 hq))⟩⟩⟩)
-- Model.setMasked 
def p_273_26 (x1 : Int32) (x2 : Int32) (z0 : Int32) (M : ux_M) : Prop := (x2 = 0 → ux_u x1 31 ∧ ∀ M2 : ux_M, M2 = ux_put M x1 31 0 → (z0 = 0 ∨ z0 = 1)) ∧ (¬ x2 = 0 → ux_u x1 31 ∧ ∀ M4 : ux_M, M4 = ux_put M x1 31 1 → (z0 = 0 ∨ z0 = 1))
noncomputable def r_273_26 (x1 : Int32) (x2 : Int32) (z0 : Int32) (M : ux_M) : Int32 := if x2 = 0 then (let M2 : ux_M := ux_put M x1 31 0; z0) else (let M4 : ux_M := ux_put M x1 31 1; z0)
noncomputable def m_273_26 (x1 : Int32) (x2 : Int32) (z0 : Int32) (M : ux_M) : ux_M := if x2 = 0 then (let M2 : ux_M := ux_put M x1 31 0; M2) else (let M4 : ux_M := ux_put M x1 31 1; M4)
def p_273 (x1 : Int32) (x2 : Int32) (M : ux_M) : Prop := p_235 x1 M ∧ ((r_235 x1 M) = 0 → ux_u x1 31 ∧ (¬ ((ux_of (m_235 x1 M) x1 31) : Int32) = 1 → p_273_26 x1 x2 (0 : Int32) (m_235 x1 M)) ∧ (((ux_of (m_235 x1 M) x1 31) : Int32) = 1 → p_273_26 x1 x2 (1 : Int32) (m_235 x1 M))) ∧ (¬ (r_235 x1 M) = 0 → True)
noncomputable def r_273 (x1 : Int32) (x2 : Int32) (M : ux_M) : Int32 := if (r_235 x1 M) = 0 then (if ((ux_of (m_235 x1 M) x1 31) : Int32) = 1 then (r_273_26 x1 x2 (1 : Int32) (m_235 x1 M)) else (r_273_26 x1 x2 (0 : Int32) (m_235 x1 M))) else 0
noncomputable def m_273 (x1 : Int32) (x2 : Int32) (M : ux_M) : ux_M := if (r_235 x1 M) = 0 then (if ((ux_of (m_235 x1 M) x1 31) : Int32) = 1 then (m_273_26 x1 x2 (1 : Int32) (m_235 x1 M)) else (m_273_26 x1 x2 (0 : Int32) (m_235 x1 M))) else (m_235 x1 M)
theorem sa_273_26 {l : Launch} {E : ux_E} (hS : ux_SpecOK l E ux_chs) {d : Nat} (x1 : Int32) (x2 : Int32) (z0 : Int32) (M : ux_M) {Q : Option ux_V → ux_M → Prop} (h : p_273_26 x1 x2 z0 M) (hq : Q (some (.inl (r_273_26 x1 x2 z0 M))) (m_273_26 x1 x2 z0 M)) : ux_At l E (d + 2) y_273 26 [some (.inr (.inr (5, 819253, 0))), some (.inl x1), some (.inl x2), none] [.inl z0] M Q := w_273_26 hS (d := d + 1) x1 x2 z0 M ⟨fun q1 => ⟨(h.1 q1).1, (fun M2 e_M2 => by subst e_M2; exact ⟨((h.1 q1).2 _ rfl), (ux_rm1 q1 hq)⟩)⟩, fun q1 => ⟨(h.2 q1).1, (fun M4 e_M4 => by subst e_M4; exact ⟨((h.2 q1).2 _ rfl), (ux_rm0 q1 hq)⟩)⟩⟩
theorem sf_273 {l : Launch} {E : ux_E} (hS : ux_SpecOK l E ux_chs) {d : Nat} (x1 : Int32) (x2 : Int32) (M : ux_M) {Q : Int32 → ux_M → Prop} (h : p_273 x1 x2 M) (hq0 : Q (r_273 x1 x2 M) (m_273 x1 x2 M)) : ux_Call l E (d + 2) y_273 [.inr (.inr (5, 819253, 0)), .inl x1, .inl x2] M (ux_CI Q) := by
  have hq : (ux_CI Q) (some (.inl (r_273 x1 x2 M))) (m_273 x1 x2 M) := ⟨_, rfl, hq0⟩
  exact c_273 hS (d := d + 1) x1 x2 M (sf_235 hS x1 _ h.1 ⟨fun q2 => ⟨(h.2.1 q2).1, ⟨fun q3 => (sa_273_26 hS x1 x2 (0 : Int32) _ ((h.2.1 q2).2.1 q3) (ux_rm0 q3 (ux_rm1 q2 hq))), fun q3 => (sa_273_26 hS x1 x2 (1 : Int32) _ ((h.2.1 q2).2.2 q3) (ux_rm1 q3 (ux_rm1 q2 hq)))⟩⟩, fun q2 => (ux_rm0 q2 hq)⟩)
-- Model.noPlan 
def p_275_26 (z0 : Int32) (M : ux_M) : Prop := p_176 z0 2 M
noncomputable def r_275_26 (z0 : Int32) (M : ux_M) : Int32 := if (r_176 z0 2 M) = 0 then 0 else 1
noncomputable def m_275_26 (z0 : Int32) (M : ux_M) : ux_M := if (r_176 z0 2 M) = 0 then (m_176 z0 2 M) else (m_176 z0 2 M)
def p_275 (x1 : Int32) (x2 : Int32) (M : ux_M) : Prop := p_235 x1 M ∧ (¬ (r_235 x1 M) = 0 → True) ∧ ((r_235 x1 M) = 0 → (¬ (((lg_cmp ((x2 : Int32).toInt64) ((1 : Int32).toInt64)) : Int32) < 0) ∧ (¬ ((0 : Int32) < (lg_cmp ((x2 : Int32).toInt64) (Int64.ofNat 3)))) → p_275_26 (0 : Int32) (m_235 x1 M)) ∧ (¬ (¬ (((lg_cmp ((x2 : Int32).toInt64) ((1 : Int32).toInt64)) : Int32) < 0) ∧ (¬ ((0 : Int32) < (lg_cmp ((x2 : Int32).toInt64) (Int64.ofNat 3))))) → p_275_26 (1 : Int32) (m_235 x1 M)))
noncomputable def r_275 (x1 : Int32) (x2 : Int32) (M : ux_M) : Int32 := if (r_235 x1 M) = 0 then (if ¬ (((lg_cmp ((x2 : Int32).toInt64) ((1 : Int32).toInt64)) : Int32) < 0) ∧ (¬ ((0 : Int32) < (lg_cmp ((x2 : Int32).toInt64) (Int64.ofNat 3)))) then (r_275_26 (0 : Int32) (m_235 x1 M)) else (r_275_26 (1 : Int32) (m_235 x1 M))) else 1
noncomputable def m_275 (x1 : Int32) (x2 : Int32) (M : ux_M) : ux_M := if (r_235 x1 M) = 0 then (if ¬ (((lg_cmp ((x2 : Int32).toInt64) ((1 : Int32).toInt64)) : Int32) < 0) ∧ (¬ ((0 : Int32) < (lg_cmp ((x2 : Int32).toInt64) (Int64.ofNat 3)))) then (m_275_26 (0 : Int32) (m_235 x1 M)) else (m_275_26 (1 : Int32) (m_235 x1 M))) else (m_235 x1 M)
theorem sa_275_26 {l : Launch} {E : ux_E} (hS : ux_SpecOK l E ux_chs) {d : Nat} (z0 : Int32) (M : ux_M) {Q : Option ux_V → ux_M → Prop} (h : p_275_26 z0 M) (hq : Q (some (.inl (r_275_26 z0 M))) (m_275_26 z0 M)) : ux_At l E (d + 2) y_275 26 [none, none, none] [.inl z0, .inr (.inr (5, 819253, 0))] M Q := w_275_26 hS (d := d + 1) z0 M (sf_176 hS z0 2 _ h ⟨fun q1 => (ux_rm1 q1 hq), fun q1 => (ux_rm0 q1 hq)⟩)
theorem sf_275 {l : Launch} {E : ux_E} (hS : ux_SpecOK l E ux_chs) {d : Nat} (x1 : Int32) (x2 : Int32) (M : ux_M) {Q : Int32 → ux_M → Prop} (h : p_275 x1 x2 M) (hq0 : Q (r_275 x1 x2 M) (m_275 x1 x2 M)) : ux_Call l E (d + 2) y_275 [.inr (.inr (5, 819253, 0)), .inl x1, .inl x2] M (ux_CI Q) := by
  have hq : (ux_CI Q) (some (.inl (r_275 x1 x2 M))) (m_275 x1 x2 M) := ⟨_, rfl, hq0⟩
  exact c_275 hS (d := d + 1) x1 x2 M (sf_235 hS x1 _ h.1 ⟨fun q2 => (ux_rm0 q2 hq), fun q2 => ⟨fun q3 => (sa_275_26 hS (0 : Int32) _ ((h.2.2 q2).1 q3) (ux_rm1 q3 (ux_rm1 q2 hq))), fun q3 => (sa_275_26 hS (1 : Int32) _ ((h.2.2 q2).2 q3) (ux_rm0 q3 (ux_rm1 q2 hq)))⟩⟩)
-- Model.allJobs 
def p_276  (M : ux_M) : Prop := vp_in 1 4 ∧ vp_in 2 4 ∧ vp_in 3 4
noncomputable def r_276  (M : ux_M) : Int32 := (((M 5 950305 0 (1 : Int32).toNatClampNeg) ||| (M 5 950305 0 (2 : Int32).toNatClampNeg)) ||| (M 5 950305 0 (3 : Int32).toNatClampNeg))
theorem sf_276 {l : Launch} {E : ux_E} (hS : ux_SpecOK l E ux_chs) {d : Nat}  (M : ux_M) {Q : Int32 → ux_M → Prop} (h : p_276  M) (hq0 : Q (r_276  M) M) : ux_Call l E d y_276 [.inr (.inr (5, 819253, 0))] M (ux_CI Q) := by
  have hq : (ux_CI Q) (some (.inl (r_276  M))) M := ⟨_, rfl, hq0⟩
  exact c_276 hS  M ⟨h.1, ⟨h.2.1, ⟨h.2.2, hq⟩⟩⟩
-- Model.plan 
def p_274_27 (x1 : Int32) (x2 : Int32) (x3 : Int32) (z0 : Int32) (M : ux_M) : Prop := p_176 z0 2 M ∧ ((r_176 z0 2 M) = 0 → p_197 x1 x2 (m_176 z0 2 M) ∧ ((r_197 x1 x2 (m_176 z0 2 M)) = 0 → (¬ x3 = 0 → ((4 : Int32) ≤ x3 → vp_in 1 4 ∧ vp_in 1 4 ∧ vp_in 2 4 ∧ vp_in 2 4 ∧ vp_in 3 4 ∧ vp_in 3 4) ∧ (¬ (4 : Int32) ≤ x3 → vp_in x3 4)) ∧ (x3 = 0 → vp_in 1 4 ∧ vp_in 2 4 ∧ vp_in 3 4)) ∧ (¬ (r_197 x1 x2 (m_176 z0 2 M)) = 0 → True)) ∧ (¬ (r_176 z0 2 M) = 0 → True)
noncomputable def r_274_27 (x1 : Int32) (x2 : Int32) (x3 : Int32) (z0 : Int32) (M : ux_M) : Int32 := if (r_176 z0 2 M) = 0 then (if (r_197 x1 x2 (m_176 z0 2 M)) = 0 then (if x3 = 0 then ((((m_197 x1 x2 (m_176 z0 2 M)) 5 950305 0 (1 : Int32).toNatClampNeg) ||| ((m_197 x1 x2 (m_176 z0 2 M)) 5 950305 0 (2 : Int32).toNatClampNeg)) ||| ((m_197 x1 x2 (m_176 z0 2 M)) 5 950305 0 (3 : Int32).toNatClampNeg)) else (if (4 : Int32) ≤ x3 then (((((m_197 x1 x2 (m_176 z0 2 M)) 5 950305 0 (1 : Int32).toNatClampNeg) &&& ((m_197 x1 x2 (m_176 z0 2 M)) 5 966689 0 (1 : Int32).toNatClampNeg)) ||| (((m_197 x1 x2 (m_176 z0 2 M)) 5 950305 0 (2 : Int32).toNatClampNeg) &&& ((m_197 x1 x2 (m_176 z0 2 M)) 5 966689 0 (2 : Int32).toNatClampNeg))) ||| (((m_197 x1 x2 (m_176 z0 2 M)) 5 950305 0 (3 : Int32).toNatClampNeg) &&& ((m_197 x1 x2 (m_176 z0 2 M)) 5 966689 0 (3 : Int32).toNatClampNeg))) else ((m_197 x1 x2 (m_176 z0 2 M)) 5 950305 0 (x3 : Int32).toNatClampNeg))) else (r_197 x1 x2 (m_176 z0 2 M))) else 0
noncomputable def m_274_27 (x1 : Int32) (x2 : Int32) (x3 : Int32) (z0 : Int32) (M : ux_M) : ux_M := if (r_176 z0 2 M) = 0 then (if (r_197 x1 x2 (m_176 z0 2 M)) = 0 then (if x3 = 0 then (m_197 x1 x2 (m_176 z0 2 M)) else (if (4 : Int32) ≤ x3 then (m_197 x1 x2 (m_176 z0 2 M)) else (m_197 x1 x2 (m_176 z0 2 M)))) else (m_197 x1 x2 (m_176 z0 2 M))) else (m_176 z0 2 M)
def p_274 (x1 : Int32) (x2 : Int32) (x3 : Int32) (M : ux_M) : Prop := p_275 x1 x2 M ∧ (¬ (r_275 x1 x2 M) = 0 → True) ∧ ((r_275 x1 x2 M) = 0 → (¬ (((lg_cmp ((x3 : Int32).toInt64) ((0 : Int32).toInt64)) : Int32) < 0) ∧ (¬ ((0 : Int32) < (lg_cmp ((x3 : Int32).toInt64) (Int64.ofNat 4)))) → p_274_27 x1 x2 x3 (0 : Int32) (m_275 x1 x2 M)) ∧ (¬ (¬ (((lg_cmp ((x3 : Int32).toInt64) ((0 : Int32).toInt64)) : Int32) < 0) ∧ (¬ ((0 : Int32) < (lg_cmp ((x3 : Int32).toInt64) (Int64.ofNat 4))))) → p_274_27 x1 x2 x3 (1 : Int32) (m_275 x1 x2 M)))
noncomputable def r_274 (x1 : Int32) (x2 : Int32) (x3 : Int32) (M : ux_M) : Int32 := if (r_275 x1 x2 M) = 0 then (if ¬ (((lg_cmp ((x3 : Int32).toInt64) ((0 : Int32).toInt64)) : Int32) < 0) ∧ (¬ ((0 : Int32) < (lg_cmp ((x3 : Int32).toInt64) (Int64.ofNat 4)))) then (r_274_27 x1 x2 x3 (0 : Int32) (m_275 x1 x2 M)) else (r_274_27 x1 x2 x3 (1 : Int32) (m_275 x1 x2 M))) else 0
noncomputable def m_274 (x1 : Int32) (x2 : Int32) (x3 : Int32) (M : ux_M) : ux_M := if (r_275 x1 x2 M) = 0 then (if ¬ (((lg_cmp ((x3 : Int32).toInt64) ((0 : Int32).toInt64)) : Int32) < 0) ∧ (¬ ((0 : Int32) < (lg_cmp ((x3 : Int32).toInt64) (Int64.ofNat 4)))) then (m_274_27 x1 x2 x3 (0 : Int32) (m_275 x1 x2 M)) else (m_274_27 x1 x2 x3 (1 : Int32) (m_275 x1 x2 M))) else (m_275 x1 x2 M)
theorem sa_274_27 {l : Launch} {E : ux_E} (hS : ux_SpecOK l E ux_chs) {d : Nat} (x1 : Int32) (x2 : Int32) (x3 : Int32) (z0 : Int32) (M : ux_M) {Q : Option ux_V → ux_M → Prop} (h : p_274_27 x1 x2 x3 z0 M) (hq : Q (some (.inl (r_274_27 x1 x2 x3 z0 M))) (m_274_27 x1 x2 x3 z0 M)) : ux_At l E (d + 6) y_274 27 [some (.inr (.inr (5, 819253, 0))), some (.inl x1), some (.inl x2), some (.inl x3), none] [.inl z0, .inr (.inr (5, 819253, 0))] M Q := w_274_27 hS (d := d + 5) x1 x2 x3 z0 M (sf_176 hS z0 2 _ h.1 ⟨fun q1 => (sf_197 hS x1 x2 _ (h.2.1 q1).1 ⟨fun q2 => ⟨fun q3 => ⟨fun q4 => ⟨((((h.2.1 q1).2.1 q2).1 q3).1 q4).1, ⟨((((h.2.1 q1).2.1 q2).1 q3).1 q4).2.1, ⟨((((h.2.1 q1).2.1 q2).1 q3).1 q4).2.2.1, ⟨((((h.2.1 q1).2.1 q2).1 q3).1 q4).2.2.2.1, ⟨((((h.2.1 q1).2.1 q2).1 q3).1 q4).2.2.2.2.1, ⟨((((h.2.1 q1).2.1 q2).1 q3).1 q4).2.2.2.2.2, (ux_rm1 q4 (ux_rm0 q3 (ux_rm1 q2 (ux_rm1 q1 hq))))⟩⟩⟩⟩⟩⟩, fun q4 => ⟨((((h.2.1 q1).2.1 q2).1 q3).2 q4), (ux_rm0 q4 (ux_rm0 q3 (ux_rm1 q2 (ux_rm1 q1 hq))))⟩⟩, fun q3 => ⟨(((h.2.1 q1).2.1 q2).2 q3).1, ⟨(((h.2.1 q1).2.1 q2).2 q3).2.1, ⟨(((h.2.1 q1).2.1 q2).2 q3).2.2, (ux_rm1 q3 (ux_rm1 q2 (ux_rm1 q1 hq)))⟩⟩⟩⟩, fun q2 => (ux_rm0 q2 (ux_rm1 q1 hq))⟩), fun q1 => (ux_rm0 q1 hq)⟩)
theorem sf_274 {l : Launch} {E : ux_E} (hS : ux_SpecOK l E ux_chs) {d : Nat} (x1 : Int32) (x2 : Int32) (x3 : Int32) (M : ux_M) {Q : Int32 → ux_M → Prop} (h : p_274 x1 x2 x3 M) (hq0 : Q (r_274 x1 x2 x3 M) (m_274 x1 x2 x3 M)) : ux_Call l E (d + 6) y_274 [.inr (.inr (5, 819253, 0)), .inl x1, .inl x2, .inl x3] M (ux_CI Q) := by
  have hq : (ux_CI Q) (some (.inl (r_274 x1 x2 x3 M))) (m_274 x1 x2 x3 M) := ⟨_, rfl, hq0⟩
  exact c_274 hS (d := d + 5) x1 x2 x3 M (sf_275 hS x1 x2 _ h.1 ⟨fun q5 => (ux_rm0 q5 hq), fun q5 => ⟨fun q6 => (sa_274_27 hS x1 x2 x3 (0 : Int32) _ ((h.2.2 q5).1 q6) (ux_rm1 q6 (ux_rm1 q5 hq))), fun q6 => (sa_274_27 hS x1 x2 x3 (1 : Int32) _ ((h.2.2 q5).2 q6) (ux_rm0 q6 (ux_rm1 q5 hq)))⟩⟩)
-- Model.worthOf 
def p_279 (x1 : Int32) (x2 : Int32) (M : ux_M) : Prop := (¬ x2 = 0 → ux_u x1 0 ∧ (¬ ((ux_of M x1 0) : Int32) = 0 → True) ∧ (((ux_of M x1 0) : Int32) = 0 → ux_u x1 10)) ∧ (x2 = 0 → p_208 x1 M)
noncomputable def r_279 (x1 : Int32) (x2 : Int32) (M : ux_M) : Int32 := if x2 = 0 then (if (r_208 x1 M) = 0 then 0 else 1) else (if ((ux_of M x1 0) : Int32) = 0 then (ux_of M x1 10) else 0)
theorem sf_279 {l : Launch} {E : ux_E} (hS : ux_SpecOK l E ux_chs) {d : Nat} (x1 : Int32) (x2 : Int32) (M : ux_M) {Q : Int32 → ux_M → Prop} (h : p_279 x1 x2 M) (hq0 : Q (r_279 x1 x2 M) M) : ux_Call l E (d + 2) y_279 [.inr (.inr (5, 819253, 0)), .inl x1, .inl x2] M (ux_CI Q) := by
  have hq : (ux_CI Q) (some (.inl (r_279 x1 x2 M))) M := ⟨_, rfl, hq0⟩
  exact c_279 hS (d := d + 1) x1 x2 M ⟨fun q1 => ⟨(h.1 q1).1, ⟨fun q2 => (ux_r0 q2 (ux_r0 q1 hq)), fun q2 => ⟨((h.1 q1).2.2 q2), (ux_r1 q2 (ux_r0 q1 hq))⟩⟩⟩, fun q1 => (sf_208 hS x1 _ (h.2 q1) ⟨fun q3 => (ux_r0 q3 (ux_r1 q1 hq)), fun q3 => (ux_r1 q3 (ux_r1 q1 hq))⟩)⟩
-- Model.longest 
def p_278_85 (kp42 : Int32 → Int32 → Int32 → Int32 → ux_M → Prop) : Nat → Int32 → Int32 → Int32 → Int32 → Int32 → Int32 → Int32 → ux_M → Prop
  | 0, _, _, _, _, _, _, _, _ => False
  | f + 1, x1, x2, x3, x4, x5, x6, x7, M => vp_in 1 1084 ∧ (((M 5 844257 0 (1 : Int32).toNatClampNeg) : Int32) ≤ x7 → p_279 x4 x1 M ∧ vp_in x4 16 ∧ ∀ M5 : ux_M, M5 = ux_set M 5 1015937 0 (x4 : Int32).toNatClampNeg (x6 + (r_279 x4 x1 M)) → vp_in x4 16 ∧ kp42 x1 (if (x2 : Int32) < (M5 5 1015937 0 (x4 : Int32).toNatClampNeg) then (M5 5 1015937 0 (x4 : Int32).toNatClampNeg) else x2) x3 (x4 + 1) M5) ∧ (¬ ((M 5 844257 0 (1 : Int32).toNatClampNeg) : Int32) ≤ x7 → p_208 x7 M ∧ (x7 = x4 → p_278_85 kp42 f x1 x2 x3 x4 x5 x6 (x7 + 1) M) ∧ (¬ x7 = x4 → ((r_208 x7 M) = 0 → p_278_85 kp42 f x1 x2 x3 x4 x5 x6 (x7 + 1) M) ∧ (¬ (r_208 x7 M) = 0 → (x1 = 0 → p_209 x7 (r_208 x7 M) x4 x5 M ∧ (¬ (r_209 x7 (r_208 x7 M) x4 x5 M) = 0 → vp_in x7 16 ∧ p_278_85 kp42 f x1 x2 x3 x4 x5 (if (x6 : Int32) < (M 5 1015937 0 (x7 : Int32).toNatClampNeg) then (M 5 1015937 0 (x7 : Int32).toNatClampNeg) else x6) (x7 + 1) M) ∧ ((r_209 x7 (r_208 x7 M) x4 x5 M) = 0 → p_278_85 kp42 f x1 x2 x3 x4 x5 x6 (x7 + 1) M)) ∧ (¬ x1 = 0 → ((r_208 x7 M) = 2 → p_278_85 kp42 f x1 x2 x3 x4 x5 x6 (x7 + 1) M) ∧ (¬ (r_208 x7 M) = 2 → p_209 x7 (r_208 x7 M) x4 x5 M ∧ (¬ (r_209 x7 (r_208 x7 M) x4 x5 M) = 0 → vp_in x7 16 ∧ p_278_85 kp42 f x1 x2 x3 x4 x5 (if (x6 : Int32) < (M 5 1015937 0 (x7 : Int32).toNatClampNeg) then (M 5 1015937 0 (x7 : Int32).toNatClampNeg) else x6) (x7 + 1) M) ∧ ((r_209 x7 (r_208 x7 M) x4 x5 M) = 0 → p_278_85 kp42 f x1 x2 x3 x4 x5 x6 (x7 + 1) M))))))
noncomputable def r_278_85 (kr42 : Int32 → Int32 → Int32 → Int32 → ux_M → Int32) : Nat → Int32 → Int32 → Int32 → Int32 → Int32 → Int32 → Int32 → ux_M → Int32
  | 0, _, _, _, _, _, _, _, _ => 0
  | f + 1, x1, x2, x3, x4, x5, x6, x7, M => if ((M 5 844257 0 (1 : Int32).toNatClampNeg) : Int32) ≤ x7 then (let M5 : ux_M := ux_set M 5 1015937 0 (x4 : Int32).toNatClampNeg (x6 + (r_279 x4 x1 M)); kr42 x1 (if (x2 : Int32) < (M5 5 1015937 0 (x4 : Int32).toNatClampNeg) then (M5 5 1015937 0 (x4 : Int32).toNatClampNeg) else x2) x3 (x4 + 1) M5) else (if x7 = x4 then (r_278_85 kr42 f x1 x2 x3 x4 x5 x6 (x7 + 1) M) else (if (r_208 x7 M) = 0 then (r_278_85 kr42 f x1 x2 x3 x4 x5 x6 (x7 + 1) M) else (if x1 = 0 then (if (r_209 x7 (r_208 x7 M) x4 x5 M) = 0 then (r_278_85 kr42 f x1 x2 x3 x4 x5 x6 (x7 + 1) M) else (r_278_85 kr42 f x1 x2 x3 x4 x5 (if (x6 : Int32) < (M 5 1015937 0 (x7 : Int32).toNatClampNeg) then (M 5 1015937 0 (x7 : Int32).toNatClampNeg) else x6) (x7 + 1) M)) else (if (r_208 x7 M) = 2 then (r_278_85 kr42 f x1 x2 x3 x4 x5 x6 (x7 + 1) M) else (if (r_209 x7 (r_208 x7 M) x4 x5 M) = 0 then (r_278_85 kr42 f x1 x2 x3 x4 x5 x6 (x7 + 1) M) else (r_278_85 kr42 f x1 x2 x3 x4 x5 (if (x6 : Int32) < (M 5 1015937 0 (x7 : Int32).toNatClampNeg) then (M 5 1015937 0 (x7 : Int32).toNatClampNeg) else x6) (x7 + 1) M))))))
noncomputable def m_278_85 (km42 : Int32 → Int32 → Int32 → Int32 → ux_M → ux_M) : Nat → Int32 → Int32 → Int32 → Int32 → Int32 → Int32 → Int32 → ux_M → ux_M
  | 0, _, _, _, _, _, _, _, M => M
  | f + 1, x1, x2, x3, x4, x5, x6, x7, M => if ((M 5 844257 0 (1 : Int32).toNatClampNeg) : Int32) ≤ x7 then (let M5 : ux_M := ux_set M 5 1015937 0 (x4 : Int32).toNatClampNeg (x6 + (r_279 x4 x1 M)); km42 x1 (if (x2 : Int32) < (M5 5 1015937 0 (x4 : Int32).toNatClampNeg) then (M5 5 1015937 0 (x4 : Int32).toNatClampNeg) else x2) x3 (x4 + 1) M5) else (if x7 = x4 then (m_278_85 km42 f x1 x2 x3 x4 x5 x6 (x7 + 1) M) else (if (r_208 x7 M) = 0 then (m_278_85 km42 f x1 x2 x3 x4 x5 x6 (x7 + 1) M) else (if x1 = 0 then (if (r_209 x7 (r_208 x7 M) x4 x5 M) = 0 then (m_278_85 km42 f x1 x2 x3 x4 x5 x6 (x7 + 1) M) else (m_278_85 km42 f x1 x2 x3 x4 x5 (if (x6 : Int32) < (M 5 1015937 0 (x7 : Int32).toNatClampNeg) then (M 5 1015937 0 (x7 : Int32).toNatClampNeg) else x6) (x7 + 1) M)) else (if (r_208 x7 M) = 2 then (m_278_85 km42 f x1 x2 x3 x4 x5 x6 (x7 + 1) M) else (if (r_209 x7 (r_208 x7 M) x4 x5 M) = 0 then (m_278_85 km42 f x1 x2 x3 x4 x5 x6 (x7 + 1) M) else (m_278_85 km42 f x1 x2 x3 x4 x5 (if (x6 : Int32) < (M 5 1015937 0 (x7 : Int32).toNatClampNeg) then (M 5 1015937 0 (x7 : Int32).toNatClampNeg) else x6) (x7 + 1) M))))))
def p_278_42 (kp29 : Int32 → Int32 → Int32 → ux_M → Prop) : Nat → Int32 → Int32 → Int32 → Int32 → ux_M → Prop
  | 0, _, _, _, _, _ => False
  | f + 1, x1, x2, x3, x4, M => vp_in 1 1084 ∧ (((M 5 844257 0 (1 : Int32).toNatClampNeg) : Int32) ≤ x4 → kp29 x1 x2 (x3 + 1) M) ∧ (¬ ((M 5 844257 0 (1 : Int32).toNatClampNeg) : Int32) ≤ x4 → p_208 x4 M ∧ ((r_208 x4 M) = 0 → p_278_42 kp29 f x1 x2 x3 (x4 + 1) M) ∧ (¬ (r_208 x4 M) = 0 → (x1 = 0 → p_278_85 (fun a0 a1 a2 a3 a4 => p_278_42 kp29 f a0 a1 a2 a3 a4) ux_fuel x1 x2 x3 x4 (r_208 x4 M) (0 : Int32) (0 : Int32) M) ∧ (¬ x1 = 0 → (¬ (r_208 x4 M) = 2 → p_278_85 (fun a0 a1 a2 a3 a4 => p_278_42 kp29 f a0 a1 a2 a3 a4) ux_fuel x1 x2 x3 x4 (r_208 x4 M) (0 : Int32) (0 : Int32) M) ∧ ((r_208 x4 M) = 2 → p_278_42 kp29 f x1 x2 x3 (x4 + 1) M))))
noncomputable def r_278_42 (kr29 : Int32 → Int32 → Int32 → ux_M → Int32) : Nat → Int32 → Int32 → Int32 → Int32 → ux_M → Int32
  | 0, _, _, _, _, _ => 0
  | f + 1, x1, x2, x3, x4, M => if ((M 5 844257 0 (1 : Int32).toNatClampNeg) : Int32) ≤ x4 then (kr29 x1 x2 (x3 + 1) M) else (if (r_208 x4 M) = 0 then (r_278_42 kr29 f x1 x2 x3 (x4 + 1) M) else (if x1 = 0 then (r_278_85 (fun a0 a1 a2 a3 a4 => r_278_42 kr29 f a0 a1 a2 a3 a4) ux_fuel x1 x2 x3 x4 (r_208 x4 M) (0 : Int32) (0 : Int32) M) else (if (r_208 x4 M) = 2 then (r_278_42 kr29 f x1 x2 x3 (x4 + 1) M) else (r_278_85 (fun a0 a1 a2 a3 a4 => r_278_42 kr29 f a0 a1 a2 a3 a4) ux_fuel x1 x2 x3 x4 (r_208 x4 M) (0 : Int32) (0 : Int32) M))))
noncomputable def m_278_42 (km29 : Int32 → Int32 → Int32 → ux_M → ux_M) : Nat → Int32 → Int32 → Int32 → Int32 → ux_M → ux_M
  | 0, _, _, _, _, M => M
  | f + 1, x1, x2, x3, x4, M => if ((M 5 844257 0 (1 : Int32).toNatClampNeg) : Int32) ≤ x4 then (km29 x1 x2 (x3 + 1) M) else (if (r_208 x4 M) = 0 then (m_278_42 km29 f x1 x2 x3 (x4 + 1) M) else (if x1 = 0 then (m_278_85 (fun a0 a1 a2 a3 a4 => m_278_42 km29 f a0 a1 a2 a3 a4) ux_fuel x1 x2 x3 x4 (r_208 x4 M) (0 : Int32) (0 : Int32) M) else (if (r_208 x4 M) = 2 then (m_278_42 km29 f x1 x2 x3 (x4 + 1) M) else (m_278_85 (fun a0 a1 a2 a3 a4 => m_278_42 km29 f a0 a1 a2 a3 a4) ux_fuel x1 x2 x3 x4 (r_208 x4 M) (0 : Int32) (0 : Int32) M))))
def p_278_29 : Nat → Int32 → Int32 → Int32 → ux_M → Prop
  | 0, _, _, _, _ => False
  | f + 1, x1, x2, x3, M => vp_in 1 1084 ∧ (((M 5 844257 0 (1 : Int32).toNatClampNeg) : Int32) < x3 → True) ∧ (¬ ((M 5 844257 0 (1 : Int32).toNatClampNeg) : Int32) < x3 → p_278_42 (fun a0 a1 a2 a3 => p_278_29 f a0 a1 a2 a3) ux_fuel x1 x2 x3 (0 : Int32) M)
noncomputable def r_278_29 : Nat → Int32 → Int32 → Int32 → ux_M → Int32
  | 0, _, _, _, _ => 0
  | f + 1, x1, x2, x3, M => if ((M 5 844257 0 (1 : Int32).toNatClampNeg) : Int32) < x3 then x2 else (r_278_42 (fun a0 a1 a2 a3 => r_278_29 f a0 a1 a2 a3) ux_fuel x1 x2 x3 (0 : Int32) M)
noncomputable def m_278_29 : Nat → Int32 → Int32 → Int32 → ux_M → ux_M
  | 0, _, _, _, M => M
  | f + 1, x1, x2, x3, M => if ((M 5 844257 0 (1 : Int32).toNatClampNeg) : Int32) < x3 then M else (m_278_42 (fun a0 a1 a2 a3 => m_278_29 f a0 a1 a2 a3) ux_fuel x1 x2 x3 (0 : Int32) M)
def p_278_4 : Nat → Int32 → Int32 → Int32 → ux_M → Prop
  | 0, _, _, _, _ => False
  | f + 1, x1, x2, x3, M => vp_in 1 1084 ∧ (((M 5 844257 0 (1 : Int32).toNatClampNeg) : Int32) ≤ x3 → p_278_29 ux_fuel x1 x2 (0 : Int32) M) ∧ (¬ ((M 5 844257 0 (1 : Int32).toNatClampNeg) : Int32) ≤ x3 → vp_in x3 16 ∧ ∀ M2 : ux_M, M2 = ux_set M 5 1015937 0 (x3 : Int32).toNatClampNeg 0 → p_278_4 f x1 x2 (x3 + 1) M2)
noncomputable def r_278_4 : Nat → Int32 → Int32 → Int32 → ux_M → Int32
  | 0, _, _, _, _ => 0
  | f + 1, x1, x2, x3, M => if ((M 5 844257 0 (1 : Int32).toNatClampNeg) : Int32) ≤ x3 then (r_278_29 ux_fuel x1 x2 (0 : Int32) M) else (let M2 : ux_M := ux_set M 5 1015937 0 (x3 : Int32).toNatClampNeg 0; r_278_4 f x1 x2 (x3 + 1) M2)
noncomputable def m_278_4 : Nat → Int32 → Int32 → Int32 → ux_M → ux_M
  | 0, _, _, _, M => M
  | f + 1, x1, x2, x3, M => if ((M 5 844257 0 (1 : Int32).toNatClampNeg) : Int32) ≤ x3 then (m_278_29 ux_fuel x1 x2 (0 : Int32) M) else (let M2 : ux_M := ux_set M 5 1015937 0 (x3 : Int32).toNatClampNeg 0; m_278_4 f x1 x2 (x3 + 1) M2)
def p_278 (x1 : Int32) (M : ux_M) : Prop := p_278_4 ux_fuel x1 (0 : Int32) (0 : Int32) M
noncomputable def r_278 (x1 : Int32) (M : ux_M) : Int32 := r_278_4 ux_fuel x1 (0 : Int32) (0 : Int32) M
noncomputable def m_278 (x1 : Int32) (M : ux_M) : ux_M := m_278_4 ux_fuel x1 (0 : Int32) (0 : Int32) M
theorem sa_278_85 {l : Launch} {E : ux_E} (hS : ux_SpecOK l E ux_chs) {d : Nat} {Q : Option ux_V → ux_M → Prop} (kp42 : Int32 → Int32 → Int32 → Int32 → ux_M → Prop) (kr42 : Int32 → Int32 → Int32 → Int32 → ux_M → Int32) (km42 : Int32 → Int32 → Int32 → Int32 → ux_M → ux_M) (hk42 : ∀ (x1 : Int32) (x2 : Int32) (x3 : Int32) (x4 : Int32) (M : ux_M), kp42 x1 x2 x3 x4 M → Q (some (.inl (kr42 x1 x2 x3 x4 M))) (km42 x1 x2 x3 x4 M) → ux_At l E (d + 3) y_278 42 [some (.inr (.inr (5, 819253, 0))), some (.inl x1), some (.inl x2), some (.inl x3), some (.inl x4), none, none, none, none] [] M Q) (f : Nat) (x1 : Int32) (x2 : Int32) (x3 : Int32) (x4 : Int32) (x5 : Int32) (x6 : Int32) (x7 : Int32) (M : ux_M) (h : p_278_85 kp42 f x1 x2 x3 x4 x5 x6 x7 M) (hq : Q (some (.inl (r_278_85 kr42 f x1 x2 x3 x4 x5 x6 x7 M))) (m_278_85 km42 f x1 x2 x3 x4 x5 x6 x7 M)) : ux_At l E (d + 3) y_278 85 [some (.inr (.inr (5, 819253, 0))), some (.inl x1), some (.inl x2), some (.inl x3), some (.inl x4), some (.inl x5), some (.inl x6), some (.inl x7), none] [] M Q := by
  induction f generalizing x1 x2 x3 x4 x5 x6 x7 M with
  | zero => exact h.elim
  | succ f ih => exact w_278_85 hS (d := d + 2) x1 x2 x3 x4 x5 x6 x7 M ⟨h.1, ⟨fun q1 => (sf_279 hS x4 x1 _ (h.2.1 q1).1 ⟨(h.2.1 q1).2.1, (fun M5 e_M5 => by subst e_M5; exact ⟨((h.2.1 q1).2.2 _ rfl).1, (hk42 x1 _ x3 (x4 + 1) _ ((h.2.1 q1).2.2 _ rfl).2 (ux_rm1 q1 hq))⟩)⟩), fun q1 => (sf_208 hS x7 _ (h.2.2 q1).1 ⟨fun q2 => (ih x1 x2 x3 x4 x5 x6 (x7 + 1) _ ((h.2.2 q1).2.1 q2) (ux_rm1 q2 (ux_rm0 q1 hq))), fun q2 => ⟨fun q3 => (ih x1 x2 x3 x4 x5 x6 (x7 + 1) _ (((h.2.2 q1).2.2 q2).1 q3) (ux_rm1 q3 (ux_rm0 q2 (ux_rm0 q1 hq)))), fun q3 => ⟨fun q4 => (w_278_126 hS (d := d + 2) x1 x2 x3 x4 x5 x6 x7 (r_208 x7 M) _ (sf_209 hS x7 (r_208 x7 M) x4 x5 _ ((((h.2.2 q1).2.2 q2).2 q3).1 q4).1 ⟨fun q5 => ⟨(((((h.2.2 q1).2.2 q2).2 q3).1 q4).2.1 q5).1, (ih x1 x2 x3 x4 x5 (if (x6 : Int32) < (M 5 1015937 0 (x7 : Int32).toNatClampNeg) then (M 5 1015937 0 (x7 : Int32).toNatClampNeg) else x6) (x7 + 1) _ (((((h.2.2 q1).2.2 q2).2 q3).1 q4).2.1 q5).2 (ux_rm0 q5 (ux_rm1 q4 (ux_rm0 q3 (ux_rm0 q2 (ux_rm0 q1 hq))))))⟩, fun q5 => (ih x1 x2 x3 x4 x5 x6 (x7 + 1) _ (((((h.2.2 q1).2.2 q2).2 q3).1 q4).2.2 q5) (ux_rm1 q5 (ux_rm1 q4 (ux_rm0 q3 (ux_rm0 q2 (ux_rm0 q1 hq))))))⟩)), fun q4 => ⟨fun q6 => (ih x1 x2 x3 x4 x5 x6 (x7 + 1) _ (((((h.2.2 q1).2.2 q2).2 q3).2 q4).1 q6) (ux_rm1 q6 (ux_rm0 q4 (ux_rm0 q3 (ux_rm0 q2 (ux_rm0 q1 hq)))))), fun q6 => (w_278_126 hS (d := d + 2) x1 x2 x3 x4 x5 x6 x7 (r_208 x7 M) _ (sf_209 hS x7 (r_208 x7 M) x4 x5 _ (((((h.2.2 q1).2.2 q2).2 q3).2 q4).2 q6).1 ⟨fun q7 => ⟨((((((h.2.2 q1).2.2 q2).2 q3).2 q4).2 q6).2.1 q7).1, (ih x1 x2 x3 x4 x5 (if (x6 : Int32) < (M 5 1015937 0 (x7 : Int32).toNatClampNeg) then (M 5 1015937 0 (x7 : Int32).toNatClampNeg) else x6) (x7 + 1) _ ((((((h.2.2 q1).2.2 q2).2 q3).2 q4).2 q6).2.1 q7).2 (ux_rm0 q7 (ux_rm0 q6 (ux_rm0 q4 (ux_rm0 q3 (ux_rm0 q2 (ux_rm0 q1 hq)))))))⟩, fun q7 => (ih x1 x2 x3 x4 x5 x6 (x7 + 1) _ ((((((h.2.2 q1).2.2 q2).2 q3).2 q4).2 q6).2.2 q7) (ux_rm1 q7 (ux_rm0 q6 (ux_rm0 q4 (ux_rm0 q3 (ux_rm0 q2 (ux_rm0 q1 hq)))))))⟩))⟩⟩⟩⟩)⟩⟩
theorem sa_278_42 {l : Launch} {E : ux_E} (hS : ux_SpecOK l E ux_chs) {d : Nat} {Q : Option ux_V → ux_M → Prop} (kp29 : Int32 → Int32 → Int32 → ux_M → Prop) (kr29 : Int32 → Int32 → Int32 → ux_M → Int32) (km29 : Int32 → Int32 → Int32 → ux_M → ux_M) (hk29 : ∀ (x1 : Int32) (x2 : Int32) (x3 : Int32) (M : ux_M), kp29 x1 x2 x3 M → Q (some (.inl (kr29 x1 x2 x3 M))) (km29 x1 x2 x3 M) → ux_At l E (d + 3) y_278 29 [some (.inr (.inr (5, 819253, 0))), some (.inl x1), some (.inl x2), some (.inl x3), none, none, none, none, none] [] M Q) (f : Nat) (x1 : Int32) (x2 : Int32) (x3 : Int32) (x4 : Int32) (M : ux_M) (h : p_278_42 kp29 f x1 x2 x3 x4 M) (hq : Q (some (.inl (r_278_42 kr29 f x1 x2 x3 x4 M))) (m_278_42 km29 f x1 x2 x3 x4 M)) : ux_At l E (d + 3) y_278 42 [some (.inr (.inr (5, 819253, 0))), some (.inl x1), some (.inl x2), some (.inl x3), some (.inl x4), none, none, none, none] [] M Q := by
  induction f generalizing x1 x2 x3 x4 M with
  | zero => exact h.elim
  | succ f ih => exact w_278_42 hS (d := d + 2) x1 x2 x3 x4 M ⟨h.1, ⟨fun q8 => (hk29 x1 x2 (x3 + 1) _ (h.2.1 q8) (ux_rm1 q8 hq)), fun q8 => (sf_208 hS x4 _ (h.2.2 q8).1 ⟨fun q9 => (ih x1 x2 x3 (x4 + 1) _ ((h.2.2 q8).2.1 q9) (ux_rm1 q9 (ux_rm0 q8 hq))), fun q9 => ⟨fun q10 => (sa_278_85 hS (fun a0 a1 a2 a3 a4 => p_278_42 kp29 f a0 a1 a2 a3 a4) (fun a0 a1 a2 a3 a4 => r_278_42 kr29 f a0 a1 a2 a3 a4) (fun a0 a1 a2 a3 a4 => m_278_42 km29 f a0 a1 a2 a3 a4) (fun a0 a1 a2 a3 a4 h0 q0 => ih a0 a1 a2 a3 a4 h0 q0) ux_fuel x1 x2 x3 x4 (r_208 x4 M) (0 : Int32) (0 : Int32) _ (((h.2.2 q8).2.2 q9).1 q10) (ux_rm1 q10 (ux_rm0 q9 (ux_rm0 q8 hq)))), fun q10 => ⟨fun q11 => (sa_278_85 hS (fun a0 a1 a2 a3 a4 => p_278_42 kp29 f a0 a1 a2 a3 a4) (fun a0 a1 a2 a3 a4 => r_278_42 kr29 f a0 a1 a2 a3 a4) (fun a0 a1 a2 a3 a4 => m_278_42 km29 f a0 a1 a2 a3 a4) (fun a0 a1 a2 a3 a4 h0 q0 => ih a0 a1 a2 a3 a4 h0 q0) ux_fuel x1 x2 x3 x4 (r_208 x4 M) (0 : Int32) (0 : Int32) _ ((((h.2.2 q8).2.2 q9).2 q10).1 q11) (ux_rm0 q11 (ux_rm0 q10 (ux_rm0 q9 (ux_rm0 q8 hq))))), fun q11 => (ih x1 x2 x3 (x4 + 1) _ ((((h.2.2 q8).2.2 q9).2 q10).2 q11) (ux_rm1 q11 (ux_rm0 q10 (ux_rm0 q9 (ux_rm0 q8 hq)))))⟩⟩⟩)⟩⟩
theorem sa_278_29 {l : Launch} {E : ux_E} (hS : ux_SpecOK l E ux_chs) {d : Nat} {Q : Option ux_V → ux_M → Prop} (f : Nat) (x1 : Int32) (x2 : Int32) (x3 : Int32) (M : ux_M) (h : p_278_29 f x1 x2 x3 M) (hq : Q (some (.inl (r_278_29 f x1 x2 x3 M))) (m_278_29 f x1 x2 x3 M)) : ux_At l E (d + 3) y_278 29 [some (.inr (.inr (5, 819253, 0))), some (.inl x1), some (.inl x2), some (.inl x3), none, none, none, none, none] [] M Q := by
  induction f generalizing x1 x2 x3 M with
  | zero => exact h.elim
  | succ f ih => exact w_278_29 hS (d := d + 2) x1 x2 x3 M ⟨h.1, ⟨fun q12 => (ux_rm1 q12 hq), fun q12 => (sa_278_42 hS (fun a0 a1 a2 a3 => p_278_29 f a0 a1 a2 a3) (fun a0 a1 a2 a3 => r_278_29 f a0 a1 a2 a3) (fun a0 a1 a2 a3 => m_278_29 f a0 a1 a2 a3) (fun a0 a1 a2 a3 h0 q0 => ih a0 a1 a2 a3 h0 q0) ux_fuel x1 x2 x3 (0 : Int32) _ (h.2.2 q12) (ux_rm0 q12 hq))⟩⟩
theorem sa_278_4 {l : Launch} {E : ux_E} (hS : ux_SpecOK l E ux_chs) {d : Nat} {Q : Option ux_V → ux_M → Prop} (f : Nat) (x1 : Int32) (x2 : Int32) (x3 : Int32) (M : ux_M) (h : p_278_4 f x1 x2 x3 M) (hq : Q (some (.inl (r_278_4 f x1 x2 x3 M))) (m_278_4 f x1 x2 x3 M)) : ux_At l E (d + 3) y_278 4 [some (.inr (.inr (5, 819253, 0))), some (.inl x1), some (.inl x2), some (.inl x3), none, none, none, none, none] [] M Q := by
  induction f generalizing x1 x2 x3 M with
  | zero => exact h.elim
  | succ f ih => exact w_278_4 hS (d := d + 2) x1 x2 x3 M ⟨h.1, ⟨fun q13 => (sa_278_29 hS ux_fuel x1 x2 (0 : Int32) _ (h.2.1 q13) (ux_rm1 q13 hq)), fun q13 => ⟨(h.2.2 q13).1, (fun M2 e_M2 => by subst e_M2; exact (ih x1 x2 (x3 + 1) _ ((h.2.2 q13).2 _ rfl) (ux_rm0 q13 hq)))⟩⟩⟩
theorem sf_278 {l : Launch} {E : ux_E} (hS : ux_SpecOK l E ux_chs) {d : Nat} (x1 : Int32) (M : ux_M) {Q : Int32 → ux_M → Prop} (h : p_278 x1 M) (hq0 : Q (r_278 x1 M) (m_278 x1 M)) : ux_Call l E (d + 3) y_278 [.inr (.inr (5, 819253, 0)), .inl x1] M (ux_CI Q) := by
  have hq : (ux_CI Q) (some (.inl (r_278 x1 M))) (m_278 x1 M) := ⟨_, rfl, hq0⟩
  exact c_278 hS (d := d + 2) x1 M (sa_278_4 hS ux_fuel x1 (0 : Int32) (0 : Int32) _ h hq)
-- Model.planDepth 
def p_277 (x1 : Int32) (x2 : Int32) (M : ux_M) : Prop := p_275 x1 x2 M ∧ ((r_275 x1 x2 M) = 0 → p_197 x1 x2 (m_275 x1 x2 M) ∧ ((r_197 x1 x2 (m_275 x1 x2 M)) = 0 → p_278 0 (m_197 x1 x2 (m_275 x1 x2 M))) ∧ (¬ (r_197 x1 x2 (m_275 x1 x2 M)) = 0 → True)) ∧ (¬ (r_275 x1 x2 M) = 0 → True)
noncomputable def r_277 (x1 : Int32) (x2 : Int32) (M : ux_M) : Int32 := if (r_275 x1 x2 M) = 0 then (if (r_197 x1 x2 (m_275 x1 x2 M)) = 0 then (r_278 0 (m_197 x1 x2 (m_275 x1 x2 M))) else (r_197 x1 x2 (m_275 x1 x2 M))) else 0
noncomputable def m_277 (x1 : Int32) (x2 : Int32) (M : ux_M) : ux_M := if (r_275 x1 x2 M) = 0 then (if (r_197 x1 x2 (m_275 x1 x2 M)) = 0 then (m_278 0 (m_197 x1 x2 (m_275 x1 x2 M))) else (m_197 x1 x2 (m_275 x1 x2 M))) else (m_275 x1 x2 M)
theorem sf_277 {l : Launch} {E : ux_E} (hS : ux_SpecOK l E ux_chs) {d : Nat} (x1 : Int32) (x2 : Int32) (M : ux_M) {Q : Int32 → ux_M → Prop} (h : p_277 x1 x2 M) (hq0 : Q (r_277 x1 x2 M) (m_277 x1 x2 M)) : ux_Call l E (d + 6) y_277 [.inr (.inr (5, 819253, 0)), .inl x1, .inl x2] M (ux_CI Q) := by
  have hq : (ux_CI Q) (some (.inl (r_277 x1 x2 M))) (m_277 x1 x2 M) := ⟨_, rfl, hq0⟩
  exact c_277 hS (d := d + 5) x1 x2 M (sf_275 hS x1 x2 _ h.1 ⟨fun q1 => (sf_197 hS x1 x2 _ (h.2.1 q1).1 ⟨fun q2 => (sf_278 hS 0 _ ((h.2.1 q1).2.1 q2) (ux_rm1 q2 (ux_rm1 q1 hq))), fun q2 => (ux_rm0 q2 (ux_rm1 q1 hq))⟩), fun q1 => (ux_rm0 q1 hq)⟩)
-- Model.criticalTime 
def p_280 (x1 : Int32) (M : ux_M) : Prop := p_235 x1 M ∧ ((r_235 x1 M) = 0 → p_197 x1 1 (m_235 x1 M) ∧ ((r_197 x1 1 (m_235 x1 M)) = 0 → p_278 1 (m_197 x1 1 (m_235 x1 M))) ∧ (¬ (r_197 x1 1 (m_235 x1 M)) = 0 → True)) ∧ (¬ (r_235 x1 M) = 0 → True)
noncomputable def r_280 (x1 : Int32) (M : ux_M) : Int32 := if (r_235 x1 M) = 0 then (if (r_197 x1 1 (m_235 x1 M)) = 0 then (r_278 1 (m_197 x1 1 (m_235 x1 M))) else (r_197 x1 1 (m_235 x1 M))) else 0
noncomputable def m_280 (x1 : Int32) (M : ux_M) : ux_M := if (r_235 x1 M) = 0 then (if (r_197 x1 1 (m_235 x1 M)) = 0 then (m_278 1 (m_197 x1 1 (m_235 x1 M))) else (m_197 x1 1 (m_235 x1 M))) else (m_235 x1 M)
theorem sf_280 {l : Launch} {E : ux_E} (hS : ux_SpecOK l E ux_chs) {d : Nat} (x1 : Int32) (M : ux_M) {Q : Int32 → ux_M → Prop} (h : p_280 x1 M) (hq0 : Q (r_280 x1 M) (m_280 x1 M)) : ux_Call l E (d + 6) y_280 [.inr (.inr (5, 819253, 0)), .inl x1] M (ux_CI Q) := by
  have hq : (ux_CI Q) (some (.inl (r_280 x1 M))) (m_280 x1 M) := ⟨_, rfl, hq0⟩
  exact c_280 hS (d := d + 5) x1 M (sf_235 hS x1 _ h.1 ⟨fun q1 => (sf_197 hS x1 1 _ (h.2.1 q1).1 ⟨fun q2 => (sf_278 hS 1 _ ((h.2.1 q1).2.1 q2) (ux_rm1 q2 (ux_rm1 q1 hq))), fun q2 => (ux_rm0 q2 (ux_rm1 q1 hq))⟩), fun q1 => (ux_rm0 q1 hq)⟩)
-- Model.allNeeded 
def p_281_12 : Nat → Int32 → Int32 → ux_M → Prop
  | 0, _, _, _ => False
  | f + 1, x1, x2, M => vp_in 1 1084 ∧ (((M 5 844257 0 (1 : Int32).toNatClampNeg) : Int32) ≤ x2 → p_210 M ∧ vp_in x1 16) ∧ (¬ ((M 5 844257 0 (1 : Int32).toNatClampNeg) : Int32) ≤ x2 → ux_u x2 22 ∧ ux_u x2 24 ∧ vp_in x2 16 ∧ ∀ M4 : ux_M, M4 = ux_set M 5 999553 0 (x2 : Int32).toNatClampNeg ((ux_of M x2 22) ||| (ux_of M x2 24)) → p_281_12 f x1 (x2 + 1) M4)
noncomputable def r_281_12 : Nat → Int32 → Int32 → ux_M → Int32
  | 0, _, _, _ => 0
  | f + 1, x1, x2, M => if ((M 5 844257 0 (1 : Int32).toNatClampNeg) : Int32) ≤ x2 then ((m_210 M) 5 999553 0 (x1 : Int32).toNatClampNeg) else (let M4 : ux_M := ux_set M 5 999553 0 (x2 : Int32).toNatClampNeg ((ux_of M x2 22) ||| (ux_of M x2 24)); r_281_12 f x1 (x2 + 1) M4)
noncomputable def m_281_12 : Nat → Int32 → Int32 → ux_M → ux_M
  | 0, _, _, M => M
  | f + 1, x1, x2, M => if ((M 5 844257 0 (1 : Int32).toNatClampNeg) : Int32) ≤ x2 then (m_210 M) else (let M4 : ux_M := ux_set M 5 999553 0 (x2 : Int32).toNatClampNeg ((ux_of M x2 22) ||| (ux_of M x2 24)); m_281_12 f x1 (x2 + 1) M4)
def p_281 (x1 : Int32) (M : ux_M) : Prop := p_235 x1 M ∧ ((r_235 x1 M) = 0 → p_281_12 ux_fuel x1 (0 : Int32) (m_235 x1 M)) ∧ (¬ (r_235 x1 M) = 0 → True)
noncomputable def r_281 (x1 : Int32) (M : ux_M) : Int32 := if (r_235 x1 M) = 0 then (r_281_12 ux_fuel x1 (0 : Int32) (m_235 x1 M)) else 0
noncomputable def m_281 (x1 : Int32) (M : ux_M) : ux_M := if (r_235 x1 M) = 0 then (m_281_12 ux_fuel x1 (0 : Int32) (m_235 x1 M)) else (m_235 x1 M)
theorem sa_281_12 {l : Launch} {E : ux_E} (hS : ux_SpecOK l E ux_chs) {d : Nat} {Q : Option ux_V → ux_M → Prop} (f : Nat) (x1 : Int32) (x2 : Int32) (M : ux_M) (h : p_281_12 f x1 x2 M) (hq : Q (some (.inl (r_281_12 f x1 x2 M))) (m_281_12 f x1 x2 M)) : ux_At l E (d + 2) y_281 12 [some (.inr (.inr (5, 819253, 0))), some (.inl x1), some (.inl x2)] [] M Q := by
  induction f generalizing x1 x2 M with
  | zero => exact h.elim
  | succ f ih => exact w_281_12 hS x1 x2 M ⟨h.1, ⟨fun q1 => (sf_210 hS  _ (h.2.1 q1).1 ⟨(h.2.1 q1).2, (ux_rm1 q1 hq)⟩), fun q1 => ⟨(h.2.2 q1).1, ⟨(h.2.2 q1).2.1, ⟨(h.2.2 q1).2.2.1, (fun M4 e_M4 => by subst e_M4; exact (ih x1 (x2 + 1) _ ((h.2.2 q1).2.2.2 _ rfl) (ux_rm0 q1 hq)))⟩⟩⟩⟩⟩
theorem sf_281 {l : Launch} {E : ux_E} (hS : ux_SpecOK l E ux_chs) {d : Nat} (x1 : Int32) (M : ux_M) {Q : Int32 → ux_M → Prop} (h : p_281 x1 M) (hq0 : Q (r_281 x1 M) (m_281 x1 M)) : ux_Call l E (d + 2) y_281 [.inr (.inr (5, 819253, 0)), .inl x1] M (ux_CI Q) := by
  have hq : (ux_CI Q) (some (.inl (r_281 x1 M))) (m_281 x1 M) := ⟨_, rfl, hq0⟩
  exact c_281 hS x1 M (sf_235 hS x1 _ h.1 ⟨fun q2 => (sa_281_12 hS ux_fuel x1 (0 : Int32) _ (h.2.1 q2) (ux_rm1 q2 hq)), fun q2 => (ux_rm0 q2 hq)⟩)
-- Model.allStopped 
def p_282_12 : Nat → Int32 → Int32 → ux_M → Prop
  | 0, _, _, _ => False
  | f + 1, x1, x2, M => vp_in 1 1084 ∧ (((M 5 844257 0 (1 : Int32).toNatClampNeg) : Int32) ≤ x2 → p_210 M ∧ vp_in x1 16) ∧ (¬ ((M 5 844257 0 (1 : Int32).toNatClampNeg) : Int32) ≤ x2 → p_201 x2 M ∧ vp_in x2 16 ∧ ∀ M7 : ux_M, M7 = ux_set M 5 999553 0 (x2 : Int32).toNatClampNeg (r_201 x2 M) → p_282_12 f x1 (x2 + 1) M7)
noncomputable def r_282_12 : Nat → Int32 → Int32 → ux_M → Int32
  | 0, _, _, _ => 0
  | f + 1, x1, x2, M => if ((M 5 844257 0 (1 : Int32).toNatClampNeg) : Int32) ≤ x2 then (((m_210 M) 5 999553 0 (x1 : Int32).toNatClampNeg) ||| ((1 : Int32) <<< (x1 &&& 31))) else (let M7 : ux_M := ux_set M 5 999553 0 (x2 : Int32).toNatClampNeg (r_201 x2 M); r_282_12 f x1 (x2 + 1) M7)
noncomputable def m_282_12 : Nat → Int32 → Int32 → ux_M → ux_M
  | 0, _, _, M => M
  | f + 1, x1, x2, M => if ((M 5 844257 0 (1 : Int32).toNatClampNeg) : Int32) ≤ x2 then (m_210 M) else (let M7 : ux_M := ux_set M 5 999553 0 (x2 : Int32).toNatClampNeg (r_201 x2 M); m_282_12 f x1 (x2 + 1) M7)
def p_282 (x1 : Int32) (M : ux_M) : Prop := p_235 x1 M ∧ ((r_235 x1 M) = 0 → p_282_12 ux_fuel x1 (0 : Int32) (m_235 x1 M)) ∧ (¬ (r_235 x1 M) = 0 → True)
noncomputable def r_282 (x1 : Int32) (M : ux_M) : Int32 := if (r_235 x1 M) = 0 then (r_282_12 ux_fuel x1 (0 : Int32) (m_235 x1 M)) else 0
noncomputable def m_282 (x1 : Int32) (M : ux_M) : ux_M := if (r_235 x1 M) = 0 then (m_282_12 ux_fuel x1 (0 : Int32) (m_235 x1 M)) else (m_235 x1 M)
theorem sa_282_12 {l : Launch} {E : ux_E} (hS : ux_SpecOK l E ux_chs) {d : Nat} {Q : Option ux_V → ux_M → Prop} (f : Nat) (x1 : Int32) (x2 : Int32) (M : ux_M) (h : p_282_12 f x1 x2 M) (hq : Q (some (.inl (r_282_12 f x1 x2 M))) (m_282_12 f x1 x2 M)) : ux_At l E (d + 3) y_282 12 [some (.inr (.inr (5, 819253, 0))), some (.inl x1), some (.inl x2)] [] M Q := by
  induction f generalizing x1 x2 M with
  | zero => exact h.elim
  | succ f ih => exact w_282_12 hS (d := d + 2) x1 x2 M ⟨h.1, ⟨fun q1 => (sf_210 hS  _ (h.2.1 q1).1 ⟨(h.2.1 q1).2, (ux_rm1 q1 hq)⟩), fun q1 => (sf_201 hS x2 _ (h.2.2 q1).1 ⟨(h.2.2 q1).2.1, (fun M7 e_M7 => by subst e_M7; exact (ih x1 (x2 + 1) _ ((h.2.2 q1).2.2 _ rfl) (ux_rm0 q1 hq)))⟩)⟩⟩
theorem sf_282 {l : Launch} {E : ux_E} (hS : ux_SpecOK l E ux_chs) {d : Nat} (x1 : Int32) (M : ux_M) {Q : Int32 → ux_M → Prop} (h : p_282 x1 M) (hq0 : Q (r_282 x1 M) (m_282 x1 M)) : ux_Call l E (d + 3) y_282 [.inr (.inr (5, 819253, 0)), .inl x1] M (ux_CI Q) := by
  have hq : (ux_CI Q) (some (.inl (r_282 x1 M))) (m_282 x1 M) := ⟨_, rfl, hq0⟩
  exact c_282 hS (d := d + 2) x1 M (sf_235 hS x1 _ h.1 ⟨fun q2 => (sa_282_12 hS ux_fuel x1 (0 : Int32) _ (h.2.1 q2) (ux_rm1 q2 hq)), fun q2 => (ux_rm0 q2 hq)⟩)
-- Model.orderingCircle 
def p_283_44 : Nat → Int32 → Int32 → ux_M → Prop
  | 0, _, _, _ => False
  | f + 1, x1, x2, M => vp_in 1 1084 ∧ (((M 5 844257 0 (1 : Int32).toNatClampNeg) : Int32) ≤ x2 → True) ∧ (¬ ((M 5 844257 0 (1 : Int32).toNatClampNeg) : Int32) ≤ x2 → vp_in x2 16 ∧ (¬ (((((M 5 999553 0 (x2 : Int32).toNatClampNeg) >>> (x2 &&& 31)) &&& (1 : Int32)) : Int32) = 1) → p_283_44 f (x1 ||| (0 : Int32)) (x2 + 1) M) ∧ (((((M 5 999553 0 (x2 : Int32).toNatClampNeg) >>> (x2 &&& 31)) &&& (1 : Int32)) : Int32) = 1 → p_283_44 f (x1 ||| ((1 : Int32) <<< (x2 &&& 31))) (x2 + 1) M))
noncomputable def r_283_44 : Nat → Int32 → Int32 → ux_M → Int32
  | 0, _, _, _ => 0
  | f + 1, x1, x2, M => if ((M 5 844257 0 (1 : Int32).toNatClampNeg) : Int32) ≤ x2 then x1 else (if ((((M 5 999553 0 (x2 : Int32).toNatClampNeg) >>> (x2 &&& 31)) &&& (1 : Int32)) : Int32) = 1 then (r_283_44 f (x1 ||| ((1 : Int32) <<< (x2 &&& 31))) (x2 + 1) M) else (r_283_44 f (x1 ||| (0 : Int32)) (x2 + 1) M))
def p_283_7 : Nat → Int32 → ux_M → Prop
  | 0, _, _ => False
  | f + 1, x1, M => vp_in 1 1084 ∧ (((M 5 844257 0 (1 : Int32).toNatClampNeg) : Int32) ≤ x1 → p_210 M ∧ p_283_44 ux_fuel (0 : Int32) (0 : Int32) (m_210 M)) ∧ (¬ ((M 5 844257 0 (1 : Int32).toNatClampNeg) : Int32) ≤ x1 → ux_u x1 27 ∧ vp_in x1 16 ∧ ∀ M4 : ux_M, M4 = ux_set M 5 999553 0 (x1 : Int32).toNatClampNeg (ux_of M x1 27) → p_283_7 f (x1 + 1) M4)
noncomputable def r_283_7 : Nat → Int32 → ux_M → Int32
  | 0, _, _ => 0
  | f + 1, x1, M => if ((M 5 844257 0 (1 : Int32).toNatClampNeg) : Int32) ≤ x1 then (r_283_44 ux_fuel (0 : Int32) (0 : Int32) (m_210 M)) else (let M4 : ux_M := ux_set M 5 999553 0 (x1 : Int32).toNatClampNeg (ux_of M x1 27); r_283_7 f (x1 + 1) M4)
noncomputable def m_283_7 : Nat → Int32 → ux_M → ux_M
  | 0, _, M => M
  | f + 1, x1, M => if ((M 5 844257 0 (1 : Int32).toNatClampNeg) : Int32) ≤ x1 then (m_210 M) else (let M4 : ux_M := ux_set M 5 999553 0 (x1 : Int32).toNatClampNeg (ux_of M x1 27); m_283_7 f (x1 + 1) M4)
def p_283  (M : ux_M) : Prop := ∀ M1 : ux_M, M1 = ux_set M 5 819253 0 6 0 → p_283_7 ux_fuel (0 : Int32) M1
noncomputable def r_283  (M : ux_M) : Int32 := let M1 : ux_M := ux_set M 5 819253 0 6 0; r_283_7 ux_fuel (0 : Int32) M1
noncomputable def m_283  (M : ux_M) : ux_M := let M1 : ux_M := ux_set M 5 819253 0 6 0; m_283_7 ux_fuel (0 : Int32) M1
theorem sa_283_44 {l : Launch} {E : ux_E} (hS : ux_SpecOK l E ux_chs) {d : Nat} {Q : Option ux_V → ux_M → Prop} (f : Nat) (x1 : Int32) (x2 : Int32) (M : ux_M) (h : p_283_44 f x1 x2 M) (hq : Q (some (.inl (r_283_44 f x1 x2 M))) M) : ux_At l E (d + 2) y_283 44 [some (.inr (.inr (5, 819253, 0))), some (.inl x1), some (.inl x2)] [] M Q := by
  induction f generalizing x1 x2 M with
  | zero => exact h.elim
  | succ f ih => exact w_283_44 hS (d := d + 1) x1 x2 M ⟨h.1, ⟨fun q1 => (ux_r1 q1 hq), fun q1 => ⟨(h.2.2 q1).1, ⟨fun q2 => (ih (x1 ||| (0 : Int32)) (x2 + 1) _ ((h.2.2 q1).2.1 q2) (ux_r0 q2 (ux_r0 q1 hq))), fun q2 => (ih (x1 ||| ((1 : Int32) <<< (x2 &&& 31))) (x2 + 1) _ ((h.2.2 q1).2.2 q2) (ux_r1 q2 (ux_r0 q1 hq)))⟩⟩⟩⟩
theorem sa_283_7 {l : Launch} {E : ux_E} (hS : ux_SpecOK l E ux_chs) {d : Nat} {Q : Option ux_V → ux_M → Prop} (f : Nat) (x1 : Int32) (M : ux_M) (h : p_283_7 f x1 M) (hq : Q (some (.inl (r_283_7 f x1 M))) (m_283_7 f x1 M)) : ux_At l E (d + 2) y_283 7 [some (.inr (.inr (5, 819253, 0))), some (.inl x1), none] [] M Q := by
  induction f generalizing x1 M with
  | zero => exact h.elim
  | succ f ih => exact w_283_7 hS (d := d + 1) x1 M ⟨h.1, ⟨fun q3 => (sf_210 hS  _ (h.2.1 q3).1 (sa_283_44 hS ux_fuel (0 : Int32) (0 : Int32) _ (h.2.1 q3).2 (ux_rm1 q3 hq))), fun q3 => ⟨(h.2.2 q3).1, ⟨(h.2.2 q3).2.1, (fun M4 e_M4 => by subst e_M4; exact (ih (x1 + 1) _ ((h.2.2 q3).2.2 _ rfl) (ux_rm0 q3 hq)))⟩⟩⟩⟩
theorem sf_283 {l : Launch} {E : ux_E} (hS : ux_SpecOK l E ux_chs) {d : Nat}  (M : ux_M) {Q : Int32 → ux_M → Prop} (h : p_283  M) (hq0 : Q (r_283  M) (m_283  M)) : ux_Call l E (d + 2) y_283 [.inr (.inr (5, 819253, 0))] M (ux_CI Q) := by
  have hq : (ux_CI Q) (some (.inl (r_283  M))) (m_283  M) := ⟨_, rfl, hq0⟩
  exact c_283 hS (d := d + 1)  M (fun M1 e_M1 => by subst e_M1; exact (sa_283_7 hS ux_fuel (0 : Int32) _ (h _ rfl) hq))
