/-! the reference's snapshots: slotRow answers a cell -/
theorem ux_vin0 : vp_in 0 1084 := vp_in_nI (n := 0) (by omega) (by omega)
noncomputable def mm_293 (x1 : Int32) (M : ux_M) : ux_M := ux_set (if x1 = 0 then m_173d (m_294 x1 M) else m_173e (m_294 x1 M)) 5 917522 0 x1.toNatClampNeg 1
def p_293 (x1 : Int32) (M : ux_M) : Prop := p_294 x1 M ∧ (r_294 x1 M = 0 → (x1 = 0 → p_173d (m_294 x1 M)) ∧ (¬ x1 = 0 → p_173e (m_294 x1 M)) ∧ vp_in x1 2)
noncomputable def r_293 (x1 : Int32) (M : ux_M) : Int32 := if r_294 x1 M = 0 then mm_293 x1 M 5 844257 0 (0 : Int32).toNatClampNeg else 0
noncomputable def m_293 (x1 : Int32) (M : ux_M) : ux_M := if r_294 x1 M = 0 then mm_293 x1 M else m_294 x1 M
theorem sf_293 {l : Launch} {E : ux_E} (hS : ux_SpecOK l E ux_chs) {d : Nat} (x1 : Int32) (M : ux_M) {Q : Int32 → ux_M → Prop} (h : p_293 x1 M) (hq : Q (r_293 x1 M) (m_293 x1 M)) : ux_Call l E (d + 10) y_293 [.inr (.inr (5, 819253, 0)), .inl x1] M (ux_CI Q) := by
  refine c_293 hS (d := d + 9) x1 M (sf_294 hS x1 M h.1 ⟨fun q => ?_, fun q => ?_⟩)
  · obtain ⟨h0, h1, hv⟩ := h.2 q
    have er : r_293 x1 M = mm_293 x1 M 5 844257 0 (0 : Int32).toNatClampNeg := if_pos q
    have em : m_293 x1 M = mm_293 x1 M := if_pos q
    rw [er, em] at hq
    refine c_295 hS x1 _ ⟨fun z => ⟨5, 909793, 0, rfl, sf_173e hS _ (h1 z) ⟨hv, fun M12 e => ⟨ux_vin0, _, rfl, ?_⟩⟩⟩, fun z => ⟨5, 893409, 0, rfl, sf_173d hS _ (h0 z) ⟨hv, fun M12 e => ⟨ux_vin0, _, rfl, ?_⟩⟩⟩⟩
    · have e2 : mm_293 x1 M = M12 := by rw [e]; unfold mm_293; rw [if_neg z]
      rw [e2] at hq
      exact hq
    · have e2 : mm_293 x1 M = M12 := by rw [e]; unfold mm_293; rw [if_pos z]
      rw [e2] at hq
      exact hq
  · have er : r_293 x1 M = 0 := if_neg q
    have em : m_293 x1 M = m_294 x1 M := if_neg q
    rw [er, em] at hq
    exact ⟨_, rfl, hq⟩
noncomputable def mm_296 (x1 : Int32) (M : ux_M) : ux_M := if x1 = 0 then m_173f (m_294 x1 M) else m_173g (m_294 x1 M)
def p_296 (x1 : Int32) (M : ux_M) : Prop := p_294 x1 M ∧ (r_294 x1 M = 0 → vp_in x1 2 ∧ (¬ m_294 x1 M 5 917522 0 x1.toNatClampNeg = 0 → (x1 = 0 → p_173f (m_294 x1 M)) ∧ (¬ x1 = 0 → p_173g (m_294 x1 M))))
noncomputable def r_296 (x1 : Int32) (M : ux_M) : Int32 := if r_294 x1 M = 0 then (if m_294 x1 M 5 917522 0 x1.toNatClampNeg = 0 then -1 else mm_296 x1 M 5 844257 0 (0 : Int32).toNatClampNeg) else 0
noncomputable def m_296 (x1 : Int32) (M : ux_M) : ux_M := if r_294 x1 M = 0 then (if m_294 x1 M 5 917522 0 x1.toNatClampNeg = 0 then m_294 x1 M else mm_296 x1 M) else m_294 x1 M
theorem sf_296 {l : Launch} {E : ux_E} (hS : ux_SpecOK l E ux_chs) {d : Nat} (x1 : Int32) (M : ux_M) {Q : Int32 → ux_M → Prop} (h : p_296 x1 M) (hq : Q (r_296 x1 M) (m_296 x1 M)) : ux_Call l E (d + 10) y_296 [.inr (.inr (5, 819253, 0)), .inl x1] M (ux_CI Q) := by
  refine c_296 hS (d := d + 9) x1 M (sf_294 hS x1 M h.1 ⟨fun q => ?_, fun q => ?_⟩)
  · obtain ⟨hv, h0⟩ := h.2 q
    refine ⟨hv, fun z0 => ?_, fun z0 => ?_⟩
    · have er : r_296 x1 M = mm_296 x1 M 5 844257 0 (0 : Int32).toNatClampNeg := (if_pos q).trans (if_neg z0)
      have em : m_296 x1 M = mm_296 x1 M := (if_pos q).trans (if_neg z0)
      rw [er, em] at hq
      refine c_295 hS x1 _ ⟨fun z => ⟨5, 909793, 0, rfl, sf_173g hS _ ((h0 z0).2 z) ⟨ux_vin0, _, rfl, ?_⟩⟩, fun z => ⟨5, 893409, 0, rfl, sf_173f hS _ ((h0 z0).1 z) ⟨ux_vin0, _, rfl, ?_⟩⟩⟩
      · have e2 : mm_296 x1 M = m_173g (m_294 x1 M) := if_neg z
        rw [e2] at hq
        exact hq
      · have e2 : mm_296 x1 M = m_173f (m_294 x1 M) := if_pos z
        rw [e2] at hq
        exact hq
    · have er : r_296 x1 M = -1 := (if_pos q).trans (if_pos z0)
      have em : m_296 x1 M = m_294 x1 M := (if_pos q).trans (if_pos z0)
      rw [er, em] at hq
      exact ⟨_, rfl, hq⟩
  · have er : r_296 x1 M = 0 := if_neg q
    have em : m_296 x1 M = m_294 x1 M := if_neg q
    rw [er, em] at hq
    exact ⟨_, rfl, hq⟩
