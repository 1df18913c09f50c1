/-! CIRCLES AND BANS: both sides -/
/-- both loops, at their heads: g the class's fields, m the reference's memory -/
def z_LI (m : ux_M) (c : Nat) (g : Nat → Int32) : Prop := (∀ w, w < 32 → bt (g 5) w = (decide (w < c) && z_bl m 1 w) ∧ bt (g 6) w = (decide (w < c) && z_bl m 2 w) ∧ z_bw m 3 w = false)
  ∧ ∀ w, w < c → (bt (g 3) w = true → z_bl m 1 w = false ∧ z_bl m 3 w = false) ∧ (bt (g 4) w = true → z_bl m 2 w = false)
section ZD2
variable {k c t B x b u T n v : Nat} {m m' : ux_M} {M C : ux_M} {g : Nat → Int32} {eS eR eO aS aO : Int32}
theorem z_fM.Ec (h : z_fM m m') (q : z_Ec m c u T eS eR eO) : z_Ec m' c u T eS eR eO := by
  unfold z_Ec at q ⊢
  simp only [h.nd, h.op, h.fo, h.ac]
  exact q
/-- circles -/
theorem z_circ (h : z_R x b k c t B C m) (hT : z_tr k c C m) : p_69 k C ∧ p_40b k (m_69 k C) ∧ m_40b k (m_69 k C) = m_69 k C ∧ (∀ a s r j, ¬ (a = k ∧ s = 278657) → m_69 k C a s r j = C a s r j) ∧ p_207 m ∧ z_f9 m (m_207 m)
    ∧ ∀ w, w < 32 → bt (r_40b k (m_69 k C)) w = (decide (w < c) && z_cir (m_207 m) w) := by
  obtain ⟨a1, a2, a3⟩ := z_69 h hT
  have hc := h.1.le
  obtain ⟨b1, b2, b3⟩ := z_40b (m_69 k C) k (fun i hi v h1 h2 => by
    rw [a3 i hi v h2]
    have : ¬ v < c := by omega
    simp [this])
  obtain ⟨c1, c2, c3⟩ := z_207 hc h.1.cn
  refine ⟨a1, b1, b2, a2, c1, c2, fun w hw => z_b11 _ _ ((b3 w hw).trans ?_)⟩
  have ef : ∀ x y, (x < 16 ∧ y < 32 ∧ bt (m_69 k C k 278657 0 x) y = true) → (y < c ∧ x < c ∧ z_fe m y x = true) := fun x y q => by
    have e := q.2.2
    rw [a3 x q.1 y q.2.1] at e
    simp only [Bool.and_eq_true, decide_eq_true_eq] at e
    exact ⟨e.1.2, e.1.1, e.2⟩
  have fe : ∀ x y, (x < c ∧ y < c ∧ z_fe m x y = true) → (y < 16 ∧ x < 32 ∧ bt (m_69 k C k 278657 0 y) x = true) := fun x y q => by
    refine ⟨by omega, by omega, ?_⟩
    rw [a3 y (by omega) x (by omega)]
    simp [q.1, q.2.1, q.2.2]
  rw [Bool.and_eq_true, decide_eq_true_eq]
  constructor
  · rintro ⟨w16, p⟩
    have p' := z_tc.rev (F := fun x y => x < c ∧ y < c ∧ z_fe m x y = true) (fun x y q => ef x y q) p
    have wc : w < c := by
      obtain ⟨n, hn⟩ := p'
      cases n with
      | zero => exact hn.1
      | succ n => obtain ⟨z, h1, _⟩ := hn; exact h1.1
    exact ⟨wc, (c3 w w wc hw).mpr p'⟩
  · rintro ⟨wc, p⟩
    exact ⟨by omega, z_tc.rev (F := fun x y => x < 16 ∧ y < 32 ∧ bt (m_69 k C k 278657 0 x) y = true) (fun x y q => fe x y q) ((c3 w w wc hw).mp p)⟩
/-- a ban -/
theorem z_ban (m : ux_M) (hv : v < 16) {X : Nat} : z_fM m (ux_set m 5 983073 0 X (m 5 983073 0 X ||| ((1 : Int32) <<< (nI v &&& 31)))) ∧ ∀ Y w, w < 32 → z_bl (ux_set m 5 983073 0 X (m 5 983073 0 X ||| ((1 : Int32) <<< (nI v &&& 31)))) Y w = (z_bl m Y w || (decide (Y = X) && decide (w = v)))
    ∧ z_bw (ux_set m 5 983073 0 X (m 5 983073 0 X ||| ((1 : Int32) <<< (nI v &&& 31)))) Y w = (z_bw m Y w || (decide (Y = X) && decide (w = v))) := by
  have f := (z_fM.rf (m := m)).st 983073 X (m 5 983073 0 X ||| ((1 : Int32) <<< (nI v &&& 31))) (by omega)
  have bw : ∀ Y w, w < 32 → z_bw (ux_set m 5 983073 0 X (m 5 983073 0 X ||| ((1 : Int32) <<< (nI v &&& 31)))) Y w = (z_bw m Y w || (decide (Y = X) && decide (w = v))) := fun Y w hw => by
    unfold z_bw
    by_cases q : Y = X
    · subst q; rw [z_ss, b_or, z_bit (by omega) hw]; simp
    · rw [z_si q]; simp [q]
  refine ⟨f, fun Y w hw => ⟨?_, bw Y w hw⟩⟩
  unfold z_bl
  rw [bw Y w hw, f.Y, Bool.or_right_comm]
/-- a start is banned on both sides -/
theorem z_LI.s1 (h : z_LI m c g) (hc : c ≤ 16) (hv : v < c) (he : bt (g 3) v = false) (hb : z_bl m 1 v = false) : z_LI (ux_set m 5 983073 0 1 (m 5 983073 0 1 ||| ((1 : Int32) <<< (nI v &&& 31)))) c (z_up g 5 (g 5 ||| ((1 : Int32) <<< (nI v &&& 31)))) ∧ z_pop (g 5) 16 < z_pop (g 5 ||| ((1 : Int32) <<< (nI v &&& 31))) 16 := by
  obtain ⟨h1, h2⟩ := h
  have v32 : v < 32 := by omega
  obtain ⟨_, fb⟩ := z_ban m (show v < 16 by omega) (X := 1)
  refine ⟨⟨fun w hw => ?_, fun w hw => ?_⟩, ?_⟩
  · obtain ⟨a1, a2, a3⟩ := h1 w hw
    rw [(fb 1 w hw).1, (fb 2 w hw).1, (fb 3 w hw).2, z_upe, z_upn (by decide), b_or, z_bit v32 hw, a1, a2, a3]
    by_cases q : w = v
    · subst q; simp [hv]
    · simp [q]
  · obtain ⟨a1, a2⟩ := h2 w hw
    rw [z_upn (by decide), z_upn (by decide), (fb 1 w (by omega)).1, (fb 2 w (by omega)).1, (fb 3 w (by omega)).1]
    by_cases q : w = v
    · subst q
      refine ⟨fun y => absurd (he.symm.trans y) (by decide), fun y => ?_⟩
      rw [a2 y]; rfl
    · simp only [q, decide_false, Bool.and_false, Bool.or_false]; exact ⟨a1, a2⟩
  · refine z_pop_lt z_sub.l (v := v) ?_ ?_ 16 (by omega) (by omega)
    · rw [(h1 v v32).1, hb, Bool.and_false]
    · rw [b_or, z_bit v32 v32]; simp
/-- a stop is banned on both sides -/
theorem z_LI.s2 (h : z_LI m c g) (hc : c ≤ 16) (hv : v < c) (he : bt (g 4) v = false) (hb : z_bl m 2 v = false) : z_LI (ux_set m 5 983073 0 2 (m 5 983073 0 2 ||| ((1 : Int32) <<< (nI v &&& 31)))) c (z_up g 6 (g 6 ||| ((1 : Int32) <<< (nI v &&& 31)))) ∧ z_pop (g 6) 16 < z_pop (g 6 ||| ((1 : Int32) <<< (nI v &&& 31))) 16 := by
  obtain ⟨h1, h2⟩ := h
  have v32 : v < 32 := by omega
  obtain ⟨_, fb⟩ := z_ban m (show v < 16 by omega) (X := 2)
  refine ⟨⟨fun w hw => ?_, fun w hw => ?_⟩, ?_⟩
  · obtain ⟨a1, a2, a3⟩ := h1 w hw
    rw [(fb 1 w hw).1, (fb 2 w hw).1, (fb 3 w hw).2, z_upe, z_upn (by decide), b_or, z_bit v32 hw, a1, a2, a3]
    by_cases q : w = v
    · subst q; simp [hv]
    · simp [q]
  · obtain ⟨a1, a2⟩ := h2 w hw
    rw [z_upn (by decide), z_upn (by decide), (fb 1 w (by omega)).1, (fb 2 w (by omega)).1, (fb 3 w (by omega)).1]
    by_cases q : w = v
    · subst q
      refine ⟨fun y => ?_, fun y => absurd (he.symm.trans y) (by decide)⟩
      obtain ⟨y1, y2⟩ := a1 y
      rw [y1, y2]; exact ⟨rfl, rfl⟩
    · simp only [q, decide_false, Bool.and_false, Bool.or_false]; exact ⟨a1, a2⟩
  · refine z_pop_lt z_sub.l (v := v) ?_ ?_ 16 (by omega) (by omega)
    · rw [(h1 v v32).2.1, hb, Bool.and_false]
    · rw [b_or, z_bit v32 v32]; simp
end ZD2
