/-! THE CLASS'S SETS IN THE REFERENCE'S WORDS -/
section ZC9
variable {k c t B x b u T n : Nat} {m m' : ux_M} {M : ux_M} {eS eR eO aS aO : Int32}
theorem z_W.xN (h : z_W k c t B M m) {v w : Nat} (hv : v < c) : bt (M k 491649 0 v) w = z_Nd m v w := h.bN hv w
theorem z_W.xO (h : z_W k c t B M m) {v w : Nat} (hv : v < c) (hw : w < c) : bt (M k 508033 0 v) w = z_Op m c v w := by
  rw [h.bO hv hw]; unfold z_Op; simp [hw]
theorem z_W.xF (h : z_W k c t B M m) {v w : Nat} (hv : v < c) (hw : w < c) : bt (M k 524417 0 v) w = z_Fo m c v w := by
  rw [h.bF hv hw]; unfold z_Fo; simp [hw]
theorem z_W.xW (h : z_W k c t B M m) {v w : Nat} (hv : v < c) : bt (M k 475265 1 v) w = z_Wn m v w := by
  have e : M k 475265 1 v = z_Y m 23 v := h.rl hv 1 (by omega)
  rw [e]; rfl
theorem z_b46 : ∀ s, s < 6 → bt 46 s = (!decide (s = 0) && !decide (s = 4)) := by decide
theorem z_xA (h : z_R x b k c t B M m) {w : Nat} (hw : w < 32) : bt (r_43 k 46 M) w = z_Ac m c w := by
  rw [z_r43 h.1 h.2 46 hw]
  unfold z_Ac
  by_cases q : w < c
  · have w16 := h.1.u16 q
    obtain ⟨s, s6, e⟩ := h.2.sv q
    have e0 : (nI s = 0) ↔ s = 0 := z_eq (b := 0) (by omega) (by omega)
    have e4 : (nI s = 4) ↔ s = 4 := z_eq (b := 4) (by omega) (by omega)
    rw [e, z_cl (by omega), z_b46 s s6]
    simp [q, e0, e4]
  · simp [q]
theorem z_W.hz (h : z_W k c t B M m) : ∀ i, i < 16 → ∀ v, c ≤ v → bt (M k 491649 0 i) v = false ∧ bt (M k 508033 0 i) v = false ∧ bt (M k 524417 0 i) v = false := fun i hi v hv => by
  by_cases q : i < c
  · have := h.bZ q hv; exact ⟨this.1, this.2.1, this.2.2.1⟩
  · obtain ⟨a, b, d, _⟩ := h.cz (show c ≤ i by omega) hi
    rw [a, b, d]; exact ⟨b_0 v, b_0 v, b_0 v⟩
/-- the essential sets -/
theorem z_brE (h : z_R x b k c t B M m) (hu : u < c) (hT : T = 1 ∨ T = 2 ∨ T = 3) {g0 g' : Nat → Int32} (a0 : g0 0 = if nI T = 2 then 0 else (1 : Int32) <<< (nI u &&& 31)) (a1 : g0 1 = if nI T = 3 then (1 : Int32) <<< (nI u &&& 31) else 0) (a2 : g0 2 = if nI T = 2 then (1 : Int32) <<< (nI u &&& 31) else 0)
    (he : z_end66 (M k 491649 0) (M k 508033 0) (M k 524417 0) (r_43 k 46 M) g0 g') (hr : z_sub (g' 1) (g' 0)) : z_Ec m c u T (g' 0) (g' 1) (g' 2) := by
  obtain ⟨p1, p2, p3, p4⟩ := he
  have hc := h.1.le
  have u32 : u < 32 := by omega
  have eT2 : nI T = 2 ↔ T = 2 := by rw [← z_n2]; exact z_eq (by omega) (by omega)
  have eT3 : nI T = 3 ↔ T = 3 := by rw [← z_n3]; exact z_eq (by omega) (by omega)
  simp only [eT2, eT3] at a0 a1 a2
  have bu : bt ((1 : Int32) <<< (nI u &&& 31)) u = true := by rw [z_bit u32 u32]; simp
  have key : ∀ Q1 Q3 Q2 : Nat → Prop, ((T = 1 → Q1 u) ∧ (T = 2 → Q2 u) ∧ (T = 3 → Q3 u)) → (∀ w, w < c → Q3 w → Q1 w) →
      (∀ v w, v < c → w < c → (Q1 v → z_Nd m v w = true → Q1 w) ∧ (Q1 v → z_Op m c v w = true → Q2 w) ∧ (Q3 v → (z_Fo m c v w && z_Ac m c w) = true → Q3 w) ∧ (Q2 v → z_Fo m c v w = true → Q2 w)) →
      z_in3 g' (fun w => w < c ∧ Q1 w) (fun w => w < c ∧ Q3 w) (fun w => w < c ∧ Q2 w) := fun Q1 Q3 Q2 hs h31 hcl => by
    refine p3 _ _ _ ⟨fun i hi p v hv => ⟨fun q => ?_, fun q => ?_⟩, fun i hi p v hv q q' => ?_, fun v p => ⟨p.1, h31 v p.1 p.2⟩, fun i hi p v hv q => ?_⟩ ⟨fun v hv q => ?_, fun v hv q => ?_, fun v hv q => ?_⟩
    · have vc : v < c := Classical.byContradiction (fun y => by rw [(h.1.hz i hi v (by omega)).1] at q; cases q)
      exact ⟨vc, (hcl i v p.1 vc).1 p.2 ((h.1.xN p.1).symm.trans q)⟩
    · have vc : v < c := Classical.byContradiction (fun y => by rw [(h.1.hz i hi v (by omega)).2.1] at q; cases q)
      exact ⟨vc, (hcl i v p.1 vc).2.1 p.2 ((h.1.xO p.1 vc).symm.trans q)⟩
    · have vc : v < c := Classical.byContradiction (fun y => by rw [(h.1.hz i hi v (by omega)).2.2] at q; cases q)
      rw [h.1.xF p.1 vc] at q
      rw [z_xA h hv] at q'
      exact ⟨vc, (hcl i v p.1 vc).2.2.1 p.2 (by rw [q, q']; rfl)⟩
    · have vc : v < c := Classical.byContradiction (fun y => by rw [(h.1.hz i hi v (by omega)).2.2] at q; cases q)
      exact ⟨vc, (hcl i v p.1 vc).2.2.2 p.2 ((h.1.xF p.1 vc).symm.trans q)⟩
    · rw [a0] at q
      split at q
      · rw [b_0] at q; cases q
      · rename_i n2
        rw [z_bit u32 hv, decide_eq_true_eq] at q
        subst q
        rcases hT with y | y | y
        · exact ⟨hu, hs.1 y⟩
        · exact absurd y n2
        · exact ⟨hu, h31 v hu (hs.2.2 y)⟩
    · rw [a1] at q
      split at q
      · rename_i y
        rw [z_bit u32 hv, decide_eq_true_eq] at q
        subst q; exact ⟨hu, hs.2.2 y⟩
      · rw [b_0] at q; cases q
    · rw [a2] at q
      split at q
      · rename_i y
        rw [z_bit u32 hv, decide_eq_true_eq] at q
        subst q; exact ⟨hu, hs.2.1 y⟩
      · rw [b_0] at q; cases q
  obtain ⟨l1, l3, l2⟩ := key (fun _ => True) (fun _ => True) (fun _ => True) ⟨fun _ => trivial, fun _ => trivial, fun _ => trivial⟩ (fun _ _ _ => trivial) (fun _ _ _ _ => ⟨fun _ _ => trivial, fun _ _ => trivial, fun _ _ => trivial, fun _ _ => trivial⟩)
  refine ⟨fun w hw => ⟨fun q => (l1 w hw q).1, fun q => ⟨(l3 w hw q).1, hr w hw q⟩, fun q => (l2 w hw q).1⟩, fun y => ?_, fun y => ?_, fun y => ?_, fun v w hv hw => ?_, fun Q1 Q3 Q2 hs h31 hcl w hw => ?_⟩
  · refine p1.1 u u32 ?_
    rw [a0, if_neg (by omega)]; exact bu
  · refine p1.2.2 u u32 ?_
    rw [a2, if_pos y]; exact bu
  · refine p1.2.1 u u32 ?_
    rw [a1, if_pos y]; exact bu
  · have v16 : v < 16 := by omega
    have w32 : w < 32 := by omega
    obtain ⟨c1, c2, c3⟩ := p4 v v16
    refine ⟨fun a q => (c1 a).1 w w32 ((h.1.xN hv).trans q), fun a q => (c1 a).2 w w32 ((h.1.xO hv hw).trans q), fun a q => c2 a w w32 ?_, fun a q => c3 a w w32 ((h.1.xF hv hw).trans q)⟩
    rw [b_and, h.1.xF hv hw, z_xA h w32]; exact q
  · obtain ⟨k1, k3, k2⟩ := key Q1 Q3 Q2 hs h31 hcl
    exact ⟨fun q => (k1 w (by omega) q).2, fun q => (k3 w (by omega) q).2, fun q => (k2 w (by omega) q).2⟩
/-- all jobs -/
theorem z_brA (h : z_R x b k c t B M m) {g g' : Nat → Int32} (b5 : ∀ w, w < c → bt (g 5) w = z_bl m 1 w) (b6 : ∀ w, w < c → bt (g 6) w = z_bl m 2 w) (h3 : ∀ w, w < 32 → bt (g 3) w = true → w < c) (h4 : ∀ w, w < 32 → bt (g 4) w = true → w < c)
    (he : z_end66 (fun i => (M k 491649 0 i ||| M k 475265 1 i) &&& (g 5 ^^^ ((-1) : Int32))) (fun i => M k 508033 0 i &&& (g 6 ^^^ ((-1) : Int32))) (fun i => M k 524417 0 i &&& (g 6 ^^^ ((-1) : Int32))) 0 (z_up (z_up (z_up g 0 (g 3)) 2 (g 4)) 1 0) (z_up g' 1 0)) : z_Al m c (g 3) (g 4) (g' 0) (g' 2) := by
  obtain ⟨p1, p2, p3, p4⟩ := he
  have hc := h.1.le
  have s0 : z_up (z_up (z_up g 0 (g 3)) 2 (g 4)) 1 0 0 = g 3 := by rw [z_upn (by decide), z_upn (by decide), z_upe]
  have s2 : z_up (z_up (z_up g 0 (g 3)) 2 (g 4)) 1 0 2 = g 4 := by rw [z_upn (by decide), z_upe]
  have s1 : z_up (z_up (z_up g 0 (g 3)) 2 (g 4)) 1 0 1 = 0 := z_upe
  have e0 : z_up g' 1 0 0 = g' 0 := z_upn (by decide)
  have e2 : z_up g' 1 0 2 = g' 2 := z_upn (by decide)
  have wz : ∀ i, i < 16 → ∀ v, c ≤ v → bt (M k 475265 1 i) v = false := fun i hi v hv => by
    by_cases q : i < c
    · cases e : bt (M k 475265 1 i) v
      · rfl
      · rw [h.1.xW q] at e
        have := (h.1.rb q 1 (by omega) v e).1
        omega
    · rw [(h.1.cz (show c ≤ i by omega) hi).2.2.2.2 1 (by omega), b_0]
  have key : ∀ Q1 Q2 : Nat → Prop, (∀ w, w < c → (bt (g 3) w = true → Q1 w) ∧ (bt (g 4) w = true → Q2 w)) →
      (∀ v w, v < c → w < c → (Q1 v → (z_Nd m v w || z_Wn m v w) = true → z_bl m 1 w = false → Q1 w) ∧ (Q1 v → z_Op m c v w = true → z_bl m 2 w = false → Q2 w) ∧ (Q2 v → z_Fo m c v w = true → z_bl m 2 w = false → Q2 w)) →
      z_in3 (z_up g' 1 0) (fun w => w < c ∧ Q1 w) (fun _ => False) (fun w => w < c ∧ Q2 w) := fun Q1 Q2 hs hcl => by
    refine p3 _ _ _ ⟨fun i hi p v hv => ⟨fun q => ?_, fun q => ?_⟩, fun i hi p v hv q q' => p.elim, fun v p => p.elim, fun i hi p v hv q => ?_⟩ ⟨fun v hv q => ?_, fun v hv q => ?_, fun v hv q => ?_⟩
    · rw [b_and, z_not _ hv, b_or, Bool.and_eq_true, Bool.or_eq_true] at q
      have vc : v < c := Classical.byContradiction (fun y => by rw [(h.1.hz i hi v (by omega)).1, wz i hi v (by omega)] at q; rcases q.1 with z | z <;> cases z)
      refine ⟨vc, (hcl i v p.1 vc).1 p.2 ?_ ?_⟩
      · rw [← h.1.xN p.1, ← h.1.xW p.1, Bool.or_eq_true]; exact q.1
      · have := q.2; rw [b5 v vc] at this; simpa using this
    · rw [b_and, z_not _ hv, Bool.and_eq_true] at q
      have vc : v < c := Classical.byContradiction (fun y => by rw [(h.1.hz i hi v (by omega)).2.1] at q; cases q.1)
      refine ⟨vc, (hcl i v p.1 vc).2.1 p.2 ((h.1.xO p.1 vc).symm.trans q.1) ?_⟩
      have := q.2; rw [b6 v vc] at this; simpa using this
    · rw [b_and, z_not _ hv, Bool.and_eq_true] at q
      have vc : v < c := Classical.byContradiction (fun y => by rw [(h.1.hz i hi v (by omega)).2.2] at q; cases q.1)
      refine ⟨vc, (hcl i v p.1 vc).2.2 p.2 ((h.1.xF p.1 vc).symm.trans q.1) ?_⟩
      have := q.2; rw [b6 v vc] at this; simpa using this
    · rw [s0] at q
      have vc := h3 v hv q
      exact ⟨vc, (hs v vc).1 q⟩
    · rw [s1, b_0] at q; cases q
    · rw [s2] at q
      have vc := h4 v hv q
      exact ⟨vc, (hs v vc).2 q⟩
  obtain ⟨l1, _, l2⟩ := key (fun _ => True) (fun _ => True) (fun _ _ => ⟨fun _ => trivial, fun _ => trivial⟩) (fun _ _ _ _ => ⟨fun _ _ _ => trivial, fun _ _ _ => trivial, fun _ _ _ => trivial⟩)
  rw [e0] at l1
  rw [e2] at l2
  refine ⟨fun w hw => ⟨fun q => (l1 w hw q).1, fun q => (l2 w hw q).1, fun q => ?_, fun q => ?_⟩, fun v w hv hw => ?_, fun Q1 Q2 hs hcl w hw => ?_⟩
  · have := p1.1 w hw (by rw [s0]; exact q)
    rw [e0] at this; exact this
  · have := p1.2.2 w hw (by rw [s2]; exact q)
    rw [e2] at this; exact this
  · have v16 : v < 16 := by omega
    have w32 : w < 32 := by omega
    obtain ⟨c1, _, c3⟩ := p4 v v16
    rw [e0, e2] at c1
    rw [e2] at c3
    refine ⟨fun a q z => (c1 a).1 w w32 ?_, fun a q z => (c1 a).2 w w32 ?_, fun a q z => c3 a w w32 ?_⟩
    · rw [b_and, b_or, z_not _ w32, h.1.xN hv, h.1.xW hv, q, b5 w hw, z]; rfl
    · rw [b_and, z_not _ w32, h.1.xO hv hw, q, b6 w hw, z]; rfl
    · rw [b_and, z_not _ w32, h.1.xF hv hw, q, b6 w hw, z]; rfl
  · obtain ⟨k1, _, k2⟩ := key Q1 Q2 hs hcl
    rw [e0] at k1
    rw [e2] at k2
    exact ⟨fun q => (k1 w (by omega) q).2, fun q => (k2 w (by omega) q).2⟩
end ZC9
