/-! TRANSACTIONS: what both sides build -/
/-- the essential sets, in the reference's words: closed, and the least -/
def z_Ec (m : ux_M) (c u T : Nat) (eS eR eO : Int32) : Prop := (∀ w, w < 32 → (bt eS w = true → w < c) ∧ (bt eR w = true → w < c ∧ bt eS w = true) ∧ (bt eO w = true → w < c))
  ∧ (T = 1 → bt eS u = true) ∧ (T = 2 → bt eO u = true) ∧ (T = 3 → bt eR u = true)
  ∧ (∀ v w, v < c → w < c → (bt eS v = true → z_Nd m v w = true → bt eS w = true) ∧ (bt eS v = true → z_Op m c v w = true → bt eO w = true) ∧ (bt eR v = true → (z_Fo m c v w && z_Ac m c w) = true → bt eR w = true) ∧ (bt eO v = true → z_Fo m c v w = true → bt eO w = true))
  ∧ ∀ Q1 Q3 Q2 : Nat → Prop, ((T = 1 → Q1 u) ∧ (T = 2 → Q2 u) ∧ (T = 3 → Q3 u)) → (∀ w, w < c → Q3 w → Q1 w) →
      (∀ v w, v < c → w < c → (Q1 v → z_Nd m v w = true → Q1 w) ∧ (Q1 v → z_Op m c v w = true → Q2 w) ∧ (Q3 v → (z_Fo m c v w && z_Ac m c w) = true → Q3 w) ∧ (Q2 v → z_Fo m c v w = true → Q2 w)) →
      ∀ w, w < c → (bt eS w = true → Q1 w) ∧ (bt eR w = true → Q3 w) ∧ (bt eO w = true → Q2 w)
/-- all that is pulled, but what is left out -/
def z_Al (m : ux_M) (c : Nat) (eS eO aS aO : Int32) : Prop := (∀ w, w < 32 → (bt aS w = true → w < c) ∧ (bt aO w = true → w < c) ∧ (bt eS w = true → bt aS w = true) ∧ (bt eO w = true → bt aO w = true))
  ∧ (∀ v w, v < c → w < c → (bt aS v = true → (z_Nd m v w || z_Wn m v w) = true → z_bl m 1 w = false → bt aS w = true) ∧ (bt aS v = true → z_Op m c v w = true → z_bl m 2 w = false → bt aO w = true) ∧ (bt aO v = true → z_Fo m c v w = true → z_bl m 2 w = false → bt aO w = true))
  ∧ ∀ Q1 Q2 : Nat → Prop, (∀ w, w < c → (bt eS w = true → Q1 w) ∧ (bt eO w = true → Q2 w)) →
      (∀ v w, v < c → w < c → (Q1 v → (z_Nd m v w || z_Wn m v w) = true → z_bl m 1 w = false → Q1 w) ∧ (Q1 v → z_Op m c v w = true → z_bl m 2 w = false → Q2 w) ∧ (Q2 v → z_Fo m c v w = true → z_bl m 2 w = false → Q2 w)) →
      ∀ w, w < c → (bt aS w = true → Q1 w) ∧ (bt aO w = true → Q2 w)
section ZC7
variable {k c u T n : Nat} {m m' m'' : ux_M} {eS eR eO aS aO : Int32}
theorem z_q1o {v X w : Nat} {b : Bool} (h : z_q1 m c v b X w = true) : w < c ∧ ((z_Nd m v w = true ∧ z_bl m 1 w = false ∧ (X = 0 ∨ (X = 3 ∧ b = true))) ∨ (z_Wn m v w = true ∧ z_bl m 1 w = false ∧ X = 0) ∨ (z_Op m c v w = true ∧ z_bl m 2 w = false ∧ (X = 2 ∨ (X = 4 ∧ b = true)))) := by
  unfold z_q1 z_ad at h
  simp at h
  obtain ⟨h1, h2⟩ := h
  refine ⟨h1, ?_⟩
  rcases h2 with (⟨⟨a, b'⟩, d⟩ | ⟨⟨a, b'⟩, d⟩) | ⟨⟨a, b'⟩, d⟩
  · exact .inl ⟨a, b', d⟩
  · exact .inr (.inl ⟨a, b', d⟩)
  · exact .inr (.inr ⟨a, b', d⟩)
theorem z_q2o {v X w : Nat} {b : Bool} (h : z_q2 m c v b X w = true) : w < c ∧ z_Fo m c v w = true ∧ z_bl m 2 w = false ∧ (X = 2 ∨ (X = 4 ∧ b = true)) := by
  unfold z_q2 z_ad at h
  simp at h
  obtain ⟨⟨⟨h1, h2⟩, h3⟩, h4⟩ := h
  exact ⟨h1, h2, h3, h4⟩
theorem z_q3o {v X w : Nat} (h : z_q3 m c v X w = true) : w < c ∧ (z_Fo m c v w && z_Ac m c w) = true ∧ z_bl m 3 w = false ∧ (X = 0 ∨ X = 1 ∨ X = 3) := by
  unfold z_q3 z_ad at h
  simp at h
  obtain ⟨⟨⟨h1, h2⟩, h3⟩, h4⟩ := h
  exact ⟨h1, by simpa using h2, h3, by rcases h4 with (q | q) | q <;> simp [q]⟩
/-- what is closed at the end of a build -/
theorem z_bd.cl (h : z_bd c T u m m') {v w : Nat} (hv : v < c) (hw : w < c) (hc : c ≤ 16) :
    (z_V m' 0 v = true → (z_Nd m v w || z_Wn m v w) = true → z_bl m 1 w = false → z_V m' 0 w = true) ∧ (z_V m' 0 v = true → z_Op m c v w = true → z_bl m 2 w = false → z_V m' 2 w = true)
    ∧ (z_V m' 2 v = true → z_Fo m c v w = true → z_bl m 2 w = false → z_V m' 2 w = true)
    ∧ (z_V m' 3 v = true → z_Nd m v w = true → z_bl m 1 w = false → z_V m' 3 w = true) ∧ (z_V m' 3 v = true → z_Op m c v w = true → z_bl m 2 w = false → z_V m' 4 w = true)
    ∧ (z_V m' 4 v = true → z_Fo m c v w = true → z_bl m 2 w = false → z_V m' 4 w = true)
    ∧ (z_V m' 1 v = true → (z_Fo m c v w && z_Ac m c w) = true → z_bl m 3 w = false → z_V m' 1 w = true) := by
  obtain ⟨h1, h2, h3, h4, h5, h6, h7⟩ := h
  have v32 : v < 32 := by omega
  obtain ⟨t1, t2, t3, t4, t5⟩ := h3 v v32
  -- a start or a restart pulls what a start pulls
  have st : ∀ X, z_V m' 0 v = true → ∀ b, (b = true → z_V m' 3 v = true) → z_q1 m c v b X w = true → z_V m' X w = true := fun X hV b hb hq => by
    have hq' : ∀ b', (b = true → b' = true) → z_q1 m c v b' X w = true := fun b' hh => by
      obtain ⟨_, d⟩ := z_q1o hq
      unfold z_q1 z_ad
      simp only [hw, decide_true, Bool.true_and]
      rcases d with ⟨a, b1, d⟩ | ⟨a, b1, d⟩ | ⟨a, b1, d⟩
      · rcases d with d | ⟨d, e⟩
        · subst d; simp [a, b1]
        · subst d; simp [a, b1, hh e]
      · subst d; simp [a, b1]
      · rcases d with d | ⟨d, e⟩
        · subst d; simp [a, b1]
        · subst d; simp [a, b1, hh e]
    by_cases j3 : z_j m' 3 v = true
    · have r := (h6 v 3 hv (by omega) j3).1 X w
      unfold z_rq at r
      rw [if_neg (by decide), if_neg (by decide)] at r
      exact r (by rw [hq' _ (fun _ => t2.trans j3)]; rfl)
    · have j3' : z_j m' 3 v = false := by simpa using j3
      have j1 : z_j m' 1 v = true := by simpa [z_V, j3'] using hV
      have r := (h6 v 1 hv (by omega) j1).1 X w
      unfold z_rq at r
      rw [if_neg (by decide), if_pos rfl] at r
      refine r (hq' _ (fun e => ?_))
      have := hb e
      simpa [z_V, t2, j3'] using this
  have so : ∀ X, z_V m' 2 v = true → ∀ b, (b = true → z_V m' 4 v = true) → z_q2 m c v b X w = true → z_V m' X w = true := fun X hV b hb hq => by
    have r := (h6 v 2 hv (by omega) hV).1 X w
    unfold z_rq at r
    rw [if_pos rfl] at r
    refine r ?_
    obtain ⟨_, a, b1, d⟩ := z_q2o hq
    unfold z_q2 z_ad
    rcases d with d | ⟨d, e⟩
    · subst d; simp [a, b1, hw]
    · have e4 : z_e m' 2 v = true := hb e
      subst d; simp [a, b1, hw, e4]
  have v30 : z_V m' 3 v = true → z_V m' 0 v = true := fun q => by
    simp only [z_V, Bool.or_eq_true] at q ⊢
    rcases q with q | q
    · exact .inl (t3 q)
    · exact .inr (t2.symm.trans q)
  have v42 : z_V m' 4 v = true → z_V m' 2 v = true := t4
  refine ⟨fun a b d => ?_, fun a b d => ?_, fun a b d => ?_, fun a b d => ?_, fun a b d => ?_, fun a b d => ?_, fun a b d => ?_⟩
  · refine st 0 a false (fun z => absurd z (by decide)) ?_
    rw [Bool.or_eq_true] at b
    unfold z_q1 z_ad
    rcases b with b | b <;> simp [hw, b, d]
  · exact st 2 a false (fun z => absurd z (by decide)) (by unfold z_q1 z_ad; simp [hw, b, d])
  · exact so 2 a false (fun z => absurd z (by decide)) (by unfold z_q2 z_ad; simp [hw, b, d])
  · exact st 3 (v30 a) true (fun _ => a) (by unfold z_q1 z_ad; simp [hw, b, d])
  · exact st 4 (v30 a) true (fun _ => a) (by unfold z_q1 z_ad; simp [hw, b, d])
  · exact so 4 (v42 a) true (fun _ => a) (by unfold z_q2 z_ad; simp [hw, b, d])
  · have r := (h6 v 3 hv (by omega) a).1 1 w
    unfold z_rq at r
    rw [if_neg (by decide), if_neg (by decide)] at r
    refine r ?_
    have : z_q3 m c v 1 w = true := by
      unfold z_q3 z_ad
      rw [b]; simp [hw, d]
    rw [this, Bool.or_true]
/-- the reference's essential sets -/
theorem z_bd.ess (h : z_bd c T u m m') (hE : z_Ec m c u T eS eR eO) (hT : T = 1 ∨ T = 2 ∨ T = 3) (hu : u < c) (hc : c ≤ 16) (bS : ∀ w, w < c → bt eS w = true → z_bl m 1 w = false ∧ z_bl m 3 w = false) (bO : ∀ w, w < c → bt eO w = true → z_bl m 2 w = false) :
    z_ht m' = 0 ∧ ∀ w, w < 32 → z_V m' 1 w = bt eR w ∧ z_V m' 3 w = bt eS w ∧ z_V m' 4 w = bt eO w ∧ (z_V m' 0 w = true → w < c ∧ (bt eS w = true ∨ z_bl m 1 w = false)) ∧ (z_V m' 2 w = true → w < c ∧ (bt eO w = true ∨ z_bl m 2 w = false)) := by
  obtain ⟨e1, e2, e3, e4, e5, e6⟩ := hE
  have cl := fun {v w : Nat} (hv : v < c) (hw : w < c) => h.cl hv hw hc
  obtain ⟨h1, h2, h3, h4, h5, h6, h7⟩ := h
  have P : z_cd m c (fun X w => w < c ∧ (X = 0 → bt eS w = true ∨ z_bl m 1 w = false) ∧ (X = 1 → bt eR w = true) ∧ (X = 2 → bt eO w = true ∨ z_bl m 2 w = false) ∧ (X = 3 → bt eS w = true) ∧ (X = 4 → bt eO w = true)) := by
    refine ⟨fun w p => ⟨p.1, by omega, by omega, by omega, fun _ => ((e1 w (by omega)).2.1 (p.2.2.1 rfl)).2, by omega⟩, fun w p => ⟨p.1, fun _ => .inl (p.2.2.2.2.1 rfl), by omega, by omega, by omega, by omega⟩, fun w p => ⟨p.1, by omega, by omega, fun _ => .inl (p.2.2.2.2.2 rfl), by omega, by omega⟩, fun v hv X w => ⟨fun p q => ?_, fun p q => ?_, fun p q => ?_, fun p q => ?_, fun p q => ?_⟩⟩
    · obtain ⟨q0, q⟩ := z_q1o q
      rcases q with ⟨a, b, d⟩ | ⟨a, b, d⟩ | ⟨a, b, d⟩
      · rcases d with d | ⟨_, d⟩
        · exact ⟨q0, fun _ => .inr b, by omega, by omega, by omega, by omega⟩
        · cases d
      · exact ⟨q0, fun _ => .inr b, by omega, by omega, by omega, by omega⟩
      · rcases d with d | ⟨_, d⟩
        · exact ⟨q0, by omega, by omega, fun _ => .inr b, by omega, by omega⟩
        · cases d
    · have pv := p.2.2.2.2.1 rfl
      obtain ⟨q0, q⟩ := z_q1o q
      have cc := e5 v w hv q0
      rcases q with ⟨a, b, d⟩ | ⟨a, b, d⟩ | ⟨a, b, d⟩
      · exact ⟨q0, fun _ => .inr b, by omega, by omega, fun _ => cc.1 pv a, by omega⟩
      · exact ⟨q0, fun _ => .inr b, by omega, by omega, by omega, by omega⟩
      · exact ⟨q0, by omega, by omega, fun _ => .inr b, by omega, fun _ => cc.2.1 pv a⟩
    · obtain ⟨q0, a, b, d⟩ := z_q2o q
      rcases d with d | ⟨_, d⟩
      · exact ⟨q0, by omega, by omega, fun _ => .inr b, by omega, by omega⟩
      · cases d
    · have pv := p.2.2.2.2.2 rfl
      obtain ⟨q0, a, b, d⟩ := z_q2o q
      have cc := e5 v w hv q0
      exact ⟨q0, by omega, by omega, fun _ => .inr b, by omega, fun _ => cc.2.2.2 pv a⟩
    · have pv := p.2.2.1 rfl
      obtain ⟨q0, a, b, d⟩ := z_q3o q
      have cc := (e5 v w hv q0).2.2.1 pv a
      have cs := ((e1 w (by omega)).2.1 cc).2
      exact ⟨q0, fun _ => .inl cs, fun _ => cc, by omega, fun _ => cs, by omega⟩
  obtain ⟨s1, s2⟩ := h7 _ P (fun hb X hX => by
    unfold z_ad at hX
    refine ⟨hu, fun q => ?_, fun q => ?_, fun q => ?_, fun q => ?_, fun q => ?_⟩
    · subst q
      rcases hT with t | t | t
      · exact .inl (e2 t)
      · subst t; simp at hX
      · exact .inl ((e1 u (by omega)).2.1 (e4 t)).2
    · subst q
      rcases hT with t | t | t
      · subst t; simp at hX
      · subst t; simp at hX
      · exact e4 t
    · subst q
      rcases hT with t | t | t
      · subst t; simp at hX
      · exact .inl (e3 t)
      · subst t; simp at hX
    · subst q
      rcases hT with t | t | t
      · exact e2 t
      · subst t; simp at hX
      · exact ((e1 u (by omega)).2.1 (e4 t)).2
    · subst q
      rcases hT with t | t | t
      · subst t; simp at hX
      · exact e3 t
      · subst t; simp at hX)
  have msk : ∀ w, w < c → bt eS w = true → ¬ z_Y m 31 w = 1 := fun w hw q y => by
    have := (bS w hw q).1
    unfold z_bl at this; simp [y] at this
  have ht : z_ht m' = 0 := by
    apply Classical.byContradiction
    intro y
    rcases s2 y with z | ⟨v, hv, z⟩
    · obtain ⟨_, z2, _, z4⟩ := z
      refine msk u hu ?_ z4
      rcases hT with t | t | t
      · exact e2 t
      · exact absurd t z2
      · exact ((e1 u (by omega)).2.1 (e4 t)).2
    · rcases z with ⟨p, w, w1, _, w3, _, w5⟩ | ⟨p, w, w1, w2, _, w5⟩
      · exact msk w w1 ((e5 v w hv w1).1 (p.2.2.2.2.1 rfl) w3) w5
      · exact msk w w1 ((e1 w (by omega)).2.1 ((e5 v w hv w1).2.2.1 (p.2.2.1 rfl) w2)).2 w5
  have low := e6 (fun w => bt eS w = true ∧ z_V m' 3 w = true) (fun w => bt eR w = true ∧ z_V m' 1 w = true) (fun w => bt eO w = true ∧ z_V m' 4 w = true)
    ⟨fun t => ⟨e2 t, h4 (by subst t; exact (bS u hu (e2 rfl)).1) 3 (by subst t; decide)⟩, fun t => ⟨e3 t, h4 (by subst t; exact bO u hu (e3 rfl)) 4 (by subst t; decide)⟩, fun t => ⟨e4 t, h4 (by subst t; exact (bS u hu ((e1 u (by omega)).2.1 (e4 rfl)).2).2) 1 (by subst t; decide)⟩⟩
    (fun w hw p => ⟨((e1 w (by omega)).2.1 p.1).2, by
      have t := (h3 w (by omega)).2.1
      have p2 := p.2
      simp only [z_V] at p2 ⊢
      rw [t, p2, Bool.or_true]⟩)
    (fun v w hv hw => ⟨fun p q => ⟨(e5 v w hv hw).1 p.1 q, (cl hv hw).2.2.2.1 p.2 q (bS w hw ((e5 v w hv hw).1 p.1 q)).1⟩, fun p q => ⟨(e5 v w hv hw).2.1 p.1 q, (cl hv hw).2.2.2.2.1 p.2 q (bO w hw ((e5 v w hv hw).2.1 p.1 q))⟩,
      fun p q => ⟨(e5 v w hv hw).2.2.1 p.1 q, (cl hv hw).2.2.2.2.2.2 p.2 q (bS w hw ((e1 w (by omega)).2.1 ((e5 v w hv hw).2.2.1 p.1 q)).2).2⟩, fun p q => ⟨(e5 v w hv hw).2.2.2 p.1 q, (cl hv hw).2.2.2.2.2.1 p.2 q (bO w hw ((e5 v w hv hw).2.2.2 p.1 q))⟩⟩)
  have bi : ∀ {a b : Bool}, (a = true → b = true) → (b = true → a = true) → a = b := fun {a b} p q => by
    cases a
    · cases b
      · rfl
      · exact absurd (q rfl) (by decide)
    · exact (p rfl).symm
  refine ⟨ht, fun w hw => ⟨bi (fun q => (s1 1 w hw q).2.2.1 rfl) (fun q => ((low w ((e1 w hw).2.1 q).1).2.1 q).2), bi (fun q => (s1 3 w hw q).2.2.2.2.1 rfl) (fun q => ((low w ((e1 w hw).1 q)).1 q).2), bi (fun q => (s1 4 w hw q).2.2.2.2.2 rfl) (fun q => ((low w ((e1 w hw).2.2 q)).2.2 q).2), fun q => ⟨(s1 0 w hw q).1, (s1 0 w hw q).2.1 rfl⟩, fun q => ⟨(s1 2 w hw q).1, (s1 2 w hw q).2.2.2.1 rfl⟩⟩⟩
end ZC7
