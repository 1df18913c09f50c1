/-! THE CLASS'S TRANSACTION: restarts are starts -/
section ZC8
variable {k c u T n : Nat} {m m' : ux_M} {M : ux_M} {eS eR eO aS aO : Int32}
theorem z_g66_r (N O F : Nat → Int32) (al : Int32) (i : Nat) (g : Nat → Int32) (h : z_sub (g 1) (g 0)) : z_sub (z_g66 N O F al i g 1) (z_g66 N O F al i g 0) := by
  have r : ∀ (x y : Int32), z_sub y (x ||| y) := fun x y v _ q => by rw [b_or, q, Bool.or_true]
  have s1 : ∀ g1 : Nat → Int32, z_sub (g1 1) (g1 0) → z_sub ((if bt (g1 2) i = true then z_up g1 2 (g1 2 ||| F i) else g1) 1) ((if bt (g1 2) i = true then z_up g1 2 (g1 2 ||| F i) else g1) 0) := fun g1 h1 => by
    split
    · rw [z_upn (by decide), z_upn (by decide)]; exact h1
    · exact h1
  have s2 : ∀ g1 : Nat → Int32, z_sub (g1 1) (g1 0) → z_sub ((if bt (g1 1) i = true then z_up (z_up g1 1 (g1 1 ||| (F i &&& al))) 0 (g1 0 ||| (g1 1 ||| (F i &&& al))) else g1) 1) ((if bt (g1 1) i = true then z_up (z_up g1 1 (g1 1 ||| (F i &&& al))) 0 (g1 0 ||| (g1 1 ||| (F i &&& al))) else g1) 0) := fun g1 h1 => by
    split
    · rw [z_upn (by decide), z_upe, z_upe]; exact r _ _
    · exact h1
  have s3 : z_sub ((if bt (g 0) i = true then z_up (z_up g 0 (g 0 ||| N i)) 2 (g 2 ||| O i) else g) 1) ((if bt (g 0) i = true then z_up (z_up g 0 (g 0 ||| N i)) 2 (g 2 ||| O i) else g) 0) := by
    split
    · rw [z_upn (by decide), z_upn (by decide), z_upn (by decide), z_upe]; exact h.tr z_sub.l
    · exact h
  unfold z_g66
  exact s1 _ (s2 _ s3)
theorem z_s66_r (N O F : Nat → Int32) (al : Int32) : ∀ (n i : Nat) (g : Nat → Int32), z_sub (g 1) (g 0) → z_sub (z_g66s N O F al n i g 1) (z_g66s N O F al n i g 0)
  | 0, _, _, h => h
  | n + 1, i, g, h => by rw [z_g66s]; exact z_s66_r N O F al n (i + 1) _ (z_g66_r N O F al i g h)
theorem z_wt3_i {g g' : Nat → Int32} (h : z_wt3 M k g = z_wt3 M k g') : g = g' := by
  funext i
  have := congrArg (fun x : ux_M => x k 32805 0 i) h
  simp only [z_wt3_g] at this
  exact this
theorem z_51r (M : ux_M) (k : Nat) (al : Int32) : ∀ (f : Nat) (x : Int32) (g : Nat → Int32), z_sub (g 1) (g 0) → ∃ G, m_66_51 f k al x (z_wt3 M k g) = z_wt3 M k G ∧ z_sub (G 1) (G 0)
  | 0, x, g, h => ⟨g, by rw [m_66_51], h⟩
  | f + 1, x, g, h => by
    rw [m_66_51]
    by_cases q : (48 : Int32) < x
    · rw [if_pos q]
      simp only [z_wt3_g, z_wt3_set]
      exact ⟨_, rfl, by rw [z_upn (by decide), z_upn (by decide), z_upn (by decide), z_upn (by decide)]; exact h⟩
    · rw [if_neg q]
      simp only [z_wt3_g]
      have hs := z_s66_r (M k 491649 0) (M k 508033 0) (M k 524417 0) al 16 0 g h
      have l := (z_66l M k (fun _ _ _ _ => True) (fun a0 a1 a2 a3 => m_66_51 f a0 a1 a2 a3) al x (g 0) (g 1) (g 2) 16 ux_fuel 0 g _ (by omega) (by have := z_fuel; omega) rfl).2
      have l' : m_66_79 (fun a0 a1 a2 a3 => m_66_51 f a0 a1 a2 a3) ux_fuel k al x (g 0) (g 1) (g 2) 0 (z_wt3 M k g) = _ := l
      rw [l']
      split
      · exact ⟨_, rfl, by rw [z_upn (by decide), z_upn (by decide), z_upn (by decide), z_upn (by decide)]; exact hs⟩
      · exact z_51r M k al f (x + 1) _ hs
theorem z_66r (M : ux_M) (k : Nat) (al : Int32) (j : Int32) (hj : j = 1 ∨ j = 2 ∨ j = 3) {G : Nat → Int32} (h : m_66 k (nI u) j al M = z_wt3 M k G) : z_sub (G 1) (G 0) := by
  have key : ∀ z0 z1 z2 : Int32, z_sub z1 z0 → m_66_51 ux_fuel k al (0 : Int32) (ux_set (ux_set (ux_set M k 32805 0 0 z0) k 32805 0 1 z1) k 32805 0 2 z2) = z_wt3 M k G → z_sub (G 1) (G 0) := fun z0 z1 z2 hs e => by
    have e0 : ux_set (ux_set (ux_set M k 32805 0 0 z0) k 32805 0 1 z1) k 32805 0 2 z2 = z_wt3 M k (z_up (z_up (z_up (M k 32805 0) 0 z0) 1 z1) 2 z2) := by
      rw [← z_wt3_set, ← z_wt3_set, ← z_wt3_set, z_wt3_self]
    rw [e0] at e
    obtain ⟨G', a, b⟩ := z_51r M k al ux_fuel 0 (z_up (z_up (z_up (M k 32805 0) 0 z0) 1 z1) 2 z2) (by
      rw [z_upn (by decide), z_upe, z_upn (by decide), z_upn (by decide), z_upe]; exact hs)
    have := z_wt3_i (a.symm.trans e)
    rw [← this]; exact b
  have z0 : ∀ x : Int32, z_sub 0 x := fun x v _ q => by rw [b_0] at q; cases q
  rcases hj with rfl | rfl | rfl
  · refine key ((1 : Int32) <<< (nI u &&& 31)) 0 0 (z0 _) ?_
    rw [← h]; simp only [m_66, m_66_13, m_66_29, zn_12, zn_13, if_false]
  · refine key 0 0 ((1 : Int32) <<< (nI u &&& 31)) (z0 _) ?_
    rw [← h]; simp only [m_66, m_66_13, m_66_29, zn_23, if_true, if_false]
  · refine key ((1 : Int32) <<< (nI u &&& 31)) ((1 : Int32) <<< (nI u &&& 31)) 0 z_sub.rf ?_
    rw [← h]; simp only [m_66, m_66_13, m_66_29, zn_32, if_true, if_false]
/-- all jobs, on both sides -/
theorem z_bd.all (h : z_bd c T u m m') (hE : z_Ec m c u T eS eR eO) (hA : z_Al m c eS eO aS aO) (hT : T = 1 ∨ T = 2 ∨ T = 3) (hu : u < c) (hc : c ≤ 16) (hV : ∀ w, w < 32 → z_V m' 3 w = bt eS w ∧ z_V m' 4 w = bt eO w) :
    ∀ w, w < 32 → z_V m' 0 w = bt aS w ∧ z_V m' 2 w = bt aO w := by
  obtain ⟨e1, e2, e3, e4, e5, e6⟩ := hE
  obtain ⟨a1, a2, a3⟩ := hA
  have cl := fun {v w : Nat} (hv : v < c) (hw : w < c) => h.cl hv hw hc
  obtain ⟨h1, h2, h3, h4, h5, h6, h7⟩ := h
  have P : z_cd m c (fun X w => w < c ∧ (X = 0 → bt aS w = true) ∧ (X = 1 → bt eR w = true) ∧ (X = 2 → bt aO w = true) ∧ (X = 3 → bt eS w = true) ∧ (X = 4 → bt eO w = true)) := by
    refine ⟨fun w p => ⟨p.1, by omega, by omega, by omega, fun _ => ((e1 w (by omega)).2.1 (p.2.2.1 rfl)).2, by omega⟩, fun w p => ⟨p.1, fun _ => (a1 w (by omega)).2.2.1 (p.2.2.2.2.1 rfl), by omega, by omega, by omega, by omega⟩, fun w p => ⟨p.1, by omega, by omega, fun _ => (a1 w (by omega)).2.2.2 (p.2.2.2.2.2 rfl), by omega, by omega⟩, fun v hv X w => ⟨fun p q => ?_, fun p q => ?_, fun p q => ?_, fun p q => ?_, fun p q => ?_⟩⟩
    · have pv := p.2.1 rfl
      obtain ⟨q0, q⟩ := z_q1o q
      have cc := a2 v w hv q0
      rcases q with ⟨a, b, d⟩ | ⟨a, b, d⟩ | ⟨a, b, d⟩
      · rcases d with d | ⟨_, d⟩
        · exact ⟨q0, fun _ => cc.1 pv (by rw [a]; rfl) b, by omega, by omega, by omega, by omega⟩
        · cases d
      · exact ⟨q0, fun _ => cc.1 pv (by rw [a, Bool.or_true]) b, by omega, by omega, by omega, by omega⟩
      · rcases d with d | ⟨_, d⟩
        · exact ⟨q0, by omega, by omega, fun _ => cc.2.1 pv a b, by omega, by omega⟩
        · cases d
    · have pv := p.2.2.2.2.1 rfl
      have pa := (a1 v (by omega)).2.2.1 pv
      obtain ⟨q0, q⟩ := z_q1o q
      have cc := a2 v w hv q0
      have ce := e5 v w hv q0
      rcases q with ⟨a, b, d⟩ | ⟨a, b, d⟩ | ⟨a, b, d⟩
      · exact ⟨q0, fun _ => cc.1 pa (by rw [a]; rfl) b, by omega, by omega, fun _ => ce.1 pv a, by omega⟩
      · exact ⟨q0, fun _ => cc.1 pa (by rw [a, Bool.or_true]) b, by omega, by omega, by omega, by omega⟩
      · exact ⟨q0, by omega, by omega, fun _ => cc.2.1 pa a b, by omega, fun _ => ce.2.1 pv a⟩
    · have pv := p.2.2.2.1 rfl
      obtain ⟨q0, a, b, d⟩ := z_q2o q
      rcases d with d | ⟨_, d⟩
      · exact ⟨q0, by omega, by omega, fun _ => (a2 v w hv q0).2.2 pv a b, by omega, by omega⟩
      · cases d
    · have pv := p.2.2.2.2.2 rfl
      obtain ⟨q0, a, b, d⟩ := z_q2o q
      exact ⟨q0, by omega, by omega, fun _ => (a2 v w hv q0).2.2 ((a1 v (by omega)).2.2.2 pv) a b, by omega, fun _ => (e5 v w hv q0).2.2.2 pv a⟩
    · have pv := p.2.2.1 rfl
      obtain ⟨q0, a, b, d⟩ := z_q3o q
      have cc := (e5 v w hv q0).2.2.1 pv a
      have cs := ((e1 w (by omega)).2.1 cc).2
      exact ⟨q0, fun _ => (a1 w (by omega)).2.2.1 cs, fun _ => cc, by omega, fun _ => cs, by omega⟩
  have us : T = 1 ∨ T = 3 → bt eS u = true := fun t => t.elim e2 (fun t => ((e1 u (by omega)).2.1 (e4 t)).2)
  obtain ⟨s1, _⟩ := h7 _ P (fun hb X hX => by
    unfold z_ad at hX
    refine ⟨hu, fun q => ?_, fun q => ?_, fun q => ?_, fun q => ?_, fun q => ?_⟩
    · subst q
      rcases hT with t | t | t
      · exact (a1 u (by omega)).2.2.1 (us (.inl t))
      · subst t; simp at hX
      · exact (a1 u (by omega)).2.2.1 (us (.inr t))
    · subst q
      rcases hT with t | t | t
      · subst t; simp at hX
      · subst t; simp at hX
      · exact e4 t
    · subst q
      rcases hT with t | t | t
      · subst t; simp at hX
      · exact (a1 u (by omega)).2.2.2 (e3 t)
      · subst t; simp at hX
    · subst q
      rcases hT with t | t | t
      · exact us (.inl t)
      · subst t; simp at hX
      · exact us (.inr t)
    · subst q
      rcases hT with t | t | t
      · subst t; simp at hX
      · exact e3 t
      · subst t; simp at hX)
  have low := a3 (fun w => z_V m' 0 w = true) (fun w => z_V m' 2 w = true) (fun w hw => ⟨fun q => by
      have v3 := (hV w (by omega)).1.trans q
      obtain ⟨t1, t2, t3, t4, t5⟩ := h3 w (by omega)
      simp only [z_V, Bool.or_eq_true] at v3 ⊢
      rcases v3 with v3 | v3
      · exact .inl (t3 v3)
      · exact .inr (t2.symm.trans v3), fun q => (h3 w (by omega)).2.2.2.1 ((hV w (by omega)).2.trans q)⟩)
    (fun v w hv hw => ⟨(cl hv hw).1, (cl hv hw).2.1, (cl hv hw).2.2.1⟩)
  have bi : ∀ {a b : Bool}, (a = true → b = true) → (b = true → a = true) → a = b := fun {a b} p q => by
    cases a
    · cases b
      · rfl
      · exact absurd (q rfl) (by decide)
    · exact (p rfl).symm
  exact fun w hw => ⟨bi (fun q => (s1 0 w hw q).2.1 rfl) (fun q => (low w ((a1 w hw).1 q)).1 q), bi (fun q => (s1 2 w hw q).2.2.2.1 rfl) (fun q => (low w ((a1 w hw).2.1 q)).2 q)⟩
end ZC8
