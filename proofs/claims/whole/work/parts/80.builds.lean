/-! THE REFERENCE'S TRANSACTION: a pass over all jobs -/
/-- closed under all that is pulled -/
def z_cd (m : ux_M) (c : Nat) (P : Nat → Nat → Prop) : Prop := (∀ w, P 1 w → P 3 w) ∧ (∀ w, P 3 w → P 0 w) ∧ (∀ w, P 4 w → P 2 w) ∧ ∀ v, v < c → ∀ X w,
  (P 0 v → z_q1 m c v false X w = true → P X w) ∧ (P 3 v → z_q1 m c v true X w = true → P X w) ∧ (P 2 v → z_q2 m c v false X w = true → P X w) ∧ (P 4 v → z_q2 m c v true X w = true → P X w) ∧ (P 1 v → z_q3 m c v X w = true → P X w)
/-- a masked unit is hit -/
def z_hP (m : ux_M) (c : Nat) (P : Nat → Nat → Prop) : Prop := ∃ v, v < c ∧ ((P 3 v ∧ z_h1 m c v true) ∨ (P 1 v ∧ z_h3 m c v))
/-- the jobs D have been visited -/
def z_pq (c : Nat) (D : Nat → Nat → Prop) (m m' : ux_M) : Prop := z_fM m m' ∧ (∀ X, m' 5 983073 0 X = m 5 983073 0 X) ∧ z_tv m' ∧ (∀ X w, w < 32 → z_V m X w = true → z_V m' X w = true) ∧ (z_ht m' = 0 → z_ht m = 0)
  ∧ (z_ch m' = 0 ↔ z_ch m = 0 ∧ ∀ X w, w < 32 → z_V m' X w = z_V m X w)
  ∧ (z_ch m' = 0 → ∀ v T, D v T → z_j m T v = true → (∀ X w, z_rq m c v T (z_e m T v) X w = true → z_V m X w = true) ∧ (z_ht m' = 0 → ¬ z_rh m c v T (z_e m T v)))
  ∧ ∀ P : Nat → Nat → Prop, z_cd m c P → (∀ X w, w < 32 → z_V m X w = true → P X w) → (∀ X w, w < 32 → z_V m' X w = true → P X w) ∧ (¬ z_ht m' = 0 → ¬ z_ht m = 0 ∨ z_hP m c P)
section ZB7
variable {k c u T n : Nat} {m m' m'' : ux_M} {R R' : Nat → Nat → Bool} {H H' : Prop} {D D' : Nat → Nat → Prop}
/-- the words out of the sets -/
theorem z_tv.jV (h : z_tv m) {w : Nat} (hw : w < 32) : z_j m 1 w = (z_V m 0 w && !z_V m 1 w) ∧ z_j m 2 w = z_V m 2 w ∧ z_j m 3 w = z_V m 1 w ∧ z_e m 1 w = (z_V m 3 w && !z_V m 1 w) ∧ z_e m 2 w = z_V m 4 w ∧ z_e m 3 w = z_V m 1 w := by
  obtain ⟨h1, h2, h3, h4, h5⟩ := h w hw
  simp only [z_V]
  refine ⟨?_, trivial, trivial, ?_, trivial, h2⟩
  · cases e1 : z_j m 1 w <;> cases e3 : z_j m 3 w <;> simp [e1, e3] at h1 ⊢
  · rw [h2]
    cases e1 : z_e m 1 w
    · cases e3 : z_j m 3 w <;> rfl
    · have := h3 e1
      cases e3 : z_j m 3 w
      · rfl
      · rw [this, e3] at h1; cases h1
theorem z_tv.sj (h : z_tv m) (h' : z_tv m') {w : Nat} (hw : w < 32) (e : ∀ X, z_V m' X w = z_V m X w) (hT : T = 1 ∨ T = 2 ∨ T = 3) : z_j m' T w = z_j m T w ∧ z_e m' T w = z_e m T w := by
  obtain ⟨a1, a2, a3, a4, a5, a6⟩ := h.jV hw
  obtain ⟨b1, b2, b3, b4, b5, b6⟩ := h'.jV hw
  rcases hT with rfl | rfl | rfl
  · rw [a1, b1, a4, b4, e, e, e]; exact ⟨rfl, rfl⟩
  · rw [a2, b2, a5, b5, e, e]; exact ⟨rfl, rfl⟩
  · rw [a3, b3, a6, b6, e]; exact ⟨rfl, rfl⟩
theorem z_fM.q1 (h : z_fM m m') (hb : ∀ X, m' 5 983073 0 X = m 5 983073 0 X) (v : Nat) (b : Bool) (X w : Nat) : z_q1 m' c v b X w = z_q1 m c v b X w := by
  unfold z_q1; rw [h.nd, h.wn, h.op, h.bl hb, h.bl hb]
theorem z_fM.q2 (h : z_fM m m') (hb : ∀ X, m' 5 983073 0 X = m 5 983073 0 X) (v : Nat) (b : Bool) (X w : Nat) : z_q2 m' c v b X w = z_q2 m c v b X w := by
  unfold z_q2; rw [h.fo, h.bl hb]
theorem z_fM.q3 (h : z_fM m m') (hb : ∀ X, m' 5 983073 0 X = m 5 983073 0 X) (v : Nat) (X w : Nat) : z_q3 m' c v X w = z_q3 m c v X w := by
  unfold z_q3; rw [h.fo, h.ac, h.bl hb]
theorem z_fM.rq (h : z_fM m m') (hb : ∀ X, m' 5 983073 0 X = m 5 983073 0 X) (v T : Nat) (b : Bool) (X w : Nat) : z_rq m' c v T b X w = z_rq m c v T b X w := by
  unfold z_rq; rw [h.q1 hb, h.q2 hb, h.q3 hb]
theorem z_fM.h1 (h : z_fM m m') (hb : ∀ X, m' 5 983073 0 X = m 5 983073 0 X) (v : Nat) (b : Bool) : z_h1 m' c v b ↔ z_h1 m c v b := by
  unfold z_h1 z_bw; simp only [h.nd, h.Y, hb]
theorem z_fM.h3 (h : z_fM m m') (hb : ∀ X, m' 5 983073 0 X = m 5 983073 0 X) (v : Nat) : z_h3 m' c v ↔ z_h3 m c v := by
  unfold z_h3 z_bw; simp only [h.fo, h.ac, h.Y, hb]
theorem z_fM.rh (h : z_fM m m') (hb : ∀ X, m' 5 983073 0 X = m 5 983073 0 X) (v T : Nat) (b : Bool) : z_rh m' c v T b ↔ z_rh m c v T b := by
  unfold z_rh; rw [h.h1 hb, h.h3 hb]
theorem z_fM.cd (h : z_fM m m') (hb : ∀ X, m' 5 983073 0 X = m 5 983073 0 X) {P : Nat → Nat → Prop} (q : z_cd m c P) : z_cd m' c P := by
  obtain ⟨a, b, d, e⟩ := q
  refine ⟨a, b, d, fun v hv X w => ?_⟩
  rw [h.q1 hb, h.q1 hb, h.q2 hb, h.q2 hb, h.q3 hb]; exact e v hv X w
theorem z_fM.hP (h : z_fM m m') (hb : ∀ X, m' 5 983073 0 X = m 5 983073 0 X) {P : Nat → Nat → Prop} : z_hP m' c P ↔ z_hP m c P := by
  unfold z_hP; simp only [h.h1 hb, h.h3 hb]
theorem z_pq.no (hv : z_tv m) (hD : ∀ v T, D v T → z_j m T v = false) : z_pq c D m m := ⟨z_fM.rf, fun _ => rfl, hv, fun _ _ _ h => h, fun h => h, ⟨fun h => ⟨h, fun _ _ _ => rfl⟩, fun h => h.1⟩, fun _ v T d j => absurd ((hD v T d).symm.trans j) (by decide), fun P _ hP => ⟨hP, fun h => .inl h⟩⟩
theorem z_pq.cp (hv : z_tv m) (hT : ∀ v T, D' v T → v < 16 ∧ (T = 1 ∨ T = 2 ∨ T = 3)) (h : z_pq c D m m') (h' : z_pq c D' m' m'') : z_pq c (fun v T => D v T ∨ D' v T) m m'' := by
  obtain ⟨a1, a2, a3, a4, a5, a6, a7, a8⟩ := h
  obtain ⟨b1, b2, b3, b4, b5, b6, b7, b8⟩ := h'
  refine ⟨a1.tr b1, fun X => (b2 X).trans (a2 X), b3, fun X w hw q => b4 X w hw (a4 X w hw q), fun q => a5 (b5 q), ?_, fun q v T d j => ?_, fun P hc hP => ?_⟩
  · rw [b6, a6]
    constructor
    · rintro ⟨⟨x, y⟩, z⟩; exact ⟨x, fun X w hw => (z X w hw).trans (y X w hw)⟩
    · rintro ⟨x, y⟩
      have e : ∀ X w, w < 32 → z_V m' X w = z_V m X w := fun X w hw => by
        cases e1 : z_V m X w
        · cases e2 : z_V m' X w
          · rfl
          · have := b4 X w hw e2; rw [y X w hw, e1] at this; cases this
        · exact a4 X w hw e1
      exact ⟨⟨x, e⟩, fun X w hw => (y X w hw).trans (e X w hw).symm⟩
  · have q1 := (b6.mp q).1
    have e := (a6.mp q1).2
    rcases d with d | d
    · have r := a7 q1 v T d j
      exact ⟨r.1, fun z => r.2 (b5 z)⟩
    · obtain ⟨d1, d2⟩ := hT v T d
      obtain ⟨s1, s2⟩ := hv.sj a3 (show v < 32 by omega) (fun X => e X v (by omega)) d2
      have r := b7 q v T d (s1.trans j)
      rw [s2] at r
      refine ⟨fun X w g => ?_, fun z y => r.2 z ((a1.rh a2 v T _).mpr y)⟩
      have g' := g
      rw [← a1.rq a2] at g
      have := r.1 X w g
      have w16 : w < 32 := by
        have hh : ∀ (w : Nat), z_rq m c v T (z_e m T v) X w = true → w < c := fun w g => by
          unfold z_rq at g
          split at g
          · unfold z_q2 at g; simp only [Bool.and_eq_true, decide_eq_true_eq] at g; exact g.1.1.1
          · split at g
            · unfold z_q1 at g; simp only [Bool.and_eq_true, decide_eq_true_eq] at g; exact g.1
            · rw [Bool.or_eq_true] at g
              rcases g with g | g
              · unfold z_q1 at g; simp only [Bool.and_eq_true, decide_eq_true_eq] at g; exact g.1
              · unfold z_q3 at g; simp only [Bool.and_eq_true, decide_eq_true_eq] at g; exact g.1.1.1
        by_cases y : w < 32
        · exact y
        · exfalso
          have v3 : z_V m' X w = false := by
            match X with
            | 0 => simp only [z_V, z_j]; rw [b_big (by omega), b_big (by omega)]; rfl
            | 1 => simp only [z_V, z_j]; rw [b_big (by omega)]
            | 2 => simp only [z_V, z_j]; rw [b_big (by omega)]
            | 3 => simp only [z_V, z_e]; rw [b_big (by omega), b_big (by omega)]; rfl
            | 4 => simp only [z_V, z_e]; rw [b_big (by omega)]
            | n + 5 => rfl
          rw [v3] at this; cases this
      rw [e X w w16] at this; exact this
  · obtain ⟨s1, s2⟩ := a8 P hc hP
    obtain ⟨t1, t2⟩ := b8 P (a1.cd a2 hc) s1
    refine ⟨t1, fun z => ?_⟩
    rcases t2 z with y | y
    · exact s2 y
    · exact .inr ((a1.hP a2).mp y)
/-- one job -/
theorem z_pq.one (hT : T = 1 ∨ T = 2 ∨ T = 3) (hu : u < c) (hc : c ≤ 16) (hv : z_tv m) (hj : z_j m T u = true) (h : z_dG m m' (z_rq m c u T (z_e m T u)) (z_rh m c u T (z_e m T u))) : z_pq c (fun v T' => v = u ∧ T' = T) m m' := by
  have u32 : u < 32 := by omega
  obtain ⟨v1, v2, v3, v4, v5⟩ := hv u u32
  refine ⟨h.fr, h.bs, h.tv, fun X w hw q => by rw [h.vv X w hw, q]; rfl, fun q => (h.ht.mp q).1, ?_, fun q v T' d j => ?_, fun P hcd hP => ⟨fun X w hw q => ?_, fun q => ?_⟩⟩
  · rw [h.ch]
    constructor
    · rintro ⟨a, b⟩
      refine ⟨a, fun X w hw => ?_⟩
      rw [h.vv X w hw]
      cases e : z_rq m c u T (z_e m T u) X w
      · rw [Bool.or_false]
      · rw [b X w e]; rfl
    · rintro ⟨a, b⟩
      refine ⟨a, fun X w q => ?_⟩
      have w16 := h.rr X w q
      have := b X w (by omega)
      rw [h.vv X w (by omega), q, Bool.or_true] at this
      exact this.symm
  · obtain ⟨d1, d2⟩ := d
    subst d1; subst d2
    exact ⟨(h.ch.mp q).2, fun z => (h.ht.mp z).2⟩
  · rw [h.vv X w hw] at q
    cases e : z_V m X w
    · rw [e, Bool.false_or] at q
      obtain ⟨k1, k2, k3, k4⟩ := hcd
      obtain ⟨l1, l2, l3, l4, l5⟩ := k4 u hu X w
      unfold z_rq at q
      rcases hT with g | g | g
      · subst g
        rw [if_neg (by decide), if_pos rfl] at q
        cases b : z_e m 1 u
        · rw [b] at q; exact l1 (hP 0 u u32 (by simp only [z_V]; rw [hj]; rfl)) q
        · rw [b] at q; exact l2 (hP 3 u u32 (by simp only [z_V]; rw [b]; rfl)) q
      · subst g
        rw [if_pos rfl] at q
        cases b : z_e m 2 u
        · rw [b] at q; exact l3 (hP 2 u u32 hj) q
        · rw [b] at q; exact l4 (hP 4 u u32 b) q
      · subst g
        rw [if_neg (by decide), if_neg (by decide)] at q
        have p1 : P 1 u := hP 1 u u32 hj
        rw [v2, hj] at q
        rw [Bool.or_eq_true] at q
        rcases q with q | q
        · exact l2 (k1 u p1) q
        · exact l5 p1 q
    · exact hP X w hw e
  · by_cases y : z_ht m = 0
    · refine .inr ?_
      have hh : z_rh m c u T (z_e m T u) := Classical.byContradiction (fun z => q (h.ht.mpr ⟨y, z⟩))
      unfold z_rh at hh
      rcases hT with g | g | g
      · subst g
        rw [if_neg (by decide), if_pos rfl] at hh
        obtain ⟨w, h1, h2, h3⟩ := hh
        exact ⟨u, hu, .inl ⟨hP 3 u u32 (by simp only [z_V]; rw [h2]; rfl), w, h1, rfl, h3⟩⟩
      · subst g; rw [if_pos rfl] at hh; exact hh.elim
      · subst g
        rw [if_neg (by decide), if_neg (by decide)] at hh
        have p1 : P 1 u := hP 1 u u32 hj
        rw [v2, hj] at hh
        rcases hh with hh | hh
        · exact ⟨u, hu, .inl ⟨hcd.1 u p1, hh⟩⟩
        · exact ⟨u, hu, .inr ⟨p1, hh⟩⟩
    · exact .inl y
end ZB7
