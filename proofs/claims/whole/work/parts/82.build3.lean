/-! THE REFERENCE'S TRANSACTION: BUILDS, loops -/
section ZB9
variable {k c u T n : Nat} {m m' m'' : ux_M} {R R' : Nat → Nat → Bool} {H H' : Prop} {D D' : Nat → Nat → Prop}
/-- a unit's jobs -/
theorem z_l71 (hu : u < c) (hc : c ≤ 16) (kp : Int32 → ux_M → Prop) (km : Int32 → ux_M → ux_M) : ∀ (n f T : Nat) (m : ux_M), T + n = 4 → 1 ≤ T → n < f → m 5 844257 0 1 = nI c → z_tv m →
    ∃ m', z_pq c (fun v T' => v = u ∧ T ≤ T' ∧ T' < 4) m m' ∧ (kp (nI (u + 1)) m' → p_198_71 kp f (nI u) (nI T) m) ∧ m_198_71 km f (nI u) (nI T) m = km (nI (u + 1)) m' := by
  have u32 : u < 32 := by omega
  intro n
  induction n with
  | zero =>
    intro f T m hT h1 hf hm hv
    obtain ⟨f, rfl⟩ : ∃ g, f = g + 1 := ⟨f - 1, by omega⟩
    have hlt : (3 : Int32) < nI T := (z_lt (a := 3) (by omega) (by omega)).mpr (by omega)
    rw [p_198_71, m_198_71, if_pos hlt, z_nx]
    exact ⟨m, z_pq.no hv (fun v T' q => by omega), fun q => ⟨fun _ => q, fun y => absurd hlt y⟩, rfl⟩
  | succ n ih =>
    intro f T m hT h1 hf hm hv
    obtain ⟨f, rfl⟩ : ∃ g, f = g + 1 := ⟨f - 1, by omega⟩
    have hlt : ¬ (3 : Int32) < nI T := fun q => by have := (z_lt (a := 3) (by omega) (by omega)).mp q; omega
    have k4 : vp_in (nI T) 4 := z_k4 (by omega)
    have eT : (nI T).toNatClampNeg = T := z_cl (by omega)
    have ej : bt (m 5 950305 0 T) u = z_j m T u := rfl
    rw [p_198_71, m_198_71, if_neg hlt]
    simp only [eT, z_shr1 _ u32, ej, z_nx]
    cases hj : z_j m T u
    · obtain ⟨m', r1, r2, r3⟩ := ih f (T + 1) m (by omega) (by omega) (by omega) hm hv
      rw [if_neg (by decide)]
      refine ⟨m', ?_, fun q => ⟨fun y => absurd y hlt, fun _ => ⟨k4, fun _ => r2 q, fun y => absurd y (by decide)⟩⟩, r3⟩
      have := z_pq.cp hv (fun v T' q => by omega) (z_pq.no (c := c) (D := fun v T' => v = u ∧ T' = T) hv (fun v T' q => by obtain ⟨q1, q2⟩ := q; subst q1; subst q2; exact hj)) r1
      have e : (fun v T' => (v = u ∧ T' = T) ∨ (v = u ∧ T + 1 ≤ T' ∧ T' < 4)) = (fun v T' => v = u ∧ T ≤ T' ∧ T' < 4) := by
        funext v T'; apply propext; constructor
        · rintro (q | q) <;> omega
        · rintro q; omega
      rw [e] at this; exact this
    · have T3 : T = 1 ∨ T = 2 ∨ T = 3 := by omega
      obtain ⟨s0, s1⟩ := z_b200 T3 hc (show u < 16 by omega) hm hv (fun q => by subst q; rw [(hv u u32).2.1]; exact hj)
      have o := z_pq.one T3 hu hc hv hj s1
      obtain ⟨m', r1, r2, r3⟩ := ih f (T + 1) _ (by omega) (by omega) (by omega) ((s1.fr.row 1).trans hm) s1.tv
      rw [if_pos rfl]
      refine ⟨m', ?_, fun q => ⟨fun y => absurd y hlt, fun _ => ⟨k4, fun y => absurd rfl y, fun _ => ⟨s0, r2 q⟩⟩⟩, r3⟩
      have := z_pq.cp hv (fun v T' q => by omega) o r1
      have e : (fun v T' => (v = u ∧ T' = T) ∨ (v = u ∧ T + 1 ≤ T' ∧ T' < 4)) = (fun v T' => v = u ∧ T ≤ T' ∧ T' < 4) := by
        funext v T'; apply propext; constructor
        · rintro (q | q) <;> omega
        · rintro q; omega
      rw [e] at this; exact this
/-- a pass -/
theorem z_l58 (hc : c ≤ 16) (kp : ux_M → Prop) (km : ux_M → ux_M) : ∀ (n f u : Nat) (m : ux_M), u + n = c → n < f → m 5 844257 0 1 = nI c → z_tv m →
    ∃ m', z_pq c (fun v T => u ≤ v ∧ v < c ∧ 1 ≤ T ∧ T < 4) m m' ∧ (kp m' → p_198_58 kp f (nI u) m) ∧ m_198_58 km f (nI u) m = km m' := by
  intro n
  induction n with
  | zero =>
    intro f u m hu hf hm hv
    obtain ⟨f, rfl⟩ : ∃ g, f = g + 1 := ⟨f - 1, by omega⟩
    have hle := z_yle (show c ≤ u by omega) (by omega)
    rw [p_198_58, m_198_58, z_c1, hm, if_pos hle]
    exact ⟨m, z_pq.no hv (fun v T q => by omega), fun q => ⟨z_v1, fun _ => q, fun y => absurd hle y⟩, rfl⟩
  | succ n ih =>
    intro f u m hu hf hm hv
    obtain ⟨f, rfl⟩ : ∃ g, f = g + 1 := ⟨f - 1, by omega⟩
    have huc : u < c := by omega
    have hle := z_nle huc hc
    rw [p_198_58, m_198_58, z_c1, hm, if_neg hle]
    obtain ⟨m1, r1, r2, r3⟩ := z_l71 huc hc (fun a0 a1 => p_198_58 kp f a0 a1) (fun a0 a1 => m_198_58 km f a0 a1) 3 ux_fuel 1 m (by omega) (by omega) (by have := z_fuel; omega) hm hv
    obtain ⟨m2, s1, s2, s3⟩ := ih f (u + 1) m1 (by omega) (by omega) ((r1.1.row 1).trans hm) r1.2.2.1
    rw [z_n1] at r2 r3
    refine ⟨m2, ?_, fun q => ⟨z_v1, fun y => absurd y hle, fun _ => r2 (s2 q)⟩, r3.trans s3⟩
    have := z_pq.cp hv (fun v T' q => by omega) r1 s1
    have e : (fun v T' => (v = u ∧ 1 ≤ T' ∧ T' < 4) ∨ (u + 1 ≤ v ∧ v < c ∧ 1 ≤ T' ∧ T' < 4)) = (fun v T' => u ≤ v ∧ v < c ∧ 1 ≤ T' ∧ T' < 4) := by
      funext v T'; apply propext; constructor
      · rintro (q | q) <;> omega
      · rintro q; omega
    rw [e] at this; exact this
/-- only the flag of changes is set -/
theorem z_fl (m : ux_M) (x : Int32) : z_fM m (ux_set m 5 819253 0 18 x) ∧ (∀ X, ux_set m 5 819253 0 18 x 5 983073 0 X = m 5 983073 0 X) ∧ z_ht (ux_set m 5 819253 0 18 x) = z_ht m ∧ z_ch (ux_set m 5 819253 0 18 x) = x
    ∧ (∀ T w, z_j (ux_set m 5 819253 0 18 x) T w = z_j m T w ∧ z_e (ux_set m 5 819253 0 18 x) T w = z_e m T w) ∧ (∀ X w, z_V (ux_set m 5 819253 0 18 x) X w = z_V m X w) := by
  have rj : ∀ X w, z_j (ux_set m 5 819253 0 18 x) X w = z_j m X w := fun X w => by unfold z_j; rw [z_so (by decide)]
  have re : ∀ X w, z_e (ux_set m 5 819253 0 18 x) X w = z_e m X w := fun X w => by unfold z_e; rw [z_so (by decide)]
  refine ⟨z_fM.rf.st _ _ _ (by omega), fun X => z_so (by decide), by unfold z_ht; rw [z_si (by decide)], by unfold z_ch; rw [z_ss], fun T w => ⟨rj T w, re T w⟩, fun X w => ?_⟩
  match X with
  | 0 => simp only [z_V]; rw [rj, rj]
  | 1 => simp only [z_V]; rw [rj]
  | 2 => simp only [z_V]; rw [rj]
  | 3 => simp only [z_V]; rw [re, re]
  | 4 => simp only [z_V]; rw [re]
  | n + 5 => rfl
theorem z_l44 (hc : c ≤ 16) : ∀ (d f : Nat) (m : ux_M), 80 ≤ z_mu m + d → d + 2 ≤ f → m 5 844257 0 1 = nI c → z_tv m → ¬ z_ch m = 0 → p_198_44 f m ∧ z_bu c m (m_198_44 f m) := by
  intro d
  induction d with
  | zero =>
    intro f m hd hf hm hv hch
    obtain ⟨f, rfl⟩ : ∃ g, f = g + 2 := ⟨f - 2, by omega⟩
    have e18 : m 5 819253 0 18 = z_ch m := rfl
    obtain ⟨f1, f2, f3, f4, f5, f6⟩ := z_fl m 0
    have tv2 : z_tv (ux_set m 5 819253 0 18 0) := fun w hw => by rw [(f5 1 w).1, (f5 2 w).1, (f5 3 w).1, (f5 1 w).2, (f5 2 w).2, (f5 3 w).2]; exact hv w hw
    obtain ⟨m3, r1, r2, r3⟩ := z_l58 hc (fun a0 => p_198_44 (f + 1) a0) (fun a0 => m_198_44 (f + 1) a0) c ux_fuel 0 _ (by omega) (by have := z_fuel; omega) ((f1.row 1).trans hm) tv2
    obtain ⟨q1, q2, q3, q4, q5, q6, q7, q8⟩ := r1
    rw [p_198_44, m_198_44, e18, if_neg hch]
    simp only [forall_eq]
    have c3 : z_ch m3 = 0 := by
      rw [q6]
      refine ⟨f4, Classical.byContradiction (fun y => ?_)⟩
      have := z_mu.grow q3 q4 y
      have e : z_mu (ux_set m 5 819253 0 18 0) = z_mu m := by unfold z_mu; rw [show z_V (ux_set m 5 819253 0 18 0) = z_V m from by funext X w; exact f6 X w]
      have := z_mu.le m3
      omega
    have p44 : p_198_44 (f + 1) m3 := by rw [p_198_44]; exact ⟨fun _ => trivial, fun y => absurd c3 y⟩
    have m44 : m_198_44 (f + 1) m3 = m3 := by rw [m_198_44]; exact if_pos c3
    have r3' : m_198_58 (fun a0 => m_198_44 (f + 1) a0) ux_fuel 0 (ux_set m 5 819253 0 18 0) = m3 := r3.trans m44
    rw [r3']
    refine ⟨⟨fun y => absurd y hch, fun _ => r2 p44⟩, f1.tr q1, fun X => (q2 X).trans (f2 X), q3, fun X w hw y => q4 X w hw ((f6 X w).trans y), fun y => f3.symm.trans (q5 y), fun v T hv1 hT hj => ?_, fun P hP1 hP2 => ?_⟩
    · have v32 : v < 32 := by omega
      obtain ⟨s1, s2⟩ := tv2.sj q3 v32 (fun X => (q6.mp c3).2 X v v32) hT
      obtain ⟨t1, t2⟩ := q7 c3 v T ⟨Nat.zero_le _, hv1, by omega, by omega⟩ (s1.symm.trans hj)
      rw [s2]
      exact ⟨fun X w y => by rw [q1.rq q2] at y; exact (Classical.em (w < 32)).elim (fun w32 => q4 X w w32 (t1 X w y)) (fun _ => by
        have t := t1 X w y
        match X, t with
        | 0, t => simp only [z_V, z_j] at t; rw [b_big (by omega), b_big (by omega)] at t; cases t
        | 1, t => simp only [z_V, z_j] at t; rw [b_big (by omega)] at t; cases t
        | 2, t => simp only [z_V, z_j] at t; rw [b_big (by omega)] at t; cases t
        | 3, t => simp only [z_V, z_e] at t; rw [b_big (by omega), b_big (by omega)] at t; cases t
        | 4, t => simp only [z_V, z_e] at t; rw [b_big (by omega)] at t; cases t
        | n + 5, t => cases t), fun y z => t2 y ((q1.rh q2 v T _).mp z)⟩
    · obtain ⟨t1, t2⟩ := q8 P (f1.cd f2 hP1) (fun X w hw y => hP2 X w hw ((f6 X w).symm.trans y))
      exact ⟨t1, fun y => (t2 y).imp (fun z => by rw [f3] at z; exact z) (f1.hP f2).mp⟩
  | succ d ih =>
    intro f m hd hf hm hv hch
    obtain ⟨f, rfl⟩ : ∃ g, f = g + 2 := ⟨f - 2, by omega⟩
    have e18 : m 5 819253 0 18 = z_ch m := rfl
    obtain ⟨f1, f2, f3, f4, f5, f6⟩ := z_fl m 0
    have tv2 : z_tv (ux_set m 5 819253 0 18 0) := fun w hw => by rw [(f5 1 w).1, (f5 2 w).1, (f5 3 w).1, (f5 1 w).2, (f5 2 w).2, (f5 3 w).2]; exact hv w hw
    obtain ⟨m3, r1, r2, r3⟩ := z_l58 hc (fun a0 => p_198_44 (f + 1) a0) (fun a0 => m_198_44 (f + 1) a0) c ux_fuel 0 _ (by omega) (by have := z_fuel; omega) ((f1.row 1).trans hm) tv2
    obtain ⟨q1, q2, q3, q4, q5, q6, q7, q8⟩ := r1
    rw [p_198_44, m_198_44, e18, if_neg hch]
    simp only [forall_eq]
    by_cases c3 : z_ch m3 = 0
    · have p44 : p_198_44 (f + 1) m3 := by rw [p_198_44]; exact ⟨fun _ => trivial, fun y => absurd c3 y⟩
      have m44 : m_198_44 (f + 1) m3 = m3 := by rw [m_198_44]; exact if_pos c3
      have r3' : m_198_58 (fun a0 => m_198_44 (f + 1) a0) ux_fuel 0 (ux_set m 5 819253 0 18 0) = m3 := r3.trans m44
      rw [r3']
      refine ⟨⟨fun y => absurd y hch, fun _ => r2 p44⟩, f1.tr q1, fun X => (q2 X).trans (f2 X), q3, fun X w hw y => q4 X w hw ((f6 X w).trans y), fun y => f3.symm.trans (q5 y), fun v T hv1 hT hj => ?_, fun P hP1 hP2 => ?_⟩
      · have v32 : v < 32 := by omega
        obtain ⟨s1, s2⟩ := tv2.sj q3 v32 (fun X => (q6.mp c3).2 X v v32) hT
        obtain ⟨t1, t2⟩ := q7 c3 v T ⟨Nat.zero_le _, hv1, by omega, by omega⟩ (s1.symm.trans hj)
        rw [s2]
        exact ⟨fun X w y => by rw [q1.rq q2] at y; exact (Classical.em (w < 32)).elim (fun w32 => q4 X w w32 (t1 X w y)) (fun _ => by
          have t := t1 X w y
          match X, t with
          | 0, t => simp only [z_V, z_j] at t; rw [b_big (by omega), b_big (by omega)] at t; cases t
          | 1, t => simp only [z_V, z_j] at t; rw [b_big (by omega)] at t; cases t
          | 2, t => simp only [z_V, z_j] at t; rw [b_big (by omega)] at t; cases t
          | 3, t => simp only [z_V, z_e] at t; rw [b_big (by omega), b_big (by omega)] at t; cases t
          | 4, t => simp only [z_V, z_e] at t; rw [b_big (by omega)] at t; cases t
          | n + 5, t => cases t), fun y z => t2 y ((q1.rh q2 v T _).mp z)⟩
      · obtain ⟨t1, t2⟩ := q8 P (f1.cd f2 hP1) (fun X w hw y => hP2 X w hw ((f6 X w).symm.trans y))
        exact ⟨t1, fun y => (t2 y).imp (fun z => by rw [f3] at z; exact z) (f1.hP f2).mp⟩
    · have gr := z_mu.grow q3 q4 (fun y => c3 (q6.mpr ⟨f4, y⟩))
      have e : z_mu (ux_set m 5 819253 0 18 0) = z_mu m := by unfold z_mu; rw [show z_V (ux_set m 5 819253 0 18 0) = z_V m from by funext X w; exact f6 X w]
      obtain ⟨i0, i1, i2, i3, i4, i5, i6, i7⟩ := ih (f + 1) m3 (by omega) (by omega) (((f1.tr q1).row 1).trans hm) q3 c3
      have r3' : m_198_58 (fun a0 => m_198_44 (f + 1) a0) ux_fuel 0 (ux_set m 5 819253 0 18 0) = m_198_44 (f + 1) m3 := r3
      rw [r3']
      refine ⟨⟨fun y => absurd y hch, fun _ => r2 i0⟩, (f1.tr q1).tr i1, fun X => (i2 X).trans ((q2 X).trans (f2 X)), i3, fun X w hw y => i4 X w hw (q4 X w hw ((f6 X w).trans y)), fun y => f3.symm.trans (q5 (i5 y)), i6, fun P hP1 hP2 => ?_⟩
      obtain ⟨t1, t2⟩ := q8 P (f1.cd f2 hP1) (fun X w hw y => hP2 X w hw ((f6 X w).symm.trans y))
      obtain ⟨g1, g2⟩ := i7 P (q1.cd q2 (f1.cd f2 hP1)) t1
      refine ⟨g1, fun y => ?_⟩
      rcases g2 y with z | z
      · exact (t2 z).imp (fun z => by rw [f3] at z; exact z) (f1.hP f2).mp
      · exact .inr ((f1.hP f2).mp ((q1.hP q2).mp z))
end ZB9
