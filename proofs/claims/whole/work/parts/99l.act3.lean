/-! THE CALLS THAT ACT: reset, cancel, advance -/
section ZX4
variable {k c t B B' b u n s x : Nat} {M M' M1 M2 C m m' : ux_M} {y z v w j : Int32} {f : Nat → Int32}
/-- a unit's begins are forgotten -/
theorem z_W.rz (h : z_W k c t B M m) (hu : u < c) : z_W k c t B (ux_set M k 147585 0 u 0) (z_P (z_P m 38 u 0) 45 u 0) := by
  obtain ⟨hH, hC, hD, hJ, hL, hT⟩ := h
  have hX : ∀ s r i, ¬ s = 147585 → ux_set M k 147585 0 u 0 k s r i = M k s r i := fun s r i hn => z_so hn
  have hYr : ∀ b w', b < 56 → z_Y (z_P (z_P m 38 u 0) 45 u 0) b w' = if b = 45 ∧ w' = u then 0 else if b = 38 ∧ w' = u then 0 else z_Y m b w' := fun b w' hb => by
    rw [z_YP _ _ _ _ (by omega) hb, z_YP _ _ _ _ (by omega) hb]
  have hY : ∀ b w', b < 56 → ¬ b = 38 → ¬ b = 45 → z_Y (z_P (z_P m 38 u 0) 45 u 0) b w' = z_Y m b w' := fun b w' hb h1 h2 => by
    rw [hYr b w' hb, if_neg (fun z => h2 z.1), if_neg (fun z => h1 z.1)]
  have hI : ∀ i, i < 188 → z_P (z_P m 38 u 0) 45 u 0 5 844257 0 i = m 5 844257 0 i := fun i hi => (z_Yc _ 45 u 0 (.inr (.inr hi))).trans (z_Yc m 38 u 0 (.inr (.inr hi)))
  refine ⟨?_, hC.cong (fun s r i q _ => hX s r i (by omega)) (fun b w' hb => hY b w' (by omega) (by omega) (by omega)), fun q hq' w' hw' => ?_, ?_, ?_, ?_⟩
  · unfold z_H; rw [hX _ _ _ (by omega), hX _ _ _ (by omega), hI _ (by omega), hI _ (by omega)]; exact hH
  · have g := z_tf (a := q.1) (s := q.2) hq'
    have e38 : (q.2 = 147585 ↔ q.1 = 38) := z_ti (a := 38) (s := 147585) (List.mem_of_getElem? (i := 5) rfl) hq'
    have n45 : ¬ q.1 = 45 := by omega
    rw [hYr _ _ (by omega), if_neg (fun z => n45 z.1), z_set, hD q hq' w' hw']
    by_cases y : q.1 = 38 ∧ w' = u
    · rw [if_pos y, if_pos ⟨rfl, e38.mpr y.1, rfl, y.2⟩]
    · rw [if_neg y, if_neg (fun z => y ⟨e38.mp z.2.1, z.2.2.2⟩)]
  · have e : z_Y (z_P (z_P m 38 u 0) 45 u 0) 29 = z_Y m 29 := funext (fun w => hY _ _ (by omega) (by omega) (by omega))
    have e2 : z_Y (z_P (z_P m 38 u 0) 45 u 0) 30 = z_Y m 30 := funext (fun w => hY _ _ (by omega) (by omega) (by omega))
    have e3 : z_Y (z_P (z_P m 38 u 0) 45 u 0) 31 = z_Y m 31 := funext (fun w => hY _ _ (by omega) (by omega) (by omega))
    unfold z_J; rw [e, e2, e3, hX 49197 _ _ (by omega), hX 49197 _ _ (by omega), hX 49197 _ _ (by omega), hX 49197 _ _ (by omega), hX 16413 _ _ (by omega)]; exact hJ
  · have e : ux_set M k 147585 0 u 0 k 263585 0 = M k 263585 0 := funext (fun i => hX _ _ _ (by omega))
    have e2 : z_LF (M k 16413 0 18) (m 5 844257 0 2) (M k 263585 0) (fun i => z_P (z_P m 38 u 0) 45 u 0 5 844257 0 (8 + i)) := by
      obtain ⟨L, h1, h2, h3, h4⟩ := hL
      exact ⟨L, h1, h2, h3, fun i hi p hp => (hI _ (by omega)).trans (h4 i hi p hp)⟩
    unfold z_L; rw [e, hI _ (by omega), hX _ _ _ (by omega)]; exact e2
  · intro w' hw'
    obtain ⟨n, h1, h2, h3, h4⟩ := hT w' hw'
    by_cases q : w' = u
    · refine ⟨0, Nat.zero_le _, ?_, ?_, fun i hi => absurd hi (by omega)⟩
      · rw [hYr _ _ (by omega), if_neg (by omega), if_pos ⟨rfl, q⟩]; rfl
      · rw [hYr _ _ (by omega), if_pos ⟨rfl, q⟩]; rfl
    · refine ⟨n, h1, ?_, ?_, fun i hi => ?_⟩
      · rw [hYr _ _ (by omega), if_neg (fun z => q z.2), if_neg (fun z => q z.2)]; exact h2
      · rw [hYr _ _ (by omega), if_neg (fun z => q z.2), if_neg (fun z => q z.2)]; exact h3
      · have e1 : z_Y (z_P (z_P m 38 u 0) 45 u 0) (46 + i) w' = z_Y m (46 + i) w' := hY _ _ (by omega) (by omega) (by omega)
        exact e1.trans ((h4 i hi).trans (hX _ _ _ (by omega)).symm)
theorem z_R.rz (h : z_R x b k c t B M m) (hu : u < c) : z_R x b k c t B (ux_set M k 147585 0 u 0) (z_P (z_P m 38 u 0) 45 u 0) := by
  refine ⟨h.1.rz hu, h.2.keep _ (fun w => z_A2 m 38 45 u w 0 0 (by omega) (by omega)) (fun a ha => ?_) ?_ ?_ ?_⟩
  · obtain ⟨_, _, _, _, _, n6, _, _, _, _, n11, _⟩ := z_crn ha
    rw [z_upn n11, z_upn n6]
  · rw [z_upn (by decide), z_upn (by decide), z_AY _ _ (by omega)]; exact h.2.jb hu
  · rw [z_upn (by decide), z_upn (by decide), z_AY _ _ (by omega)]; exact h.2.rn hu
  · rw [z_upn (by decide), z_upn (by decide), z_upn (by decide), z_upn (by decide), z_AY _ _ (by omega), z_AY _ _ (by omega)]; exact h.2.rj hu
/-- reset -/
theorem z_f_119 (h : z_Q n M) (hn : n ≤ 600) (hx : z_iu M y) : z_op n M (p_119 y) (r_119 y) (m_119 y) (p_272 y) (r_272 y) (m_272 y) := by
  obtain ⟨c, t, B, u, ht, hB, hR, hs, hc, hu, h16, rfl⟩ := h.un hx
  have fa : z_fA 0 M (m_119 (nI u) M) := by
    unfold m_119; exact z_fA.ite (fa_120 _ _ _) ((fa_120 _ _ _).tr (fa_78 _ _))
  have row : ∀ i, z_th (m_119 (nI u) M) 0 5 844257 0 i = M 5 844257 0 i := fun i => (z_thI i).trans (fa 5 844257 0 i (by omega))
  obtain ⟨e1, e2, e3⟩ := z_235i hc ((fa 5 844257 0 1 (by omega)).trans hR.1.cn) hu
  have hR0 : z_R 99 16 0 c t B M (z_th (m_119 (nI u) M) 0) := hR.cg (fun _ _ _ _ => rfl) row
  have hs0 := z_219c hR.1 hR0.1 row hs
  have d28 := hR0.1.d28 hu
  obtain ⟨st, st6, est⟩ := hR0.2.sv hu
  have g : (¬ lg_cmp (z_Y (z_th (m_119 (nI u) M) 0) 28 u).toInt64 (1 : Int32).toInt64 < 0 ∧ ¬ 0 < lg_cmp (z_Y (z_th (m_119 (nI u) M) 0) 28 u).toInt64 (Int64.ofNat 3)) ↔ (1 ≤ st ∧ st ≤ 3) := by
    rw [z_i64g _ 1 3 (L := Int64.ofNat 3) (by decide), est]
    unfold z_rg
    have a1 : nI st < 1 ↔ st < 1 := z_lt (b := 1) (by omega) (by omega)
    have a2 : nI st ≤ 3 ↔ st ≤ 3 := z_le (b := 3) (by omega) (by omega)
    rw [a1, a2]; omega
  have e1s : (nI st = 1) ↔ st = 1 := z_eq (b := 1) (by omega) (by omega)
  have e2s : (nI st = 2) ↔ st = 2 := z_eq (b := 2) (by omega) (by omega)
  have e3s : (nI st = 3) ↔ st = 3 := z_eq (b := 3) (by omega) (by omega)
  have e4s : (nI st = 4) ↔ st = 4 := z_eq (b := 4) (by omega) (by omega)
  by_cases q : 1 ≤ st ∧ st ≤ 3
  · -- not now
    have c120 : r_120 0 (nI u) M = 0 ∧ m_120 0 (nI u) M = M ∧ p_120 0 (nI u) M := by
      unfold r_120 m_120 p_120
      rw [z_cl h16, d28, est]
      simp only [e1s, e2s, e3s]
      have : st = 1 ∨ st = 2 ∨ st = 3 := by omega
      rcases this with e | e | e <;> subst e <;> simp [z_i16 h16]
    have mc : m_119 (nI u) M = M := by unfold m_119; rw [if_pos c120.1, c120.2.1]
    have mr : m_272 (nI u) (m_119 (nI u) M) = z_th (m_119 (nI u) M) 0 := by
      unfold m_272; rw [if_pos e2, e3, of28 _ h16, if_pos (g.mpr q)]
    have k4 : z_R 99 16 0 c t B (m_119 (nI u) M) (m_272 (nI u) (m_119 (nI u) M)) := by rw [mr]; exact mc.symm ▸ hR0
    obtain ⟨d1, d2⟩ := h.act (M2 := m_272 (nI u) (m_119 (nI u) M)) fa (by rw [mr]; exact z_fB.rf) ⟨c, t, B, ht, by omega, k4, by rw [mr]; exact hs0⟩
    refine ⟨?_, ?_, ?_, d1, d2⟩
    · unfold p_119; exact ⟨z_p93 hx, c120.2.2, fun z => absurd c120.1 z, fun _ => trivial⟩
    · unfold p_272; rw [e3, of28 _ h16]; exact ⟨e1, fun z => absurd e2 z, fun _ => ⟨uu28 h16, fun z => absurd (g.mpr q) z, fun _ => trivial⟩⟩
    · unfold r_119 r_272; rw [if_pos c120.1, if_pos e2, e3, of28 _ h16, if_pos (g.mpr q)]
  · -- reset
    have n1 : ¬ st = 1 := by omega
    have n2 : ¬ st = 2 := by omega
    have n3 : ¬ st = 3 := by omega
    have go : ∀ (X mm : ux_M), z_R 99 16 0 c t B X mm → p_120_35 0 (nI u) X ∧ p_78 0 (m_120_35 0 (nI u) X) ∧ p_272_45 (nI u) mm ∧ z_ST 0 (n + 1) (m_78 0 (m_120_35 0 (nI u) X)) (m_272_45 (nI u) mm) := fun X mm hX => by
      have h2 := (hX.w32 hu 0).rz hu
      obtain ⟨j1, j2, j3, j4⟩ := z_R.jobs h2 (by omega)
      unfold p_120_35 m_120_35 p_272_45 m_272_45
      simp only [z_cl h16, pu32 _ _ h16, pu38 _ _ h16, pu45 _ _ h16, forall_eq]
      exact ⟨⟨z_i16 h16, z_i16 h16⟩, j1, ⟨uu32 h16, uu38 h16, uu45 h16, j2⟩, c, t, B + 800, ht, by omega, j3, j4⟩
    have fb45 : ∀ mm, z_fB mm (m_272_45 (nI u) mm) := fun mm => by
      unfold m_272_45; exact (z_fB.pt (z_fB.pt (z_fB.pt z_fB.rf))).tr (fb_218 _)
    by_cases q4 : st = 4
    · obtain ⟨x1, x2, x3, _⟩ := hR0.e1 hu 0 (.inl rfl) (.inl (by omega))
      obtain ⟨g1, g2, g3, g4⟩ := go _ _ x3
      have c120 : r_120 0 (nI u) M = 1 ∧ m_120 0 (nI u) M = m_120_35 0 (nI u) (m_58 0 (nI u) 0 M) ∧ p_120 0 (nI u) M := by
        have e4 : nI st = 4 := e4s.mpr q4
        have n1' : ¬ nI st = 1 := fun z => n1 (e1s.mp z)
        have n2' : ¬ nI st = 2 := fun z => n2 (e2s.mp z)
        have n3' : ¬ nI st = 3 := fun z => n3 (e3s.mp z)
        unfold r_120 m_120 p_120 r_120_35
        rw [z_cl h16, d28, est, if_neg n1', if_neg n2', if_neg n3', ite_self, if_neg n1', if_neg n2', if_neg n3', if_pos e4]
        exact ⟨rfl, rfl, z_i16 h16, fun _ => trivial, fun _ => ⟨fun _ => trivial, fun _ => ⟨fun _ => ⟨fun z => absurd e4 z, fun _ => ⟨x1, g1⟩⟩, fun _ => trivial⟩⟩⟩
      have n0 : ¬ r_120 0 (nI u) M = 0 := by rw [c120.1]; decide
      have mc : m_119 (nI u) M = m_78 0 (m_120_35 0 (nI u) (m_58 0 (nI u) 0 M)) := by unfold m_119; rw [if_neg n0, c120.2.1]
      have mr : m_272 (nI u) (m_119 (nI u) M) = m_272_45 (nI u) (m_190 (nI u) 0 (z_th (m_119 (nI u) M) 0)) := by
        unfold m_272; rw [if_pos e2, e3, of28 _ h16, if_neg (fun z => q (g.mp z)), est, if_pos (e4s.mpr q4)]
      obtain ⟨d1, d2⟩ := h.act (M2 := m_272 (nI u) (m_119 (nI u) M)) fa (by rw [mr]; exact (fr_190 _ _ _).fB.tr (fb45 _)) (by rw [← mc] at g4; rw [mr]; exact g4)
      refine ⟨?_, ?_, ?_, d1, d2⟩
      · unfold p_119; rw [c120.2.1]; exact ⟨z_p93 hx, c120.2.2, fun _ => g2, fun _ => trivial⟩
      · unfold p_272; rw [e3, of28 _ h16]; exact ⟨e1, fun z => absurd e2 z, fun _ => ⟨uu28 h16, fun _ => ⟨uu28 h16, fun z => absurd (by rw [est]; exact e4s.mpr q4) z, fun _ => ⟨x2, g3⟩⟩, fun _ => trivial⟩⟩
      · unfold r_119 r_272 r_272_45; rw [if_neg n0, if_pos e2, e3, of28 _ h16, if_neg (fun z => q (g.mp z)), ite_self]
    · obtain ⟨g1, g2, g3, g4⟩ := go _ _ hR0
      have c120 : r_120 0 (nI u) M = 1 ∧ m_120 0 (nI u) M = m_120_35 0 (nI u) M ∧ p_120 0 (nI u) M := by
        unfold r_120 m_120 p_120 r_120_35
        rw [z_cl h16, d28, est]
        simp only [e1s, e2s, e3s, e4s, n1, n2, n3, q4, if_true, if_false, not_true_eq_false, not_false_eq_true, true_implies, false_implies, and_true, true_and]
        exact ⟨z_i16 h16, g1⟩
      have n0 : ¬ r_120 0 (nI u) M = 0 := by rw [c120.1]; decide
      have mc : m_119 (nI u) M = m_78 0 (m_120_35 0 (nI u) M) := by unfold m_119; rw [if_neg n0, c120.2.1]
      have n4 : ¬ z_Y (z_th (m_119 (nI u) M) 0) 28 u = 4 := by rw [est]; exact fun z => q4 (e4s.mp z)
      have mr : m_272 (nI u) (m_119 (nI u) M) = m_272_45 (nI u) (z_th (m_119 (nI u) M) 0) := by
        unfold m_272; rw [if_pos e2, e3, of28 _ h16, if_neg (fun z => q (g.mp z)), if_neg n4]
      obtain ⟨d1, d2⟩ := h.act (M2 := m_272 (nI u) (m_119 (nI u) M)) fa (by rw [mr]; exact fb45 _) (by rw [← mc] at g4; rw [mr]; exact g4)
      refine ⟨?_, ?_, ?_, d1, d2⟩
      · unfold p_119; rw [c120.2.1]; exact ⟨z_p93 hx, c120.2.2, fun _ => g2, fun _ => trivial⟩
      · unfold p_272; rw [e3, of28 _ h16]; exact ⟨e1, fun z => absurd e2 z, fun _ => ⟨uu28 h16, fun _ => ⟨uu28 h16, fun _ => g3, fun z => absurd z n4⟩, fun _ => trivial⟩⟩
      · unfold r_119 r_272 r_272_45; rw [if_neg n0, if_pos e2, e3, of28 _ h16, if_neg (fun z => q (g.mp z)), ite_self]
theorem z_g_272 (h : z_Q n M) (hx : ¬ z_iu M y) : z_thr n M (p_272 y) (m_272 y) 1 := by
  obtain ⟨e1, e2, e3⟩ := h.o hx
  have e0 : ¬ r_235 y M = 0 := by rw [e2]; decide
  refine .th h ?_ ?_
  · unfold p_272; exact ⟨e1, fun _ => trivial, fun q => absurd q e0⟩
  · unfold m_272; rw [if_neg e0, e3]
/-- the log and a write to a unit -/
theorem z_lgK (g : Nat → Int32) {n K : Nat} (hn : n ≤ 60) (hK : 188 ≤ K) (x s v : Int32) (d : Nat) : z_lg (fun i => if i = K then v else g i) n x s d = if d = K then v else z_lg g n x s d := by
  unfold z_lg
  by_cases hn6 : n < 60
  · rw [if_pos hn6, if_pos hn6]
    by_cases q : d = K
    · have c1 : ¬ d = 2 := by omega
      have c2 : ¬ d = 8 + 3 * n := by omega
      have c3 : ¬ d = 8 + 3 * n + 1 := by omega
      have c4 : ¬ d = 8 + 3 * n + 2 := by omega
      rw [if_neg c1, if_neg c2, if_neg c3, if_neg c4, if_pos q]; exact if_pos q
    · have e0 : ¬ 0 = K := by omega
      simp only [e0, q, if_false]
  · rw [if_neg hn6, if_neg hn6]
    by_cases q : d = K
    · have c1 : ¬ d = 2 := by omega
      have c5 : ¬ d = 185 := by omega
      have c6 : ¬ d = 186 := by omega
      have c7 : ¬ d = 187 := by omega
      have c8 : ¬ (8 ≤ d ∧ d < 185) := by omega
      rw [if_neg c1, if_neg c5, if_neg c6, if_neg c7, if_neg c8, if_pos q]; exact if_pos q
    · have e0 : ¬ 0 = K := by omega
      by_cases y : 8 ≤ d ∧ d < 185
      · have e3 : ¬ d + 3 = K := by omega
        simp only [e0, q, e3, if_false]
      · simp only [e0, q, y, if_false]
theorem z_191P (x s : Int32) {n : Nat} (hn : n ≤ 60) (h2 : m 5 844257 0 2 = nI n) (a u : Nat) (v : Int32) : m_191 x s (z_P m a u v) = z_P (m_191 x s m) a u v := by
  have h2' : z_P m a u v 5 844257 0 2 = nI n := (z_Yc m a u v (.inr (.inr (by omega)))).trans h2
  obtain ⟨_, e1⟩ := z_log x s hn h2
  obtain ⟨_, e2⟩ := z_log x s hn h2'
  have er : z_P m a u v 5 844257 0 = fun i => if i = 188 + 56 * u + a then v else m 5 844257 0 i := funext (fun i => z_Pr m a u v i)
  funext p q r d
  rw [e2 p q r d, er, z_lgK _ hn (by omega)]
  show _ = ux_set (m_191 x s m) 5 844257 0 (188 + 56 * u + a) v p q r d
  rw [z_set, e1 p q r d]
  by_cases g : p = 5 ∧ q = 844257 ∧ r = 0
  · obtain ⟨rfl, rfl, rfl⟩ := g
    simp only [and_self, if_true, true_and]
  · rw [if_neg g, if_neg g, if_neg (fun z => g ⟨z.1, z.2.1, z.2.2.1⟩)]
    exact z_set _ _ _ _ _ _ _ _ _ _ |>.trans (if_neg (fun z => g ⟨z.1, z.2.1, z.2.2.1⟩))
theorem z_enP (m : ux_M) {a : Nat} (u : Nat) (how q : Int32) (ha : a < 56) (h1 : ¬ a = 29) (h2 : ¬ a = 30) (h3 : ¬ a = 41) : z_P (z_en m u how) a u q = z_en (z_P m a u q) u how := by
  unfold z_en
  rw [z_Pcm _ u u how q (by omega) ha (by omega), z_Pcm _ u u 0 q (by omega) ha (by omega), z_Pcm _ u u 0 q (by omega) ha (by omega)]
/-- becoming failed and the end of a job: either first -/
theorem z_190en (h : z_W k c t B M m) (hu : u < c) (hq : z_Y m 28 u = 5) (how : Int32) : m_190 (nI u) 4 (z_en m u how) = z_en (m_190 (nI u) 4 m) u how := by
  have h16 := h.u16 hu
  obtain ⟨L, l1, _, l3⟩ := h.lo
  have q2 : z_Y (z_en m u how) 28 u = 5 := by
    unfold z_en; rw [z_YP _ _ _ _ (by omega) (by omega), if_neg (by omega), z_YP _ _ _ _ (by omega) (by omega), if_neg (by omega), z_YP _ _ _ _ (by omega) (by omega), if_neg (by omega)]; exact hq
  have n0 : ∀ mm : ux_M, ∀ a v, z_P mm a u v 5 844257 0 0 = mm 5 844257 0 0 := fun mm a v => z_Yc mm a u v (.inr (.inr (by omega)))
  have n2 : ∀ mm : ux_M, ∀ a v, z_P mm a u v 5 844257 0 2 = mm 5 844257 0 2 := fun mm a v => z_Yc mm a u v (.inr (.inr (by omega)))
  have en0 : z_en m u how 5 844257 0 0 = m 5 844257 0 0 := by unfold z_en; rw [n0, n0, n0]
  unfold m_190
  simp only [of28 _ h16, hq, q2, pu28 _ _ h16, pu34 _ _ h16, pu35 _ _ h16, z_c0, n0, en0]
  rw [if_neg (by decide), if_neg (by decide), if_neg (by decide), if_neg (by decide)]
  rw [z_enP _ u how _ (by omega) (by omega) (by omega) (by omega), z_enP _ u how _ (by omega) (by omega) (by omega) (by omega), z_enP _ u how _ (by omega) (by omega) (by omega) (by omega)]
  have e2 : (z_P (z_P (z_P m 28 u 4) 34 u (m 5 844257 0 0)) 35 u (-1)) 5 844257 0 2 = nI (min L 60) := by rw [n2, n2, n2]; exact l3
  generalize z_P (z_P (z_P m 28 u 4) 34 u (m 5 844257 0 0)) 35 u (-1) = mm at e2 ⊢
  unfold z_en
  rw [z_191P _ _ (show min L 60 ≤ 60 by omega) (by rw [n2, n2]; exact e2), z_191P _ _ (show min L 60 ≤ 60 by omega) (by rw [n2]; exact e2), z_191P _ _ (show min L 60 ≤ 60 by omega) e2]
/-- withdraw -/
theorem z_R.wdr (h : z_R 99 b k c t B M m) (hu : u < c) (hj : ¬ z_Y m 29 u = 0) :
    p_109 k (nI u) M ∧ (z_Y m 29 u = 1 ∨ z_Y m 29 u = 3 → p_189 (nI u) (z_en m u 4) ∧ p_186 (nI u) (m_189 (nI u) (z_en m u 4)))
    ∧ z_R 99 b k c t B (m_109 k (nI u) M) (if z_Y m 29 u = 1 ∨ z_Y m 29 u = 3 then m_186 (nI u) (m_189 (nI u) (z_en m u 4)) else z_en m u 4) := by
  have h16 := h.1.u16 hu
  have hc := h.1.le
  have ty := h.1.ty h.2 hu
  have d28 := h.1.d28 hu
  have enE : ∀ mm : ux_M, ux_put (ux_put (ux_put mm (nI u) 29 0) (nI u) 30 0) (nI u) 41 4 = z_en mm u 4 := fun mm => by rw [pu29 _ _ h16, pu30 _ _ h16, pu41 _ _ h16]; rfl
  have m214 : ∀ mm : ux_M, m_214 (nI u) mm = if z_Y mm 29 u = 1 ∨ z_Y mm 29 u = 3 then m_186 (nI u) (z_en mm u 4) else z_en mm u 4 := fun mm => by
    unfold m_214 m_182; simp only [of29 _ h16, enE]
  have q28 : z_Y (z_en m u 4) 28 u = z_Y m 28 u := by
    unfold z_en; rw [z_YP _ _ _ _ (by omega) (by omega), if_neg (by omega), z_YP _ _ _ _ (by omega) (by omega), if_neg (by omega), z_YP _ _ _ _ (by omega) (by omega), if_neg (by omega)]
  obtain ⟨c1, c2, c3, _⟩ := h.cj hu
  rw [if_neg hj, m214] at c3
  have hEn := h.end hu 4
  unfold p_109 m_109 p_53 p_54
  rw [ty, z_cl h16, d28]
  by_cases j2 : z_Y m 29 u = 2
  · have n13 : ¬ (z_Y m 29 u = 1 ∨ z_Y m 29 u = 3) := by rw [j2]; decide
    rw [if_neg n13] at c3
    rw [if_pos j2, if_neg n13]
    exact ⟨⟨trivial, fun _ => c1, fun z => absurd j2 z⟩, fun z => absurd z n13, c3⟩
  · have y13 : z_Y m 29 u = 1 ∨ z_Y m 29 u = 3 := by
      rcases h.2.jb hu with e | e | e | e
      · exact absurd e hj
      · exact .inl e
      · exact absurd e j2
      · exact .inr e
    rw [if_pos y13] at c3
    rw [if_neg j2, if_pos y13]
    by_cases s5 : z_Y m 28 u = 5
    · obtain ⟨x1, x2, x3, xA⟩ := h.e1 hu 4 (.inr rfl) (.inl (by omega))
      obtain ⟨_, y2, _, _⟩ := hEn.e1 hu 4 (.inr rfl) (.inl (by omega))
      have j' : z_Y (m_190 (nI u) 4 m) 29 u = z_Y m 29 u := z_entY xA (by omega) (by omega) (by omega) (by omega) (by omega) (by omega) u
      obtain ⟨w1, w2, w3, _⟩ := x3.cj hu
      have hj' : ¬ z_Y (m_190 (nI u) 4 m) 29 u = 0 := by rw [j']; exact hj
      have p214 := w2 hj'
      rw [if_neg hj', m214, j', if_pos y13] at w3
      have m189 : m_189 (nI u) (z_en m u 4) = z_en (m_190 (nI u) 4 m) u 4 := by
        unfold m_189; rw [of28 _ h16, q28, if_pos s5]; exact z_190en h.1 hu s5 4
      rw [if_pos s5, m189]
      refine ⟨⟨trivial, fun z => absurd z j2, fun _ => ⟨z_i16 h16, fun z => absurd s5 z, fun _ => ⟨x1, w1⟩⟩⟩, fun _ => ⟨?_, ?_⟩, w3⟩
      · unfold p_189; rw [of28 _ h16, q28]; exact ⟨uu28 h16, fun z => absurd s5 z, fun _ => y2⟩
      · unfold p_214 p_182 at p214
        simp only [of29 _ h16, j', y13, true_implies, forall_eq, enE] at p214
        exact p214.2.2.2.2.2
    · have m189 : m_189 (nI u) (z_en m u 4) = z_en m u 4 := by unfold m_189; rw [of28 _ h16, q28, if_neg s5]
      have p214 := c2 hj
      rw [if_neg s5, m189]
      refine ⟨⟨trivial, fun z => absurd z j2, fun _ => ⟨z_i16 h16, fun _ => c1, fun z => absurd z s5⟩⟩, fun _ => ⟨?_, ?_⟩, c3⟩
      · unfold p_189; rw [of28 _ h16, q28]; exact ⟨uu28 h16, fun _ => trivial, fun z => absurd z s5⟩
      · unfold p_214 p_182 at p214
        simp only [of29 _ h16, y13, true_implies, forall_eq, enE] at p214
        exact p214.2.2.2.2.2
end ZX4
