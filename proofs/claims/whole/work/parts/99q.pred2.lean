/-! PREDICTIONS: ticksUntilQuiet, ticksUntilActive -/
section ZP2
variable {k c t B B' b u n s x t0 T : Nat} {M M' M1 M2 C X m m' mx m0 m1 : ux_M} {y z v w j : Int32}
theorem z_sbn (h : t0 ≤ t) : nI t - nI t0 = nI (t - t0) := by
  have e : nI t = nI (t - t0) + nI t0 := by rw [z_add, show t - t0 + t0 = t by omega]
  rw [e, Int32.add_sub_cancel]
theorem z_b42 : ∀ s, s < 6 → bt 42 s = (decide (s = 1) || (decide (s = 3) || decide (s = 5))) := by decide
/-- whether all is quiet -/
theorem z_qt (h : z_R 99 b k c t B M m) : p_47 k M ∧ p_287 m ∧ r_47 k M = r_287 m := by
  obtain ⟨a1, a2⟩ := z_257 h
  have e43 : r_43 k 42 M = (r_259 1 m ||| r_259 3 m) ||| r_259 5 m := by
    refine b_ext (fun w hw => ?_)
    rw [z_r43 h.1 h.2 _ hw, b_or, b_or, z_r259 h.1 _ hw, z_r259 h.1 _ hw, z_r259 h.1 _ hw]
    by_cases q : w < c
    · obtain ⟨s, s6, e⟩ := h.2.sv q
      rw [e, z_cl (by omega), z_b42 s s6, show (1 : Int32) = nI 1 from rfl, show (3 : Int32) = nI 3 from rfl, show (5 : Int32) = nI 5 from rfl, z_stb s6 rfl 1 (by omega), z_stb s6 rfl 3 (by omega), z_stb s6 rfl 5 (by omega)]
      simp only [q, decide_true, Bool.true_and, Bool.or_assoc]
    · simp [q]
  have ez : ((M k 49197 0 0) ||| (M k 49197 0 2)) = 0 ↔ r_257 m = 0 := by
    constructor
    · intro q
      rw [q] at a2
      rw [← a2]; decide
    · intro q
      refine z_nz.mpr (fun w hw => ?_)
      cases e : bt ((M k 49197 0 0) ||| (M k 49197 0 2)) w
      · rfl
      · have wc : w < 16 := by
          have hc := h.1.le
          rw [b_or, h.1.js hw, h.1.jt hw] at e
          apply Classical.byContradiction
          intro w16
          have : ¬ w < c := by omega
          simp [this] at e
        have g : z_pop (0 : Int32) 16 < z_pop ((M k 49197 0 0) ||| (M k 49197 0 2)) 16 := z_pop_lt (fun v _ h => by rw [b_0] at h; cases h) (b_0 w) e 16 (by omega) wc
        rw [q, z_bc _ (fun w' h1 h2 => by
          have hc := h.1.le
          rw [b_or, h.1.js h2, h.1.jt h2]
          have : ¬ w' < c := by omega
          simp [this])] at a2
        have l := z_pop.le ((M k 49197 0 0) ||| (M k 49197 0 2)) 16
        have := (z_e0 (by omega)).mp a2
        omega
  unfold p_47 p_287 r_47 r_287
  refine ⟨⟨fun _ => trivial, fun _ => z_p43 h.1 h.2 _⟩, ⟨a1, fun _ => trivial, fun _ => ⟨z_p259 h.1 _, z_p259 h.1 _, z_p259 h.1 _⟩⟩, ?_⟩
  rw [e43]
  by_cases q : r_257 m = 0
  · rw [if_pos q, if_pos (ez.mpr q)]
  · rw [if_neg q, if_neg (fun z => q (ez.mp z))]
theorem z_287n (h : z_R 99 b k c t B M m) (hT : T ≤ 1003000) : p_287 (ux_set m 5 844257 0 0 (nI T)) ∧ r_287 (ux_set m 5 844257 0 0 (nI T)) = r_287 m := by
  have h' := h.1.tim hT
  have hc := h.1.le
  obtain ⟨r1, N, r2, r3⟩ := z_257l h.1 c ux_fuel 0 0 (by omega) (by have := z_fuel; omega) (Nat.le_refl _)
  obtain ⟨s1, N', s2, s3⟩ := z_257l h' c ux_fuel 0 0 (by omega) (by have := z_fuel; omega) (Nat.le_refl _)
  simp only [z_nowY] at s3
  have e257 : r_257 (ux_set m 5 844257 0 0 (nI T)) = r_257 m := by
    have q1 : r_257 m = nI N := r2
    have q2 : r_257 (ux_set m 5 844257 0 0 (nI T)) = nI N' := s2
    rw [q1, q2]; congr 1; omega
  have e259 : ∀ s, r_259 s (ux_set m 5 844257 0 0 (nI T)) = r_259 s m := fun s => b_ext (fun w hw => by rw [z_r259 h' _ hw, z_r259 h.1 _ hw, z_nowY])
  unfold p_287 r_287
  rw [e257, e259, e259, e259]
  exact ⟨⟨s1, fun _ => trivial, fun _ => ⟨z_p259 h' _, z_p259 h' _, z_p259 h' _⟩⟩, rfl⟩
theorem z_n1000 {i : Nat} (hi : i < 100000) : (nI i ≤ 1000 ↔ i ≤ 1000) ∧ ((1000 : Int32) < nI i ↔ 1000 < i) ∧ ((1000 : Int32) ≤ nI i ↔ 1000 ≤ i) := ⟨z_le (b := 1000) (by omega) (by omega), z_lt (a := 1000) (by omega) (by omega), z_le (a := 1000) (by omega) (by omega)⟩
/-- watching for quiet -/
theorem z_wq (ht0 : t0 ≤ 1000000) (h : z_R 99 16 1 c t0 B X m) (hs : z_stable c m) (hB : B + 800 * 1000 + 810000 < 1999999999) (hX : X 0 16413 0 3 = nI t0) :
    p_44_25 ux_fuel (nI (t0 + 1000)) 0 X ∧ p_286_18 ux_fuel 0 m ∧ r_44_25 ux_fuel (nI (t0 + 1000)) 0 X = r_286_18 ux_fuel 0 m ∧ (∀ a s r i, ¬ a = 1 → m_44_25 ux_fuel (nI (t0 + 1000)) 0 X a s r i = X a s r i) ∧ ∃ mx, m_286_18 ux_fuel 0 m = m_173b mx ∧ z_fB m mx := by
  have W := z_watch (c := c) (t0 := t0) (fun m => p_287 m) (fun m => ¬ r_287 m = 0) (fun f i m => p_286_18 f (nI i) m) (fun f i m => r_286_18 f (nI i) m) (fun f i m => m_286_18 f (nI i) m) (fun f y X => p_44_25 f (nI (t0 + 1000)) (nI y) X) (fun f y X => r_44_25 f (nI (t0 + 1000)) (nI y) X) (fun f y X => m_44_25 f (nI (t0 + 1000)) (nI y) X) ht0
    (fun f i m hi pr st => by
      have e := (z_n1000 (i := i) (by omega)).1.mpr hi
      show p_286_18 (f + 1) (nI i) m ∧ r_286_18 (f + 1) (nI i) m = nI i ∧ m_286_18 (f + 1) (nI i) m = m_173b m
      rw [p_286_18, r_286_18, m_286_18, if_neg st, if_neg st]
      unfold p_286_42 r_286_42 m_286_42
      rw [if_pos e, ite_self]
      exact ⟨⟨pr, fun _ => (z_173b m).1, fun z => absurd z st⟩, rfl, rfl⟩)
    (fun f m pr => by
      have e1 : ¬ nI 1001 ≤ 1000 := fun z => by have := (z_n1000 (i := 1001) (by omega)).1.mp z; omega
      have e2 : (1000 : Int32) < nI 1001 := (z_n1000 (i := 1001) (by omega)).2.1.mpr (by omega)
      show p_286_18 (f + 1) (nI 1001) m ∧ r_286_18 (f + 1) (nI 1001) m = -1 ∧ m_286_18 (f + 1) (nI 1001) m = m_173b m
      rw [p_286_18, r_286_18, m_286_18, if_pos e2, if_pos e2, ite_self, ite_self]
      unfold p_286_42 r_286_42 m_286_42
      rw [if_neg e1, ite_self]
      exact ⟨⟨pr, fun _ => (z_173b m).1, fun _ => ⟨fun _ => (z_173b m).1, fun z => absurd e2 z⟩⟩, rfl, rfl⟩)
    (fun f i m hi pr st => by
      have st' : r_287 m = 0 := Classical.byContradiction st
      have e2 : ¬ (1000 : Int32) < nI i := fun z => by have := (z_n1000 (i := i) (by omega)).2.1.mp z; omega
      show (p_177 m → p_286_18 f (nI (i + 1)) (m_177 m) → p_286_18 (f + 1) (nI i) m) ∧ r_286_18 (f + 1) (nI i) m = r_286_18 f (nI (i + 1)) (m_177 m) ∧ m_286_18 (f + 1) (nI i) m = m_286_18 f (nI (i + 1)) (m_177 m)
      rw [p_286_18, r_286_18, m_286_18, if_pos st', if_pos st', if_neg e2, if_neg e2, z_nx]
      exact ⟨fun a b => ⟨pr, fun z => absurd st' z, fun _ => ⟨fun z => absurd z e2, fun _ => ⟨a, b⟩⟩⟩, rfl, rfl⟩)
    (fun f y t B X m h h0 hX st => by
      obtain ⟨q1, _, q3⟩ := z_qt h
      have st' : ¬ r_47 1 X = 0 := by rw [q3]; exact st
      show p_44_25 (f + 1) (nI (t0 + 1000)) (nI y) X ∧ r_44_25 (f + 1) (nI (t0 + 1000)) (nI y) X = nI (t - t0) ∧ m_44_25 (f + 1) (nI (t0 + 1000)) (nI y) X = X
      rw [p_44_25, r_44_25, m_44_25, if_neg st', if_neg st', ite_self, ite_self]
      unfold p_44_77 r_44_77
      rw [if_neg st', h.1.nw, hX]
      exact ⟨⟨fun _ => q1, fun _ => ⟨q1, fun _ => q1, fun z => absurd z st'⟩⟩, z_sbn h0, rfl⟩)
    (fun f y B X m h st => by
      obtain ⟨q1, _, q3⟩ := z_qt h
      have st' : r_47 1 X = 0 := by rw [q3]; exact Classical.byContradiction st
      have le : nI (t0 + 1000) ≤ X 1 16413 0 3 := by rw [h.1.nw]; exact (z_le (by omega) (by omega)).mpr (Nat.le_refl _)
      show p_44_25 (f + 1) (nI (t0 + 1000)) (nI y) X ∧ r_44_25 (f + 1) (nI (t0 + 1000)) (nI y) X = -1 ∧ m_44_25 (f + 1) (nI (t0 + 1000)) (nI y) X = X
      rw [p_44_25, r_44_25, m_44_25, if_pos st', if_pos st', if_pos le, if_pos le, ite_self, ite_self]
      unfold p_44_77 r_44_77
      rw [if_pos st']
      exact ⟨⟨fun _ => q1, fun _ => ⟨q1, fun _ => q1, fun _ => ⟨fun _ => q1, fun z => absurd le z⟩⟩⟩, rfl, rfl⟩)
    (fun f y t B X m Z h hy ht st hZ => by
      obtain ⟨q1, _, q3⟩ := z_qt h
      have st' : r_47 1 X = 0 := by rw [q3]; exact Classical.byContradiction st
      have le : ¬ nI (t0 + 1000) ≤ X 1 16413 0 3 := by rw [h.1.nw]; exact fun z => by have := (z_le (by omega) (by omega)).mp z; omega
      have ny : ¬ (1000 : Int32) ≤ nI y := fun z => by have := (z_n1000 (i := y) (by omega)).2.2.mp z; omega
      show (p_48 1 X → p_50 1 Z X → p_44_25 f (nI (t0 + 1000)) (nI (y + 1)) (m_50 1 Z X) → p_44_25 (f + 1) (nI (t0 + 1000)) (nI y) X) ∧ r_44_25 (f + 1) (nI (t0 + 1000)) (nI y) X = r_44_25 f (nI (t0 + 1000)) (nI (y + 1)) (m_50 1 Z X) ∧ m_44_25 (f + 1) (nI (t0 + 1000)) (nI y) X = m_44_25 f (nI (t0 + 1000)) (nI (y + 1)) (m_50 1 Z X)
      rw [p_44_25, r_44_25, m_44_25, if_pos st', if_pos st', if_neg le, if_neg le, if_neg ny, if_neg ny, ← hZ, z_nx]
      exact ⟨fun a b c => ⟨fun z => absurd z ny, fun _ => ⟨q1, fun z => absurd st' z, fun _ => ⟨fun z => absurd z le, fun _ => ⟨a, b, c⟩⟩⟩⟩, rfl, rfl⟩)
    (fun t B X m h => (z_qt h).2.1)
    (fun t B X m T h hT => by
      obtain ⟨a, b⟩ := z_287n h hT
      exact ⟨a, by rw [b]⟩)
    1000 ux_fuel ux_fuel 0 t0 B X m (by omega) (Nat.le_refl _) (by omega) (by have := z_fuel; omega) (by have := z_fuel; omega) hB h hs hX
  rw [Nat.sub_self] at W
  exact W
theorem z_try2 (hR : z_R 99 16 0 c t B C m) (hs : z_stable c m) : p_45 1 0 C ∧ (∀ a s r i, ¬ a = 1 → m_45 1 0 C a s r i = C a s r i) ∧ z_R 99 16 1 c t B (m_45 1 0 C) (m_173a m) ∧ z_stable c (m_173a m) := by
  obtain ⟨a1, a2, a3⟩ := z_45 (k := 1) (k2 := 0) (by decide) C
  have hR' : z_R 99 16 1 c t B (m_45 1 0 C) (m_173a m) := hR.cg2 (k' := 1) a3 (fun i _ => z_row_a i)
  exact ⟨a1, a2, hR', z_219d hR.1 hR'.1 (fun i _ _ => z_row_a i) hs⟩
/-- ticksUntilQuiet -/
theorem z_f_44 (h : z_Q n M) (hn : n ≤ 600) : z_op n M p_44 r_44 m_44 p_286 r_286 m_286 := by
  obtain ⟨c, t, B, ht, hB, hR, hs⟩ := h.w
  have key := fun (m0 : ux_M) (row : ∀ i, m0 5 844257 0 i = M 5 844257 0 i) => z_wq ht (z_try hR hs row).2.2.1 (z_try hR hs row).2.2.2 (by omega) (((z_try hR hs row).2.1 _ _ _ _ (by omega)).trans hR.1.nw)
  obtain ⟨_, b2, _, _⟩ := z_try hR hs (m0 := M) (fun _ => rfl)
  have nw : m_45 1 0 M 0 16413 0 3 + 1000 = nI (t + 1000) := by rw [b2 _ _ _ _ (by omega), hR.1.nw]; exact z_add t 1000
  have p45 := (z_try hR hs (m0 := M) (fun _ => rfl)).1
  obtain ⟨k1, _, _, k4, _⟩ := key M (fun _ => rfl)
  have mc : m_44 M = m_44_25 ux_fuel (nI (t + 1000)) 0 (m_45 1 0 M) := by unfold m_44; rw [nw]
  have f1 : ∀ a s r i, ¬ a = 1 → m_44 M a s r i = M a s r i := fun a s r i q => by rw [mc]; exact (k4 a s r i q).trans (b2 a s r i q)
  have row : ∀ i, z_th (m_44 M) 0 5 844257 0 i = M 5 844257 0 i := fun i => (z_thI i).trans (f1 _ _ _ _ (by omega))
  obtain ⟨_, l2, l3, _, mx, l5, l6⟩ := key (z_th (m_44 M) 0) row
  have mr : m_286 (m_44 M) = m_173b mx := l5
  obtain ⟨r1, r2⟩ := z_rest (m0 := z_th (m_44 M) 0) l6
  rw [← mr] at r1 r2
  obtain ⟨d1, d2⟩ := h.prd f1 r1 (fun i hi => (r2 i hi).trans (row i))
  refine ⟨?_, ?_, ?_, d1, d2⟩
  · unfold p_44; rw [nw]; exact ⟨p45, k1⟩
  · unfold p_286; intro M1 e; subst e; exact ⟨(z_173a _).1, l2⟩
  · unfold r_44; rw [nw]; exact l3
/-- watching for a unit to be active -/
theorem z_wa (hu : u < c) (ht0 : t0 ≤ 1000000) (h : z_R 99 16 1 c t0 B X m) (hs : z_stable c m) (hB : B + 800 * 1000 + 810000 < 1999999999) (hX : X 0 16413 0 3 = nI t0) :
    p_138_55 ux_fuel (nI u) (nI (t0 + 1000)) 0 X ∧ p_285_47 ux_fuel (nI u) 0 m ∧ r_138_55 ux_fuel (nI u) (nI (t0 + 1000)) 0 X = r_285_47 ux_fuel (nI u) 0 m ∧ (∀ a s r i, ¬ a = 1 → m_138_55 ux_fuel (nI u) (nI (t0 + 1000)) 0 X a s r i = X a s r i) ∧ ∃ mx, m_285_47 ux_fuel (nI u) 0 m = m_173b mx ∧ z_fB m mx := by
  have u16 := h.1.u16 hu
  have W := z_watch (c := c) (t0 := t0) (fun _ => True) (fun m => z_Y m 28 u = 2) (fun f i m => p_285_47 f (nI u) (nI i) m) (fun f i m => r_285_47 f (nI u) (nI i) m) (fun f i m => m_285_47 f (nI u) (nI i) m) (fun f y X => p_138_55 f (nI u) (nI (t0 + 1000)) (nI y) X) (fun f y X => r_138_55 f (nI u) (nI (t0 + 1000)) (nI y) X) (fun f y X => m_138_55 f (nI u) (nI (t0 + 1000)) (nI y) X) ht0
    (fun f i m hi pr st => by
      have e := (z_n1000 (i := i) (by omega)).1.mpr hi
      show p_285_47 (f + 1) (nI u) (nI i) m ∧ r_285_47 (f + 1) (nI u) (nI i) m = nI i ∧ m_285_47 (f + 1) (nI u) (nI i) m = m_173b m
      rw [p_285_47, r_285_47, m_285_47, of28 _ u16, if_pos st, if_pos st]
      unfold p_285_76 r_285_76 m_285_76
      rw [if_pos e, ite_self]
      exact ⟨⟨uu28 u16, fun _ => (z_173b m).1, fun z => absurd st z⟩, rfl, rfl⟩)
    (fun f m pr => by
      have e1 : ¬ nI 1001 ≤ 1000 := fun z => by have := (z_n1000 (i := 1001) (by omega)).1.mp z; omega
      have e2 : (1000 : Int32) < nI 1001 := (z_n1000 (i := 1001) (by omega)).2.1.mpr (by omega)
      show p_285_47 (f + 1) (nI u) (nI 1001) m ∧ r_285_47 (f + 1) (nI u) (nI 1001) m = -1 ∧ m_285_47 (f + 1) (nI u) (nI 1001) m = m_173b m
      rw [p_285_47, r_285_47, m_285_47, if_pos e2, if_pos e2, ite_self, ite_self]
      unfold p_285_76 r_285_76 m_285_76
      rw [if_neg e1, ite_self]
      exact ⟨⟨uu28 u16, fun _ => (z_173b m).1, fun _ => ⟨fun _ => (z_173b m).1, fun z => absurd e2 z⟩⟩, rfl, rfl⟩)
    (fun f i m hi pr st => by
      have e2 : ¬ (1000 : Int32) < nI i := fun z => by have := (z_n1000 (i := i) (by omega)).2.1.mp z; omega
      show (p_177 m → p_285_47 f (nI u) (nI (i + 1)) (m_177 m) → p_285_47 (f + 1) (nI u) (nI i) m) ∧ r_285_47 (f + 1) (nI u) (nI i) m = r_285_47 f (nI u) (nI (i + 1)) (m_177 m) ∧ m_285_47 (f + 1) (nI u) (nI i) m = m_285_47 f (nI u) (nI (i + 1)) (m_177 m)
      rw [p_285_47, r_285_47, m_285_47, of28 _ u16, if_neg st, if_neg st, if_neg e2, if_neg e2, z_nx]
      exact ⟨fun a b => ⟨uu28 u16, fun z => absurd z st, fun _ => ⟨fun z => absurd z e2, fun _ => ⟨a, b⟩⟩⟩, rfl, rfl⟩)
    (fun f y t B X m h h0 hX st => by
      have d := (h.1.d28 hu).trans st
      show p_138_55 (f + 1) (nI u) (nI (t0 + 1000)) (nI y) X ∧ r_138_55 (f + 1) (nI u) (nI (t0 + 1000)) (nI y) X = nI (t - t0) ∧ m_138_55 (f + 1) (nI u) (nI (t0 + 1000)) (nI y) X = X
      rw [p_138_55, r_138_55, m_138_55, z_cl u16, if_pos d, if_pos d, ite_self, ite_self]
      unfold p_138_111 r_138_111
      rw [z_cl u16, if_pos d, h.1.nw, hX]
      exact ⟨⟨fun _ => z_i16 u16, fun _ => ⟨z_i16 u16, fun _ => z_i16 u16, fun z => absurd d z⟩⟩, z_sbn h0, rfl⟩)
    (fun f y B X m h st => by
      have d : ¬ X 1 65665 0 u = 2 := by rw [h.1.d28 hu]; exact st
      have le : nI (t0 + 1000) ≤ X 1 16413 0 3 := by rw [h.1.nw]; exact (z_le (by omega) (by omega)).mpr (Nat.le_refl _)
      show p_138_55 (f + 1) (nI u) (nI (t0 + 1000)) (nI y) X ∧ r_138_55 (f + 1) (nI u) (nI (t0 + 1000)) (nI y) X = -1 ∧ m_138_55 (f + 1) (nI u) (nI (t0 + 1000)) (nI y) X = X
      rw [p_138_55, r_138_55, m_138_55, z_cl u16, if_neg d, if_neg d, if_pos le, if_pos le, ite_self, ite_self]
      unfold p_138_111 r_138_111
      rw [z_cl u16, if_neg d]
      exact ⟨⟨fun _ => z_i16 u16, fun _ => ⟨z_i16 u16, fun _ => z_i16 u16, fun _ => ⟨fun _ => z_i16 u16, fun z => absurd le z⟩⟩⟩, rfl, rfl⟩)
    (fun f y t B X m Z h hy ht st hZ => by
      have d : ¬ X 1 65665 0 u = 2 := by rw [h.1.d28 hu]; exact st
      have le : ¬ nI (t0 + 1000) ≤ X 1 16413 0 3 := by rw [h.1.nw]; exact fun z => by have := (z_le (by omega) (by omega)).mp z; omega
      have ny : ¬ (1000 : Int32) ≤ nI y := fun z => by have := (z_n1000 (i := y) (by omega)).2.2.mp z; omega
      show (p_48 1 X → p_50 1 Z X → p_138_55 f (nI u) (nI (t0 + 1000)) (nI (y + 1)) (m_50 1 Z X) → p_138_55 (f + 1) (nI u) (nI (t0 + 1000)) (nI y) X) ∧ r_138_55 (f + 1) (nI u) (nI (t0 + 1000)) (nI y) X = r_138_55 f (nI u) (nI (t0 + 1000)) (nI (y + 1)) (m_50 1 Z X) ∧ m_138_55 (f + 1) (nI u) (nI (t0 + 1000)) (nI y) X = m_138_55 f (nI u) (nI (t0 + 1000)) (nI (y + 1)) (m_50 1 Z X)
      rw [p_138_55, r_138_55, m_138_55, z_cl u16, if_neg d, if_neg d, if_neg le, if_neg le, if_neg ny, if_neg ny, ← hZ, z_nx]
      exact ⟨fun a b c => ⟨fun z => absurd z ny, fun _ => ⟨z_i16 u16, fun z => absurd z d, fun _ => ⟨fun z => absurd z le, fun _ => ⟨a, b, c⟩⟩⟩⟩, rfl, rfl⟩)
    (fun t B X m h => trivial)
    (fun t B X m T h hT => ⟨trivial, by rw [z_nowY]⟩)
    1000 ux_fuel ux_fuel 0 t0 B X m (by omega) (Nat.le_refl _) (by omega) (by have := z_fuel; omega) (by have := z_fuel; omega) hB h hs hX
  rw [Nat.sub_self] at W
  exact W
/-- merging a transaction in the place of what is queued -/
theorem z_mrg (h : z_R 99 b k c t B C m) (hT : z_tr k c C m) : p_74 k C ∧ p_211 1 m ∧ z_R 99 b k c t B (m_74 k C) (m_211 1 m) ∧ 0 ≤ ux_bc ((C k 32805 0 0) ||| (C k 32805 0 2)) := by
  have hc := h.1.le
  have hfu : c < ux_fuel := by have := z_fuel; omega
  obtain ⟨_, g2⟩ := z_211l h hT 1 c ux_fuel 0 0 (by omega) hfu (Nat.le_refl _)
  obtain ⟨N, _, k2, _, k4⟩ := g2 (fun z => absurd z.1 (by decide))
  have ml := z_mgl (b := b) (k := k) (t := t) (B := B) c ux_fuel ux_fuel 0 (nI N) _ _ (by omega) hfu hfu h hT
  have em : m_211 1 m = m_211_53 ux_fuel (nI N) 0 m := k4
  refine ⟨ml.1, k2 ml.2.1, by rw [em]; exact ml.2.2.2, ?_⟩
  rw [z_bc _ (fun w h1 h2 => by
    obtain ⟨s1, _, s3, _⟩ := hT w h2
    rw [b_or, s1, s3]
    have : ¬ w < c := by omega
    simp [this])]
  have := z_pop.le ((C k 32805 0 0) ||| (C k 32805 0 2)) 16
  exact nI_pos' (by omega)
/-- ticksUntilActive -/
theorem z_f_138 (h : z_Q n M) (hn : n ≤ 600) (hx : z_iu M y) : z_op n M (p_138 y) (r_138 y) (m_138 y) (p_285 y) (r_285 y) (m_285 y) := by
  obtain ⟨c, t, B, u, ht, hB, hR, hs, hc, hu, h16, rfl⟩ := h.un hx
  obtain ⟨p45, b2, b3, b4⟩ := z_try hR hs (m0 := M) (fun _ => rfl)
  have n10 : ¬ (1 : Int32) = 0 := by decide
  -- at any memory of the reference with this row
  have key : ∀ m0 : ux_M, (∀ i, m0 5 844257 0 i = M 5 844257 0 i) → z_R 99 16 1 c t B (m_45 1 0 M) m0 := fun m0 row =>
    b3.cg2 (k' := 1) (fun _ _ _ _ => rfl) (fun i _ => (row i).trans (z_row_a i).symm)
  have row1 : ∀ (m0 : ux_M) (i : Nat), (∀ i, m0 5 844257 0 i = M 5 844257 0 i) → z_fM m0 (m_197 (nI u) 1 m0) → m_173a (m_197 (nI u) 1 m0) 5 844257 0 i = m0 5 844257 0 i := fun m0 i row f => (z_row_a i).trans (f 5 844257 0 i (by omega))
  have good : ∀ m0 : ux_M, (∀ i, m0 5 844257 0 i = M 5 844257 0 i) → r_197 (nI u) 1 m0 = 0 →
      p_64 1 (nI u) 1 1 (m_45 1 0 M) ∧ 0 ≤ r_64 1 (nI u) 1 1 (m_45 1 0 M) ∧ p_78 1 (m_64 1 (nI u) 1 1 (m_45 1 0 M)) ∧ p_211 1 (m_173a (m_197 (nI u) 1 m0)) ∧ p_218 (m_211 1 (m_173a (m_197 (nI u) 1 m0)))
      ∧ (∀ a s r i, ¬ a = 1 → m_78 1 (m_64 1 (nI u) 1 1 (m_45 1 0 M)) a s r i = M a s r i)
      ∧ p_138_55 ux_fuel (nI u) (nI (t + 1000)) 0 (m_78 1 (m_64 1 (nI u) 1 1 (m_45 1 0 M))) ∧ p_285_47 ux_fuel (nI u) 0 (m_218 (m_211 1 (m_173a (m_197 (nI u) 1 m0))))
      ∧ r_138_55 ux_fuel (nI u) (nI (t + 1000)) 0 (m_78 1 (m_64 1 (nI u) 1 1 (m_45 1 0 M))) = r_285_47 ux_fuel (nI u) 0 (m_218 (m_211 1 (m_173a (m_197 (nI u) 1 m0))))
      ∧ (∀ a s r i, ¬ a = 1 → m_138_55 ux_fuel (nI u) (nI (t + 1000)) 0 (m_78 1 (m_64 1 (nI u) 1 1 (m_45 1 0 M))) a s r i = M a s r i)
      ∧ ∃ mx, m_285_47 ux_fuel (nI u) 0 (m_218 (m_211 1 (m_173a (m_197 (nI u) 1 m0)))) = m_173b mx ∧ z_fB (m_173a (m_197 (nI u) 1 m0)) mx := fun m0 row q => by
    have hR0 := key m0 row
    obtain ⟨t1, t2, t3, t4, t5, t6, t7⟩ := z_TX2_t hR0 hu 1 (.inl rfl)
    have q65 : r_65 1 (nI u) 1 (m_45 1 0 M) = 0 := t3.trans q
    have hR1 : z_R 99 16 1 c t B (m_65 1 (nI u) 1 (m_45 1 0 M)) (m_173a (m_197 (nI u) 1 m0)) := (hR0.fr t5 t6).cg2 (k' := 1) (fun _ _ _ _ => rfl) (fun i _ => z_row_a i)
    have hT1 : z_tr 1 c (m_65 1 (nI u) 1 (m_45 1 0 M)) (m_173a (m_197 (nI u) 1 m0)) := fun w hw => by
      have e : ∀ i, m_173a (m_197 (nI u) 1 m0) 5 950305 0 i = m_197 (nI u) 1 m0 5 950305 0 i := fun i => by rw [(z_173a _).2]; exact z_tt_o (by decide)
      rw [e, e, e]; exact (t7 q).1 w hw
    obtain ⟨g1, g2, g3, g4⟩ := z_mrg hR1 hT1
    have m64 : m_64 1 (nI u) 1 1 (m_45 1 0 M) = m_74 1 (m_65 1 (nI u) 1 (m_45 1 0 M)) := by
      unfold m_64 m_64_65; rw [if_pos q65, if_neg n10, ite_self]
    have r64 : r_64 1 (nI u) 1 1 (m_45 1 0 M) = ux_bc ((m_65 1 (nI u) 1 (m_45 1 0 M) 1 32805 0 0) ||| (m_65 1 (nI u) 1 (m_45 1 0 M) 1 32805 0 2)) := by
      unfold r_64 r_64_65; rw [if_pos q65, if_neg n10, ite_self]
    rw [← m64] at g3
    obtain ⟨j1, j2, j3, j4⟩ := z_R.jobs g3 (by omega)
    have f78 : ∀ a s r i, ¬ a = 1 → m_78 1 (m_64 1 (nI u) 1 1 (m_45 1 0 M)) a s r i = M a s r i := fun a s r i q => (fa_78 1 _ a s r i (fun z => q z.1)).trans ((fa_64 1 _ _ _ _ a s r i (fun z => q z.1)).trans (b2 a s r i q))
    obtain ⟨w1, w2, w3, w4, mx, w5, w6⟩ := z_wa hu ht j3 j4 (by omega) ((f78 _ _ _ _ (by omega)).trans hR.1.nw)
    refine ⟨?_, by rw [r64]; exact g4, j1, g2, j2, f78, w1, w2, w3, fun a s r i q => (w4 a s r i q).trans (f78 a s r i q), mx, w5, ((fb_211 _ _).tr (fb_218 _)).tr w6⟩
    unfold p_64 p_64_65; exact ⟨t1, fun _ => ⟨fun _ => g1, fun _ => ⟨fun _ => g1, fun _ => trivial⟩⟩, fun _ => trivial⟩
  have bad : ∀ m0 : ux_M, (∀ i, m0 5 844257 0 i = M 5 844257 0 i) → ¬ r_197 (nI u) 1 m0 = 0 → p_64 1 (nI u) 1 1 (m_45 1 0 M) ∧ r_64 1 (nI u) 1 1 (m_45 1 0 M) = r_197 (nI u) 1 m0 ∧ ¬ 0 ≤ r_64 1 (nI u) 1 1 (m_45 1 0 M) := fun m0 row q => by
    obtain ⟨t1, t2, t3, t4, t5, t6, t7⟩ := z_TX2_t (key m0 row) hu 1 (.inl rfl)
    have q65 : ¬ r_65 1 (nI u) 1 (m_45 1 0 M) = 0 := by rw [t3]; exact q
    have r64 : r_64 1 (nI u) 1 1 (m_45 1 0 M) = r_197 (nI u) 1 m0 := by unfold r_64; rw [if_neg q65]; exact t3
    refine ⟨?_, r64, ?_⟩
    · unfold p_64; exact ⟨t1, fun z => absurd z q65, fun _ => trivial⟩
    · rw [r64]
      have := t4.resolve_left q
      rw [Int32.lt_iff_toInt_lt] at this; rw [Int32.le_iff_toInt_le]; omega
  have nw : 0 ≤ r_64 1 (nI u) 1 1 (m_45 1 0 M) → (∀ a s r i, ¬ a = 1 → m_78 1 (m_64 1 (nI u) 1 1 (m_45 1 0 M)) a s r i = M a s r i) → m_78 1 (m_64 1 (nI u) 1 1 (m_45 1 0 M)) 0 16413 0 3 + 1000 = nI (t + 1000) := fun _ f => by
    rw [f _ _ _ _ (by omega), hR.1.nw]; exact z_add t 1000
  have f1 : ∀ a s r i, ¬ a = 1 → m_138 (nI u) M a s r i = M a s r i := fun a s r i q1 => by
    unfold m_138
    by_cases q : r_197 (nI u) 1 M = 0
    · obtain ⟨_, g2, _, _, _, g6, _, _, _, g10, _⟩ := good M (fun _ => rfl) q
      rw [if_pos g2, nw g2 g6]; exact g10 a s r i q1
    · obtain ⟨_, _, g3⟩ := bad M (fun _ => rfl) q
      rw [if_neg g3]; exact (fa_64 1 _ _ _ _ a s r i (fun z => q1 z.1)).trans (b2 a s r i q1)
  have row : ∀ i, z_th (m_138 (nI u) M) 0 5 844257 0 i = M 5 844257 0 i := fun i => (z_thI i).trans (f1 _ _ _ _ (by omega))
  obtain ⟨e1, e2, e3⟩ := z_235i hc ((f1 5 844257 0 1 (by omega)).trans hR.1.cn) hu
  obtain ⟨m0, em0⟩ : ∃ m0, m0 = z_th (m_138 (nI u) M) 0 := ⟨_, rfl⟩
  rw [← em0] at row
  obtain ⟨_, t2, _, _, _, t6, _⟩ := z_TX2_t (key m0 row) hu 1 (.inl rfl)
  by_cases q : r_197 (nI u) 1 m0 = 0
  · obtain ⟨g1, g2, g3, g4, g5, g6, g7, g8, g9, g10, mx, g11, g12⟩ := good m0 row q
    have en := nw g2 g6
    have mr : m_285 (nI u) (m_138 (nI u) M) = m_173b mx := by
      unfold m_285; rw [if_pos e2, e3, ← em0, if_pos q]; exact g11
    obtain ⟨r1, r2⟩ := z_rest g12
    rw [← mr] at r1 r2
    obtain ⟨d1, d2⟩ := h.prd (M2 := m_285 (nI u) (m_138 (nI u) M)) f1 (fun a s r i z => by rw [← em0]; exact (r1 a s r i z).trans (t6 a s r i (fun y => z ⟨y.1, .inl (by unfold z_bS; omega)⟩))) (fun i hi => (r2 i hi).trans ((t6 5 844257 0 i (by omega)).trans (row i)))
    refine ⟨?_, ?_, ?_, d1, d2⟩
    · unfold p_138; rw [en]; exact ⟨z_p93 hx, p45, g1, fun _ => ⟨g3, g7⟩, fun _ => trivial⟩
    · unfold p_285; rw [e3, ← em0]; exact ⟨e1, fun _ => ⟨t2, fun _ => ⟨(z_173a _).1, g4, g5, g8⟩, fun _ => trivial⟩, fun _ => trivial⟩
    · unfold r_138 r_285; rw [en, if_pos g2, if_pos e2, e3, ← em0, if_pos q]; exact g9
  · obtain ⟨g1, g2, g3⟩ := bad m0 row q
    have mr : m_285 (nI u) (m_138 (nI u) M) = m_197 (nI u) 1 m0 := by
      unfold m_285; rw [if_pos e2, e3, ← em0, if_neg q]
    obtain ⟨d1, d2⟩ := h.prd (M2 := m_285 (nI u) (m_138 (nI u) M)) f1 (fun a s r i z => by rw [← em0, mr]; exact t6 a s r i (fun y => z ⟨y.1, .inl (by unfold z_bS; omega)⟩)) (fun i hi => by rw [mr]; exact (t6 5 844257 0 i (by omega)).trans (row i))
    refine ⟨?_, ?_, ?_, d1, d2⟩
    · unfold p_138; exact ⟨z_p93 hx, p45, g1, fun z => absurd z g3, fun _ => trivial⟩
    · unfold p_285; rw [e3, ← em0]; exact ⟨e1, fun _ => ⟨t2, fun z => absurd z q, fun _ => trivial⟩, fun _ => trivial⟩
    · unfold r_138 r_285; rw [if_neg g3, if_pos e2, e3, ← em0, if_neg q]; exact g2
theorem z_g_285 (h : z_Q n M) (hx : ¬ z_iu M y) : z_thr n M (p_285 y) (m_285 y) 1 := by
  obtain ⟨e1, e2, e3⟩ := h.o hx
  have e0 : ¬ r_235 y M = 0 := by rw [e2]; decide
  refine .th h ?_ ?_
  · unfold p_285; exact ⟨e1, fun q => absurd q e0, fun _ => trivial⟩
  · unfold m_285; rw [if_neg e0, e3]
end ZP2
