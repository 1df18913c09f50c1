/-! CHAINS OF JOBS: the reference's, and both alike -/
noncomputable def z_rw0 (m : ux_M) (x : Int32) (u : Nat) : Int32 := if x = 0 then (if r_208 (nI u) m = 0 then 0 else 1) else (if z_Y m 0 u = 0 then z_Y m 10 u else 0)
noncomputable def z_rA (m : ux_M) (x : Int32) (u : Nat) : Bool := decide (¬ r_208 (nI u) m = 0) && (decide (x = 0) || decide (¬ r_208 (nI u) m = 2))
noncomputable def z_rE (m : ux_M) (x : Int32) (u v : Nat) : Bool := (decide (x = 0) || decide (¬ r_208 (nI v) m = 2)) && z_fe m v u
section ZK3
variable {k c t B b u s n i : Nat} {M C m : ux_M} {T T0 : Nat → Int32} {x y v : Int32}
theorem z_tt8 (w : Int32) : r_208 w (z_tt m 5 1015937 T) = r_208 w m := by unfold r_208; simp only [z_tt_o (show ¬ 950305 = 1015937 by decide)]
theorem z_ttY (a u : Nat) : z_Y (z_tt m 5 1015937 T) a u = z_Y m a u := z_tt_o (by decide)
theorem z_ttpc (a : Nat) (j : Int32) (w : Nat) (j' : Int32) : z_pc (z_tt m 5 1015937 T) a j w j' = z_pc m a j w j' := by unfold z_pc; simp only [z_ttY]
theorem z_279 (hu : u < 16) (hx : x = 0 ∨ x = 1) : p_279 (nI u) x m ∧ r_279 (nI u) x m = z_rw0 m x u := by
  unfold p_279 r_279 z_rw0
  rw [of0 m hu, of10 m hu]
  exact ⟨⟨fun _ => ⟨uu0 hu, fun _ => trivial, fun _ => uu10 hu⟩, fun _ => z_p208 _ _⟩, rfl⟩
theorem z_278v (hc : c ≤ 16) (hm : m 5 844257 0 1 = nI c) (hx : x = 0 ∨ x = 1) (hu : u < c) (hA : z_rA m x u = true) (kp : Int32 → Int32 → Int32 → Int32 → ux_M → Prop) (kr : Int32 → Int32 → Int32 → Int32 → ux_M → Int32) (km : Int32 → Int32 → Int32 → Int32 → ux_M → ux_M) (x3 g : Int32) (S : (Nat → Int32) × Int32) (hS : S = z_gs c (z_rA m x) (z_rE m x) (z_rw0 m x) u (T, g)) :
    ∀ n f i, i + n = c → n < f →
    (kp x S.2 x3 (nI (u + 1)) (z_tt m 5 1015937 S.1) → p_278_85 kp f x g x3 (nI u) (r_208 (nI u) m) (z_gm (z_rE m x u) T i) (nI i) (z_tt m 5 1015937 T))
    ∧ r_278_85 kr f x g x3 (nI u) (r_208 (nI u) m) (z_gm (z_rE m x u) T i) (nI i) (z_tt m 5 1015937 T) = kr x S.2 x3 (nI (u + 1)) (z_tt m 5 1015937 S.1)
    ∧ m_278_85 km f x g x3 (nI u) (r_208 (nI u) m) (z_gm (z_rE m x u) T i) (nI i) (z_tt m 5 1015937 T) = km x S.2 x3 (nI (u + 1)) (z_tt m 5 1015937 S.1) := by
  have u16 : u < 16 := by omega
  have hT : (z_tt m 5 1015937 T) 5 844257 0 1 = nI c := (z_tt_o (by decide)).trans hm
  intro n
  induction n with
  | zero =>
    intro f i hi hf
    obtain ⟨f, rfl⟩ : ∃ z, f = z + 1 := ⟨f - 1, by omega⟩
    obtain rfl : i = c := by omega
    have hle := z_yle (Nat.le_refl i) hc
    obtain ⟨w1, w2⟩ := z_279 (m := z_tt m 5 1015937 T) u16 hx
    have w3 : z_rw0 (z_tt m 5 1015937 T) x u = z_rw0 m x u := by unfold z_rw0; rw [z_tt8, z_ttY, z_ttY]
    rw [z_gs, if_pos hA] at hS
    rw [p_278_85, r_278_85, m_278_85, z_c1, hT, if_pos hle, if_pos hle]
    simp only [z_cl u16, z_nx, z_tt_set, forall_eq, w2, w3, z_tt_g, z_upe, Int32.add_comm (z_gm (z_rE m x u) T i) (z_rw0 m x u)]
    subst hS
    exact ⟨fun q => ⟨z_v1, fun _ => ⟨w1, z_i16 u16, z_i16 u16, q⟩, fun z => absurd hle z⟩, rfl, rfl⟩
  | succ n ih =>
    intro f i hi hf
    obtain ⟨f, rfl⟩ : ∃ z, f = z + 1 := ⟨f - 1, by omega⟩
    have ic : i < c := by omega
    have i16 : i < 16 := by omega
    have hle := z_nle ic hc
    obtain ⟨a1, a2, a3⟩ := ih f (i + 1) (by omega) (by omega)
    obtain ⟨pp, pr⟩ := z_209 (z_tt m 5 1015937 T) u16 i16 (r_208 (nI i) m) (r_208 (nI u) m)
    have eq : nI i = nI u ↔ i = u := z_eq (by omega) (by omega)
    have hA' : ¬ r_208 (nI u) m = 0 := fun z => by unfold z_rA at hA; simp [z] at hA
    rw [z_ttpc] at pr
    rw [z_gm] at a1 a2 a3
    rw [p_278_85, r_278_85, m_278_85, z_c1, hT, if_neg hle, if_neg hle]
    simp only [z_tt8, z_cl i16, z_nx, z_tt_g, eq]
    have skip : z_rE m x u i = false → (kp x S.2 x3 (nI (u + 1)) (z_tt m 5 1015937 S.1) → p_278_85 kp f x g x3 (nI u) (r_208 (nI u) m) (z_gm (z_rE m x u) T i) (nI (i + 1)) (z_tt m 5 1015937 T))
        ∧ r_278_85 kr f x g x3 (nI u) (r_208 (nI u) m) (z_gm (z_rE m x u) T i) (nI (i + 1)) (z_tt m 5 1015937 T) = kr x S.2 x3 (nI (u + 1)) (z_tt m 5 1015937 S.1)
        ∧ m_278_85 km f x g x3 (nI u) (r_208 (nI u) m) (z_gm (z_rE m x u) T i) (nI (i + 1)) (z_tt m 5 1015937 T) = km x S.2 x3 (nI (u + 1)) (z_tt m 5 1015937 S.1) := fun e => by
      rw [e, if_neg (by decide)] at a1 a2 a3; exact ⟨a1, a2, a3⟩
    have take : z_rE m x u i = true → (kp x S.2 x3 (nI (u + 1)) (z_tt m 5 1015937 S.1) → p_278_85 kp f x g x3 (nI u) (r_208 (nI u) m) (if z_gm (z_rE m x u) T i < T i then T i else z_gm (z_rE m x u) T i) (nI (i + 1)) (z_tt m 5 1015937 T))
        ∧ r_278_85 kr f x g x3 (nI u) (r_208 (nI u) m) (if z_gm (z_rE m x u) T i < T i then T i else z_gm (z_rE m x u) T i) (nI (i + 1)) (z_tt m 5 1015937 T) = kr x S.2 x3 (nI (u + 1)) (z_tt m 5 1015937 S.1)
        ∧ m_278_85 km f x g x3 (nI u) (r_208 (nI u) m) (if z_gm (z_rE m x u) T i < T i then T i else z_gm (z_rE m x u) T i) (nI (i + 1)) (z_tt m 5 1015937 T) = km x S.2 x3 (nI (u + 1)) (z_tt m 5 1015937 S.1) := fun e => by
      rw [e, if_pos rfl] at a1 a2 a3; exact ⟨a1, a2, a3⟩
    by_cases q1 : i = u
    · obtain ⟨r1, r2, r3⟩ := skip (by unfold z_rE z_fe; simp [q1])
      rw [if_pos q1, if_pos q1]
      exact ⟨fun q => ⟨z_v1, fun z => absurd z hle, fun _ => ⟨z_p208 _ _, fun _ => r1 q, fun z => absurd q1 z⟩⟩, r2, r3⟩
    · rw [if_neg q1, if_neg q1]
      by_cases q2 : r_208 (nI i) m = 0
      · obtain ⟨r1, r2, r3⟩ := skip (by unfold z_rE z_fe; simp [q2])
        rw [if_pos q2, if_pos q2]
        exact ⟨fun q => ⟨z_v1, fun z => absurd z hle, fun _ => ⟨z_p208 _ _, fun z => absurd z q1, fun _ => ⟨fun _ => r1 q, fun z => absurd q2 z⟩⟩⟩, r2, r3⟩
      · rw [if_neg q2, if_neg q2]
        by_cases q3 : x = 0
        · rw [if_pos q3, if_pos q3]
          cases e : z_pc m i (r_208 (nI i) m) u (r_208 (nI u) m)
          · obtain ⟨r1, r2, r3⟩ := skip (by unfold z_rE z_fe; simp [e])
            have pr' : r_209 (nI i) (r_208 (nI i) m) (nI u) (r_208 (nI u) m) (z_tt m 5 1015937 T) = 0 := by rw [pr, e]; exact if_neg (by decide)
            rw [if_pos pr', if_pos pr']
            exact ⟨fun q => ⟨z_v1, fun z => absurd z hle, fun _ => ⟨z_p208 _ _, fun z => absurd z q1, fun _ => ⟨fun z => absurd z q2, fun _ => ⟨fun _ => ⟨pp, fun z => absurd pr' z, fun _ => r1 q⟩, fun z => absurd q3 z⟩⟩⟩⟩, r2, r3⟩
          · obtain ⟨r1, r2, r3⟩ := take (by unfold z_rE z_fe; simp [e, q3, hA', q2, show ¬ u = i from fun z => q1 z.symm])
            have pr' : ¬ r_209 (nI i) (r_208 (nI i) m) (nI u) (r_208 (nI u) m) (z_tt m 5 1015937 T) = 0 := by rw [pr, e, if_pos rfl]; decide
            rw [if_neg pr', if_neg pr']
            exact ⟨fun q => ⟨z_v1, fun z => absurd z hle, fun _ => ⟨z_p208 _ _, fun z => absurd z q1, fun _ => ⟨fun z => absurd z q2, fun _ => ⟨fun _ => ⟨pp, fun _ => ⟨z_i16 i16, r1 q⟩, fun z => absurd z pr'⟩, fun z => absurd q3 z⟩⟩⟩⟩, r2, r3⟩
        · rw [if_neg q3, if_neg q3]
          by_cases q4 : r_208 (nI i) m = 2
          · obtain ⟨r1, r2, r3⟩ := skip (by unfold z_rE; simp [q3, q4])
            rw [if_pos q4, if_pos q4]
            exact ⟨fun q => ⟨z_v1, fun z => absurd z hle, fun _ => ⟨z_p208 _ _, fun z => absurd z q1, fun _ => ⟨fun z => absurd z q2, fun _ => ⟨fun z => absurd z q3, fun _ => ⟨fun _ => r1 q, fun z => absurd q4 z⟩⟩⟩⟩⟩, r2, r3⟩
          · rw [if_neg q4, if_neg q4]
            cases e : z_pc m i (r_208 (nI i) m) u (r_208 (nI u) m)
            · obtain ⟨r1, r2, r3⟩ := skip (by unfold z_rE z_fe; simp [e])
              have pr' : r_209 (nI i) (r_208 (nI i) m) (nI u) (r_208 (nI u) m) (z_tt m 5 1015937 T) = 0 := by rw [pr, e]; exact if_neg (by decide)
              rw [if_pos pr', if_pos pr']
              exact ⟨fun q => ⟨z_v1, fun z => absurd z hle, fun _ => ⟨z_p208 _ _, fun z => absurd z q1, fun _ => ⟨fun z => absurd z q2, fun _ => ⟨fun z => absurd z q3, fun _ => ⟨fun z => absurd z q4, fun _ => ⟨pp, fun z => absurd pr' z, fun _ => r1 q⟩⟩⟩⟩⟩⟩, r2, r3⟩
            · obtain ⟨r1, r2, r3⟩ := take (by unfold z_rE z_fe; simp [e, q4, hA', q2, show ¬ u = i from fun z => q1 z.symm])
              have pr' : ¬ r_209 (nI i) (r_208 (nI i) m) (nI u) (r_208 (nI u) m) (z_tt m 5 1015937 T) = 0 := by rw [pr, e, if_pos rfl]; decide
              rw [if_neg pr', if_neg pr']
              exact ⟨fun q => ⟨z_v1, fun z => absurd z hle, fun _ => ⟨z_p208 _ _, fun z => absurd z q1, fun _ => ⟨fun z => absurd z q2, fun _ => ⟨fun z => absurd z q3, fun _ => ⟨fun z => absurd z q4, fun _ => ⟨pp, fun _ => ⟨z_i16 i16, r1 q⟩, fun z => absurd z pr'⟩⟩⟩⟩⟩⟩, r2, r3⟩
theorem z_278u (hc : c ≤ 16) (hm : m 5 844257 0 1 = nI c) (hx : x = 0 ∨ x = 1) (kp : Int32 → Int32 → Int32 → ux_M → Prop) (kr : Int32 → Int32 → Int32 → ux_M → Int32) (km : Int32 → Int32 → Int32 → ux_M → ux_M) (x3 : Int32) (s0 : (Nat → Int32) × Int32) (S : Nat → (Nat → Int32) × Int32)
    (hS : ∀ i, S i = z_gp c (z_rA m x) (z_rE m x) (z_rw0 m x) i s0) : ∀ n f i, i + n = c → n < f →
    (kp x (S c).2 (x3 + 1) (z_tt m 5 1015937 (S c).1) → p_278_42 kp f x (S i).2 x3 (nI i) (z_tt m 5 1015937 (S i).1))
    ∧ r_278_42 kr f x (S i).2 x3 (nI i) (z_tt m 5 1015937 (S i).1) = kr x (S c).2 (x3 + 1) (z_tt m 5 1015937 (S c).1)
    ∧ m_278_42 km f x (S i).2 x3 (nI i) (z_tt m 5 1015937 (S i).1) = km x (S c).2 (x3 + 1) (z_tt m 5 1015937 (S c).1) := by
  intro n
  induction n with
  | zero =>
    intro f i hi hf
    obtain ⟨f, rfl⟩ : ∃ z, f = z + 1 := ⟨f - 1, by omega⟩
    obtain rfl : i = c := by omega
    have hle := z_yle (Nat.le_refl i) hc
    rw [p_278_42, r_278_42, m_278_42, z_c1, z_tt_o (show ¬ 844257 = 1015937 by decide), hm, if_pos hle, if_pos hle]
    exact ⟨fun q => ⟨z_v1, fun _ => q, fun z => absurd hle z⟩, rfl, rfl⟩
  | succ n ih =>
    intro f i hi hf
    obtain ⟨f, rfl⟩ : ∃ z, f = z + 1 := ⟨f - 1, by omega⟩
    have ic : i < c := by omega
    have i16 : i < 16 := by omega
    have hle := z_nle ic hc
    obtain ⟨a1, a2, a3⟩ := ih f (i + 1) (by omega) (by omega)
    have e1 : S (i + 1) = z_gs c (z_rA m x) (z_rE m x) (z_rw0 m x) i (S i) := by rw [hS, hS, z_gp]
    have e0 : z_rA m x i = false → S (i + 1) = S i := fun e => by rw [e1, z_gs, e, if_neg (by decide)]
    rw [p_278_42, r_278_42, m_278_42, z_c1, z_tt_o (show ¬ 844257 = 1015937 by decide), hm, if_neg hle, if_neg hle]
    simp only [z_tt8, z_nx]
    have go : z_rA m x i = true → _ := fun e => z_278v hc hm hx ic e (fun a0 a1 a2 a3 a4 => p_278_42 kp f a0 a1 a2 a3 a4) (fun a0 a1 a2 a3 a4 => r_278_42 kr f a0 a1 a2 a3 a4) (fun a0 a1 a2 a3 a4 => m_278_42 km f a0 a1 a2 a3 a4) x3 (S i).2 (S (i + 1)) (T := (S i).1) e1 c ux_fuel 0 (by omega) (by have := z_fuel; omega)
    by_cases q1 : r_208 (nI i) m = 0
    · rw [e0 (by unfold z_rA; simp [q1])] at a1 a2 a3
      rw [if_pos q1, if_pos q1]
      exact ⟨fun q => ⟨z_v1, fun z => absurd z hle, fun _ => ⟨z_p208 _ _, fun _ => a1 q, fun z => absurd q1 z⟩⟩, a2, a3⟩
    · rw [if_neg q1, if_neg q1]
      by_cases q2 : x = 0
      · obtain ⟨r1, r2, r3⟩ := go (by unfold z_rA; simp [q1, q2])
        rw [if_pos q2, if_pos q2]
        exact ⟨fun q => ⟨z_v1, fun z => absurd z hle, fun _ => ⟨z_p208 _ _, fun z => absurd z q1, fun _ => ⟨fun _ => r1 (a1 q), fun z => absurd q2 z⟩⟩⟩, r2.trans a2, r3.trans a3⟩
      · rw [if_neg q2, if_neg q2]
        by_cases q3 : r_208 (nI i) m = 2
        · rw [e0 (by unfold z_rA; simp [q2, q3])] at a1 a2 a3
          rw [if_pos q3, if_pos q3]
          exact ⟨fun q => ⟨z_v1, fun z => absurd z hle, fun _ => ⟨z_p208 _ _, fun z => absurd z q1, fun _ => ⟨fun z => absurd z q2, fun _ => ⟨fun z => absurd q3 z, fun _ => a1 q⟩⟩⟩⟩, a2, a3⟩
        · obtain ⟨r1, r2, r3⟩ := go (by unfold z_rA; simp [q1, q3])
          rw [if_neg q3, if_neg q3]
          exact ⟨fun q => ⟨z_v1, fun z => absurd z hle, fun _ => ⟨z_p208 _ _, fun z => absurd z q1, fun _ => ⟨fun z => absurd z q2, fun _ => ⟨fun _ => r1 (a1 q), fun z => absurd z q3⟩⟩⟩⟩, r2.trans a2, r3.trans a3⟩
theorem z_278r (hc : c ≤ 16) (hm : m 5 844257 0 1 = nI c) (hx : x = 0 ∨ x = 1) (T0 : Nat → Int32) (R : Nat → (Nat → Int32) × Int32) (hR : ∀ r, R r = z_gR c c (z_rA m x) (z_rE m x) (z_rw0 m x) T0 r) : ∀ n f r, r + n = c + 1 → n < f →
    p_278_29 f x (R r).2 (nI r) (z_tt m 5 1015937 (R r).1) ∧ r_278_29 f x (R r).2 (nI r) (z_tt m 5 1015937 (R r).1) = (R (c + 1)).2 ∧ m_278_29 f x (R r).2 (nI r) (z_tt m 5 1015937 (R r).1) = z_tt m 5 1015937 (R (c + 1)).1 := by
  intro n
  induction n with
  | zero =>
    intro f r hi hf
    obtain ⟨f, rfl⟩ : ∃ z, f = z + 1 := ⟨f - 1, by omega⟩
    obtain rfl : r = c + 1 := by omega
    have hlt : nI c < nI (c + 1) := (z_lt (by omega) (by omega)).mpr (by omega)
    rw [p_278_29, r_278_29, m_278_29, z_c1, z_tt_o (show ¬ 844257 = 1015937 by decide), hm, if_pos hlt, if_pos hlt]
    exact ⟨⟨z_v1, fun _ => trivial, fun z => absurd hlt z⟩, rfl, rfl⟩
  | succ n ih =>
    intro f r hi hf
    obtain ⟨f, rfl⟩ : ∃ z, f = z + 1 := ⟨f - 1, by omega⟩
    have hlt : ¬ nI c < nI r := fun z => by have := (z_lt (by omega) (by omega)).mp z; omega
    obtain ⟨a1, a2, a3⟩ := ih f (r + 1) (by omega) (by omega)
    obtain ⟨b1, b2, b3⟩ := z_278u hc hm hx (fun a0 a1 a2 a3 => p_278_29 f a0 a1 a2 a3) (fun a0 a1 a2 a3 => r_278_29 f a0 a1 a2 a3) (fun a0 a1 a2 a3 => m_278_29 f a0 a1 a2 a3) (nI r) (R r) (fun i => z_gp c (z_rA m x) (z_rE m x) (z_rw0 m x) i (R r)) (fun _ => rfl) c ux_fuel 0 (by omega) (by have := z_fuel; omega)
    have e1 : R (r + 1) = z_gp c (z_rA m x) (z_rE m x) (z_rw0 m x) c (R r) := by rw [hR, hR, z_gR]
    rw [← e1, z_nx] at b1 b2 b3
    rw [p_278_29, r_278_29, m_278_29, z_c1, z_tt_o (show ¬ 844257 = 1015937 by decide), hm, if_neg hlt, if_neg hlt]
    exact ⟨⟨z_v1, fun z => absurd z hlt, fun _ => b1 a1⟩, b2.trans a2, b3.trans a3⟩
theorem z_278z (hc : c ≤ 16) (hm : m 5 844257 0 1 = nI c) (hx : x = 0 ∨ x = 1) : ∀ n f i (T : Nat → Int32), i + n = c → n < f → (∀ d, d < i → T d = 0) → ∃ T0 T1 : Nat → Int32, (∀ d, d < c → T0 d = 0) ∧ p_278_4 f x 0 (nI i) (z_tt m 5 1015937 T)
    ∧ r_278_4 f x 0 (nI i) (z_tt m 5 1015937 T) = (z_gR c c (z_rA m x) (z_rE m x) (z_rw0 m x) T0 (c + 1)).2 ∧ m_278_4 f x 0 (nI i) (z_tt m 5 1015937 T) = z_tt m 5 1015937 T1 := by
  intro n
  induction n with
  | zero =>
    intro f i T hi hf hT
    obtain ⟨f, rfl⟩ : ∃ z, f = z + 1 := ⟨f - 1, by omega⟩
    have hle := z_yle (show c ≤ i by omega) (by omega)
    obtain ⟨b1, b2, b3⟩ := z_278r hc hm hx T (fun r => z_gR c c (z_rA m x) (z_rE m x) (z_rw0 m x) T r) (fun _ => rfl) (c + 1) ux_fuel 0 (by omega) (by have := z_fuel; omega)
    rw [p_278_4, r_278_4, m_278_4, z_c1, z_tt_o (show ¬ 844257 = 1015937 by decide), hm, if_pos hle, if_pos hle]
    exact ⟨T, _, fun d hd => hT d (by omega), ⟨z_v1, fun _ => b1, fun z => absurd hle z⟩, b2, b3⟩
  | succ n ih =>
    intro f i T hi hf hT
    obtain ⟨f, rfl⟩ : ∃ z, f = z + 1 := ⟨f - 1, by omega⟩
    have i16 : i < 16 := by omega
    have hle := z_nle (show i < c by omega) hc
    obtain ⟨T0, T1, a0, a1, a2, a3⟩ := ih f (i + 1) (z_up T i 0) (by omega) (by omega) (fun d hd => by
      by_cases q : d = i
      · subst q; exact z_upe
      · rw [z_upn q]; exact hT d (by omega))
    rw [p_278_4, r_278_4, m_278_4, z_c1, z_tt_o (show ¬ 844257 = 1015937 by decide), hm, if_neg hle, if_neg hle]
    simp only [z_cl i16, z_nx, z_tt_set, forall_eq]
    exact ⟨T0, T1, a0, ⟨z_v1, fun z => absurd z hle, fun _ => ⟨z_i16 i16, a1⟩⟩, a2, a3⟩
theorem z_278 (hc : c ≤ 16) (hm : m 5 844257 0 1 = nI c) (hx : x = 0 ∨ x = 1) : ∃ T0 T1 : Nat → Int32, (∀ d, d < c → T0 d = 0) ∧ p_278 x m
    ∧ r_278 x m = (z_gR c c (z_rA m x) (z_rE m x) (z_rw0 m x) T0 (c + 1)).2 ∧ m_278 x m = z_tt m 5 1015937 T1 := by
  have h := z_278z hc hm hx c ux_fuel 0 (m 5 1015937 0) (by omega) (by have := z_fuel; omega) (fun d hd => absurd hd (by omega))
  rw [z_tt_self] at h
  exact h
/-- both sides' sums -/
theorem z_sums (hx : x = 0 ∨ x = 1) (h1 : 1 ≤ c) (hR : z_R 99 b k c t B C m) (hT : z_tr k c C m) (hX : z_xt k c C m) (hy : ∀ w, w < 32 → bt y w = (decide (w < c) && z_rA m x w)) {W : Nat → Int32} (hW : ∀ d, d < c → z_rA m x d = true → W d = z_rw0 m x d) :
    ∃ T1 T2 : Nat → Int32, p_106 k y (z_tt C k 295041 W) ∧ p_278 x m ∧ r_106 k y (z_tt C k 295041 W) = r_278 x m ∧ m_106 k y (z_tt C k 295041 W) = z_tt (z_tt C k 295041 W) k 311425 T1 ∧ m_278 x m = z_tt m 5 1015937 T2 := by
  have hc := hR.1.le
  obtain ⟨Ta, T1, a0, a1, a2, a3⟩ := z_106 (z_tt C k 295041 W) k y
  obtain ⟨Tb, T2, b0, b1, b2, b3⟩ := z_278 hc hR.1.cn hx
  refine ⟨T1, T2, a1, b1, ?_, a3, b3⟩
  rw [a2, b2]
  have yb : ∀ w, 32 ≤ w → bt y w = false := fun w hw => b_big hw
  have eC : ∀ u v, u < 16 → v < 32 → z_cE (z_tt C k 295041 W) k y u v = (decide (u < c) && decide (v < c) && z_fe m v u && z_rA m x v) := fun u v hu hv => by
    unfold z_cE
    rw [z_tt_o (by decide), b_and, hX.2.1 u hu v hv, hy v hv]
    cases decide (u < c) <;> cases decide (v < c) <;> cases z_fe m v u <;> simp
  have eC0 : ∀ u v, c ≤ v → z_cE (z_tt C k 295041 W) k y u v = false := fun u v hv => by
    unfold z_cE
    rw [b_and]
    by_cases q : v < 32
    · rw [hy v q]; have : ¬ v < c := by omega
      simp [this]
    · rw [yb v (by omega)]; simp
  rw [z_gR.cut (c := c) (fun i hi => by
    by_cases q : i < 32
    · rw [hy i q]; have : ¬ i < c := by omega
      simp [this]
    · exact yb i (by omega)) eC0 hc]
  have q := z_gR.eq (c := c) (A := bt y) (A' := z_rA m x) (E := z_cE (z_tt C k 295041 W) k y) (E' := z_rE m x) (w := z_tt C k 295041 W k 295041 0) (w' := z_rw0 m x) (T0 := Ta) (T1 := Tb)
    (fun i hi => by rw [hy i (by omega)]; simp [hi])
    (fun i hi e => by rw [hy i (by omega)] at e; simp only [hi, decide_true, Bool.true_and] at e; rw [z_tt_g]; exact hW i hi e)
    (fun i hi e v hv => by
      rw [eC i v (by omega) (by omega)]
      simp only [hi, hv, decide_true, Bool.true_and]
      unfold z_rE z_rA
      cases f : z_fe m v i
      · simp
      · have n0 : ¬ r_208 (nI v) m = 0 := by
          unfold z_fe at f
          simp only [Bool.and_eq_true, decide_eq_true_eq] at f
          exact f.1.1.2
        simp [n0])
    (fun u hu => by rw [a0 u (by omega), b0 u hu]) 16
  rw [q.2]
  obtain ⟨an, an1, an2⟩ := z_anc hX.2.2
  have hE : ∀ u v, u < c → v < c → z_rA m x u = true → z_rE m x u v = true → an v < an u := fun u v hu hv _ e => by
    unfold z_rE at e
    simp only [Bool.and_eq_true] at e
    exact an1 u v hu hv ⟨hv, hu, e.2⟩
  have g1 := z_gRe (A := z_rA m x) (w := z_rw0 m x) (T0 := Tb) an hE an2 h1 (16 - c)
  have g2 := z_gRe (A := z_rA m x) (w := z_rw0 m x) (T0 := Tb) an hE an2 h1 1
  rw [show c + (16 - c) = 16 by omega] at g1
  exact g1.trans g2.symm
/-- PLANDEPTH: the longest chain -/
theorem z_depth (h1 : 1 ≤ c) (hR : z_R 99 b k c t B C m) (hT : z_tr k c C m) (hX : z_xt k c C m) :
    p_105 k C ∧ p_278 0 m ∧ r_105 k C = r_278 0 m ∧ (∃ W T1, m_105 k C = z_tt (z_tt C k 295041 W) k 311425 T1) ∧ ∃ T2, m_278 0 m = z_tt m 5 1015937 T2 := by
  have hc := hR.1.le
  have h := z_105 C k 16 ux_fuel 0 (C k 295041 0) (by omega) (by have := z_fuel; omega) (fun d hd => absurd hd (by omega))
  rw [z_tt_self] at h
  obtain ⟨W, a0, a1, a2, a3⟩ := h
  obtain ⟨T1, T2, b1, b2, b3, b4, b5⟩ := z_sums (x := 0) (.inl rfl) h1 hR hT hX (y := (C k 32805 0 0) ||| (C k 32805 0 2)) (fun w hw => by
    rw [b_or]
    obtain ⟨s1, s2, s3, s4, s5, s6, s7⟩ := hT w hw
    rw [s1, s3]
    by_cases q : w < c
    · obtain ⟨_, _, _, e⟩ := z_ttp hT q hc
      unfold z_rA
      rw [e]
      cases e1 : bt (m 5 950305 0 1) w <;> cases e2 : bt (m 5 950305 0 2) w <;> cases e3 : bt (m 5 950305 0 3) w <;> simp [q]
    · simp [q]) (W := W) (fun d hd e => by
    rw [a0 d (by omega)]
    unfold z_rw0
    rw [if_pos rfl, if_neg (fun z => by unfold z_rA at e; simp [z] at e)])
  exact ⟨a1 b1, b2, a2.trans b3, ⟨W, T1, a3.trans b4⟩, T2, b5⟩
/-- CRITICALTIME: the longest startup -/
theorem z_crit (h1 : 1 ≤ c) (hR : z_R 99 b k c t B C m) (hT : z_tr k c C m) (hX : z_xt k c C m) :
    p_142 k C ∧ p_278 1 m ∧ r_142 k C = r_278 1 m ∧ (∃ W T1, m_142 k C = z_tt (z_tt C k 295041 W) k 311425 T1) ∧ ∃ T2, m_278 1 m = z_tt m 5 1015937 T2 := by
  have hc := hR.1.le
  have h := z_142 C k 16 ux_fuel 0 (C k 295041 0) (by omega) (by have := z_fuel; omega) (fun d hd => absurd hd (by omega))
  rw [z_tt_self] at h
  obtain ⟨W, a0, a1, a2, a3⟩ := h
  obtain ⟨T1, T2, b1, b2, b3, b4, b5⟩ := z_sums (x := 1) (.inr rfl) h1 hR hT hX (y := C k 32805 0 0) (fun w hw => by
    obtain ⟨s1, s2, s3, s4, s5, s6, s7⟩ := hT w hw
    rw [s1]
    by_cases q : w < c
    · obtain ⟨_, _, _, e⟩ := z_ttp hT q hc
      unfold z_rA
      rw [e]
      cases e1 : bt (m 5 950305 0 1) w <;> cases e2 : bt (m 5 950305 0 2) w <;> cases e3 : bt (m 5 950305 0 3) w <;> simp [q, e1, e2, e3] at s4 s5 s6 ⊢
    · simp [q]) (W := W) (fun d hd e => by
    rw [a0 d (by omega)]
    unfold z_rw0 z_wC
    rw [if_neg (show ¬ (1 : Int32) = 0 by decide), hR.1.kd hd]
    have := hR.1.p0 hd
    rw [Nat.add_zero] at this
    rw [this])
  exact ⟨a1 b1, b2, a2.trans b3, ⟨W, T1, a3.trans b4⟩, T2, b5⟩
end ZK3
