/-! LOAD, 26: load -/
section ZLR
variable {M M' X Y C m m' : ux_M} {n N : Nat}
theorem z_Q.ld {Z : ux_M} (h : z_Q n M) (hS : z_ST 0 (n + 1) Z Z) (hnd : z_nd 0 Z) (e1 : Z 4 655365 0 1 = 0) (e8 : Z 5 819253 0 8 = 0) (el : Z 4 655365 0 2 = Z 5 819253 0 13) (f4 : ∀ i, i = 8 ∨ i = 9 → Z 4 655365 0 i = M 4 655365 0 i)
    (f23 : ∀ a, a = 2 ∨ a = 3 → ∀ s r i, Z a s r i = M a s r i) (f5 : ∀ s i, s = 893409 ∨ s = 909793 ∨ s = 917522 → Z 5 s 0 i = M 5 s 0 i) : z_Q (n + 1) Z :=
  ⟨hS, ⟨0, by omega, e1, e8, fun i hi => absurd hi (by omega)⟩, ⟨el, hnd⟩,
    h.2.2.2.1.fr2 (by omega) (f4 _ (by omega)) (f5 _ _ (by omega)) (fun s r i _ => f23 2 (.inl rfl) s r i) (fun i => f5 _ _ (by omega)),
    h.2.2.2.2.fr2 (by omega) (f4 _ (by omega)) (f5 _ _ (by omega)) (fun s r i _ => f23 3 (.inr rfl) s r i) (fun i => f5 _ _ (by omega))⟩
theorem z_f_7 (h : z_Q n M) : z_op n M p_7 r_7 m_7 p_149 r_149 m_149 := by
  obtain ⟨N, n0, n1, n2, n3⟩ := h.2.1
  have hf := z_fuel
  have h10 : ¬ (1 : Int32) = 0 := by decide
  obtain ⟨A, eA⟩ : ∃ y, y = ux_set M 4 655365 0 1 0 := ⟨_, rfl⟩
  obtain ⟨E, eE⟩ : ∃ y, y = m_8 (nI N) A := ⟨_, rfl⟩
  obtain ⟨M5, e5⟩ : ∃ y, y = ux_set E 4 655365 0 2 (E 4 671757 0 6) := ⟨_, rfl⟩
  obtain ⟨K, eK⟩ : ∃ y, y = m_7 M := ⟨_, rfl⟩
  have fE : z_gC 4 A E := by rw [eE]; exact fc_8 (nI N) A
  have eK2 : K = if r_8 (nI N) A = 0 then M5 else m_28 0 M5 := by
    rw [eK, e5, eE, eA, ← n1]; rfl
  have er7 : r_7 M = if r_8 (nI N) A = 0 then (((-100) : Int32) - (M5 4 671757 0 7)) else ((m_28 0 M5) 0 344085 0 0) := by
    rw [e5, eE, eA, ← n1]; rfl
  obtain ⟨b1, b2, b3, b4, b5, b6, b7⟩ := z_28 (k := 0) (by decide) M5
  have o5 : ∀ a s r i, ¬ (a = 4) → M5 a s r i = M a s r i := fun a s r i q => by
    rw [e5, z_sk q, fE a s r i (fun z => q z.1), eA, z_sk q]
  have oK : ∀ a s r i, ¬ a = 4 → ¬ a = 0 → K a s r i = M a s r i := fun a s r i q q0 => by
    rw [eK2]
    by_cases z : r_8 (nI N) A = 0
    · rw [if_pos z]; exact o5 a s r i q
    · rw [if_neg z, b2 a s r i q0]; exact o5 a s r i q
  have oK4 : ∀ s r i, K 4 s r i = M5 4 s r i := fun s r i => by
    rw [eK2]
    by_cases z : r_8 (nI N) A = 0
    · rw [if_pos z]
    · rw [if_neg z, b2 4 s r i (by decide)]
  have nS : ¬ z_cS 655365 := by unfold z_cS; omega
  have k4 : ∀ i, ¬ i = 1 → ¬ i = 2 → K 4 655365 0 i = M 4 655365 0 i := fun i q1 q2 => by
    rw [oK4, e5, z_si q2, fE 4 655365 0 i (fun z => nS z.2), eA, z_si q1]
  have k41 : K 4 655365 0 1 = 0 := by
    rw [oK4, e5, z_si (by decide), fE 4 655365 0 1 (fun z => nS z.2), eA, z_ss]
  have k42 : K 4 655365 0 2 = E 4 671757 0 6 := by rw [oK4, e5, z_ss]
  -- the reference begins
  obtain ⟨Z0, eZ0⟩ : ∃ y, y = z_tt (z_th K 0) 5 877025 (fun d => if 0 ≤ d ∧ d < 1084 then 0 else (z_th K 0) 5 877025 0 d) := ⟨_, rfl⟩
  obtain ⟨s1, s2, s3⟩ := z_149l (z_th K 0) 1084 ux_fuel 0 ((z_th K 0) 5 877025 0) (by omega) (by omega)
  rw [z_tt_self, ← eZ0] at s1 s2 s3
  obtain ⟨ms, ems⟩ : ∃ y, y = ux_set (ux_set Z0 5 819253 0 9 0) 5 819253 0 12 0 := ⟨_, rfl⟩
  have hle : (1084 : Int32) ≤ nI 1084 := (z_le (a := 1084) (by omega) (by omega)).mpr (by omega)
  obtain ⟨F, eF⟩ : ∃ y, y = m_150 ms := ⟨_, rfl⟩
  obtain ⟨M8, e8⟩ : ∃ y, y = ux_set (ux_set F 5 819253 0 8 0) 5 819253 0 13 ((ux_set F 5 819253 0 8 0) 5 819253 0 12) := ⟨_, rfl⟩
  have em : m_149 K = if r_150 ms = 0 then M8 else m_173c M8 := by
    have z : m_149 K = m_149_7 ux_fuel (nI 0) (z_th K 0) := rfl
    rw [z, s3, m_149_7, if_pos hle, e8, eF, ems]
  have er : r_149 K = if r_150 ms = 0 then (((-100) : Int32) - (M8 5 819253 0 11)) else ((m_173c M8) 5 844257 0 1) := by
    have z : r_149 K = r_149_7 ux_fuel (nI 0) (z_th K 0) := rfl
    rw [z, s2, r_149_7, if_pos hle, e8, eF, ems, z_c1]
  have ep : p_150 ms → p_149 K := fun z => by
    have g : p_149_7 (0 + 1) (nI 1084) Z0 := by
      rw [p_149_7]
      refine ⟨fun _ _ q2 _ q3 => ?_, fun q => absurd hle q⟩
      subst q2; rw [← ems] at q3; subst q3
      exact ⟨z, fun _ q7 _ q8 => ⟨fun _ => ⟨(z_173c _).1, z_v1⟩, fun _ => trivial⟩⟩
    intro _ q; rw [q]; exact s1 g
  -- what the reference's memory is
  have oms : ∀ a s r i, ¬ (a = 5 ∧ (s = 877025 ∨ (s = 819253 ∧ (i = 6 ∨ i = 9 ∨ i = 12)))) → ms a s r i = K a s r i := fun a s r i q => by
    rw [ems, z_set, if_neg (by omega), z_set, if_neg (by omega), eZ0]
    unfold z_tt z_th
    rw [if_neg (by omega), z_set, if_neg (by omega)]
  have fF : z_gD ms F := by rw [eF]; exact fd_150 ms
  have nD : ∀ s i, ¬ (s = 877025 ∨ (s = 819253 ∧ 9 ≤ i ∧ i ≤ 14)) → ¬ z_dS s i := fun s i q z => q z
  have o8 : ∀ a s r i, ¬ (a = 5 ∧ (s = 877025 ∨ (s = 819253 ∧ 6 ≤ i ∧ i ≤ 14))) → M8 a s r i = K a s r i := fun a s r i q => by
    rw [e8, z_set, if_neg (by omega), z_set, if_neg (by omega), fF a s r i (fun z => q ⟨z.1, z.2.elim .inl (fun w => .inr ⟨w.1, by omega, w.2.2⟩)⟩)]
    exact oms a s r i (by omega)
  have g9 : ms 5 819253 0 9 = nI 0 := by rw [ems, z_si (by decide), z_ss]; rfl
  have g12 : ms 5 819253 0 12 = 0 := by rw [ems, z_ss]
  have g6 : ms 5 819253 0 6 = 0 := by
    rw [ems, z_si (by decide), z_si (by decide), eZ0, z_tt_o (by decide)]; exact z_th6
  have gz : ∀ i, i < 1084 → ms 5 877025 0 i = 0 := fun i hi => by
    rw [ems, z_so (by decide), z_so (by decide), eZ0, z_tt_g, if_pos ⟨Nat.zero_le _, hi⟩]
  have rd : z_rd5 ms (M 4 694529 0) N := ⟨n0, by
    rw [oms 5 819253 0 8 (by omega), oK 5 819253 0 8 (by decide) (by decide)]; exact n2, fun i hi => by
    rw [oms 5 940289 0 i (by omega), oK 5 940289 0 i (by decide) (by decide)]; exact (n3 i hi).1.symm⟩
  obtain ⟨C, p, c1, c2, c3, c4, c5⟩ := z_cst (M := A) (T := M 4 694529 0) n0 (fun i _ => by rw [eA, z_so (by decide)]) rd g9 g12 gz
  have pN := c4.le.1
  have hTT : ∀ j, j < N → ¬ M 4 694529 0 j = -1 := fun j hj => by
    obtain ⟨_, b, _, hb, e⟩ := n3 j hj
    rw [e]; exact z_nneg (by omega)
  obtain ⟨l1, l2, l3, l4⟩ := z_8l (T := M 4 694529 0) hTT (fun X => (z_27 X).1) (N - p) p 0 0 ux_fuel ux_fuel 0 C ms (by omega) (by omega) (by omega) (by omega) c4 c5
  have q150 : p_150 ms := ⟨l2, l3, fun _ => trivial⟩
  have l4' : z_lpo (M 4 694529 0) N (r_8 (nI N) A) E (r_150 ms) F := by
    rw [c2, eE, c3, eF]; exact l4
  have p8 : p_8 (nI N) A := c1 True trivial l1
  have ep7 : ∀ (_ : r_8 (nI N) A = 0 ∨ ¬ r_8 (nI N) A = 0), p_7 M := fun _ => by
    intro M1 q1
    rw [n1]
    rw [← eA] at q1
    subst q1
    refine ⟨p8, fun M5' q5 => ⟨fun _ => ?_, fun _ => trivial⟩⟩
    rw [← eE] at q5
    rw [← e5] at q5
    subst q5; exact b1
  have t6 : M8 5 819253 0 6 = 0 := by
    rw [e8, z_si (by decide), z_si (by decide), fF 5 819253 0 6 (fun z => nD 819253 6 (by omega) z.2)]; exact g6
  have t8 : M8 5 819253 0 8 = 0 := by rw [e8, z_si (by decide), z_ss]
  have t13 : M8 5 819253 0 13 = F 5 819253 0 12 := by rw [e8, z_ss, z_si (by decide)]
  have t11 : M8 5 819253 0 11 = F 5 819253 0 11 := by rw [e8, z_si (by decide), z_si (by decide)]
  have f23 : ∀ a, a = 2 ∨ a = 3 → ∀ s r i, M8 a s r i = M a s r i := fun a ha s r i => by
    rw [o8 a s r i (by omega), oK a s r i (by omega) (by omega)]
  have f5 : ∀ s i, s = 844257 ∨ s = 893409 ∨ s = 909793 ∨ s = 917522 → M8 5 s 0 i = M 5 s 0 i := fun s i hs => by
    rw [o8 5 s 0 i (by omega), oK 5 s 0 i (by omega) (by omega)]
  have f4 : ∀ s r i, M8 4 s r i = K 4 s r i := fun s r i => o8 4 s r i (by omega)
  refine ⟨ep7 (Classical.em _), ?_, ?_, ?_, ?_⟩
  · rw [← eK]; exact ep q150
  · rw [← eK, er, er7]
    rcases l4' with ⟨r1, r2, c', C1, d1, d2, d3, d4, d5, d6⟩ | ⟨r1, r2, d1, d2, d3⟩
    · rw [r1, r2, if_neg h10, if_neg h10]
      have d1' : E = m_27 4 C1 := d1
      rw [b3 344085 0 0 (.inr (.inr ⟨rfl, by omega⟩)) (by omega), e5, z_so (by decide), d1', z_gEo (z_27 C1).2.1 (by decide), d6.1.2.2.2.1, (z_173c M8).2, z_tt_g, if_pos (by omega), e8, z_so (by decide), z_so (by decide), d6.1.2.2.2.2.1]
    · rw [r1, r2, if_pos rfl, if_pos rfl, t11, e5, z_so (by decide), d3]
  · rw [← eK, em]
    by_cases q : r_150 ms = 0
    · rw [if_pos q]; exact t6
    · rw [if_neg q, (z_173c M8).2, z_tt_o (by decide)]; exact t6
  · rw [← eK, em]
    rcases l4' with ⟨r1, r2, c', C1, d1, d2, d3, d4, d5, d6⟩ | ⟨r1, r2, d1, d2, d3⟩
    · rw [r2, if_neg h10, (z_173c M8).2]
      have d1' : E = m_27 4 C1 := d1
      have dE := (z_27 C1).2.1
      obtain ⟨Z, eZ⟩ : ∃ y, y = z_tt M8 5 844257 (fun d => if d < 1084 then M8 5 877025 0 d else M8 5 844257 0 d) := ⟨_, rfl⟩
      rw [← eZ]
      have oZ : ∀ a s r i, ¬ (a = 5 ∧ s = 844257) → Z a s r i = M8 a s r i := fun a s r i q => by
        rw [eZ]; unfold z_tt; rw [if_neg (fun z => q ⟨z.1, z.2.1⟩)]
      have eK3 : K = m_28 0 M5 := by rw [eK2, r1, if_neg h10]
      have Z0' : ∀ s r i, Z 0 s r i = m_28 0 M5 0 s r i := fun s r i => by rw [oZ 0 s r i (by omega), o8 0 s r i (by omega), eK3]
      obtain ⟨w1, w2, w3⟩ := z_fresh (k := 0) (M := Z) (m' := Z) d6 (fun s r i q hs => by
          have s6 := z_rq6 q
          rw [Z0', b3 s r i q hs, e5, z_so (by omega), d1']) (fun i hi => by
          rw [eZ, z_tt_g, if_pos hi, e8, z_so (by decide), z_so (by decide)]) (fun s i hs hi => (Z0' s 0 i).trans (b4 s i hs hi)) (fun i hi => (Z0' _ _ _).trans (b5 i hi)) ⟨(Z0' _ _ _).trans b6.1, (Z0' _ _ _).trans b6.2.1, (Z0' _ _ _).trans b6.2.2⟩ (fun i hi => (Z0' _ _ _).trans (b7 i hi))
      refine h.ld ⟨c', 0, 0, by omega, by omega, w1, w2⟩ w3 ?_ ?_ ?_ (fun i hi => ?_) (fun a ha s r i => ?_) (fun s i hs => ?_)
      · rw [oZ 4 655365 0 1 (by omega), f4]; exact k41
      · rw [oZ 5 819253 0 8 (by omega)]; exact t8
      · rw [oZ 4 655365 0 2 (by omega), f4, k42, oZ 5 819253 0 13 (by omega), t13, d3, d1', dE 4 671757 0 6 (by omega)]; exact d2
      · rw [oZ 4 655365 0 i (by omega), f4]; exact k4 i (by omega) (by omega)
      · rw [oZ a s r i (by omega)]; exact f23 a ha s r i
      · rw [oZ 5 s 0 i (by omega)]; exact f5 s i (by omega)
    · rw [r2, if_pos rfl]
      have eK3 : K = M5 := by rw [eK2, r1, if_pos rfl]
      have o0 : ∀ s r i, M8 0 s r i = M 0 s r i := fun s r i => by rw [o8 0 s r i (by omega), eK3]; exact o5 0 s r i (by decide)
      refine h.ld ((h.1.mono (by omega)).cg (fun s r i _ => o0 s r i) (fun i => f5 _ _ (by omega))) (h.2.2.1.2.rd (fun s r i _ => o0 s r i)) ?_ t8 ?_ (fun i hi => ?_) f23 (fun s i hs => f5 s i (by omega))
      · rw [f4]; exact k41
      · rw [f4, k42, t13]; exact d2
      · rw [f4]; exact k4 i (by omega) (by omega)
end ZLR
