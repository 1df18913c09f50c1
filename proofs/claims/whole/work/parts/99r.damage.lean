/-! PREDICTIONS: damageOf, weakest -/
section ZP3
variable {k c t B B' b u n s x t0 T : Nat} {M M' M1 M2 C X m m' mx m0 m1 : ux_M} {y z v w j : Int32}
theorem z_290l {d : Nat} (hd : d ≤ 1000) : ∀ (n f i : Nat) (x3 : Int32) (m : ux_M), i + n = d → n < f → z_ptk n m → p_259 2 (z_tk n m) → p_290_36 f (nI d) x3 (nI i) m ∧ r_290_36 f (nI d) x3 (nI i) m = (x3 &&& (r_259 2 (z_tk n m) ^^^ ((-1) : Int32))) ∧ m_290_36 f (nI d) x3 (nI i) m = m_173b (z_tk n m) := by
  intro n
  induction n with
  | zero =>
    intro f i x3 m hi hf _ hp
    obtain ⟨f, rfl⟩ : ∃ g, f = g + 1 := ⟨f - 1, by omega⟩
    have hle : nI d ≤ nI i := (z_le (by omega) (by omega)).mpr (by omega)
    rw [p_290_36, r_290_36, m_290_36, if_pos hle, if_pos hle]
    exact ⟨⟨fun _ => ⟨hp, (z_173b m).1⟩, fun z => absurd hle z⟩, rfl, rfl⟩
  | succ n ih =>
    intro f i x3 m hi hf hp hq
    obtain ⟨f, rfl⟩ : ∃ g, f = g + 1 := ⟨f - 1, by omega⟩
    have hle : ¬ nI d ≤ nI i := fun z => by have := (z_le (by omega) (by omega)).mp z; omega
    obtain ⟨a1, a2, a3⟩ := ih f (i + 1) x3 (m_177 m) (by omega) (by omega) hp.2 hq
    rw [p_290_36, r_290_36, m_290_36, if_neg hle, if_neg hle, z_nx]
    exact ⟨⟨fun z => absurd z hle, fun _ => ⟨hp.1, a1⟩⟩, a2, a3⟩
/-- a crash in the trial world -/
theorem z_dam (h : z_R 99 16 0 c t B C m) (hs : z_stable c m) (hu : u < c) (ht : t ≤ 1000000) (hB : B + 900000 < 1999999999) (hst : z_Y m 28 u = 1 ∨ z_Y m 28 u = 2) :
    p_45 1 0 C ∧ p_91 1 (nI u) 1 (m_45 1 0 C) ∧ p_78 1 (m_91 1 (nI u) 1 (m_45 1 0 C)) ∧ (∀ a s r i, ¬ a = 1 → m_78 1 (m_91 1 (nI u) 1 (m_45 1 0 C)) a s r i = C a s r i) ∧ p_271 (nI u) 1 (m_173a m)
    ∧ z_R 99 16 1 c t (B + 800) (m_78 1 (m_91 1 (nI u) 1 (m_45 1 0 C))) (m_271 (nI u) 1 (m_173a m)) ∧ z_stable c (m_271 (nI u) 1 (m_173a m)) := by
  obtain ⟨a1, a2, a3, a4⟩ := z_try2 h hs
  have st' : z_Y (m_173a m) 28 u = 1 ∨ z_Y (m_173a m) 28 u = 2 := by
    have e : z_Y (m_173a m) 28 u = z_Y m 28 u := z_row_a _
    rw [e]; exact hst
  obtain ⟨k1, k2, k3, k4, k5⟩ := a3.kll (by omega) hu st' 1
  exact ⟨a1, k1, k2, fun a s r i q => (fa_78 1 _ a s r i (fun z => q z.1)).trans ((fa_91 1 _ _ _ a s r i (fun z => q z.1)).trans (a2 a s r i q)), k3, k4, k5⟩
/-- damageOf -/
theorem z_f_140 (h : z_Q n M) (hn : n ≤ 600) (hx : z_iu M y) (hz : z_rg z 0 200) : z_op n M (p_140 y z) (r_140 y z) (m_140 y z) (p_289 y z) (r_289 y z) (m_289 y z) := by
  obtain ⟨c, t, B, u, ht, hB, hR, hs, hc, hu, h16, rfl⟩ := h.un hx
  obtain ⟨D, hD, rfl⟩ := nI_of2 (n := 200) (M := 200) (x := z) (by decide) hz.1 hz.2
  have g := (z_i64g (nI D) 0 200 (L := Int64.ofNat 200) (by decide)).mpr hz
  obtain ⟨_, c45, _⟩ := z_45 (k := 1) (k2 := 0) (by decide) M
  have f1 : ∀ a s r i, ¬ a = 1 → m_140 (nI u) (nI D) M a s r i = M a s r i := fun a s r i q => by
    unfold m_140
    split
    · exact (fa_50 1 _ _ a s r i (fun z => q z.1)).trans ((fa_78 1 _ a s r i (fun z => q z.1)).trans ((fa_91 1 _ _ _ a s r i (fun z => q z.1)).trans (c45 a s r i q)))
    · rfl
  have row : ∀ i, z_th (m_140 (nI u) (nI D) M) 0 5 844257 0 i = M 5 844257 0 i := fun i => (z_thI i).trans (f1 _ _ _ _ (by omega))
  obtain ⟨e1, e2, e3⟩ := z_235i hc ((f1 5 844257 0 1 (by omega)).trans hR.1.cn) hu
  obtain ⟨a1, a2, a3⟩ := z_176a (M := z_th (m_140 (nI u) (nI D) M) 0) z_th6 2
  have hR0 : z_R 99 16 0 c t B M (z_th (m_140 (nI u) (nI D) M) 0) := hR.cg (fun _ _ _ _ => rfl) row
  have hs0 := z_219c hR.1 hR0.1 row hs
  obtain ⟨b1, b2⟩ := z_270 hR0 hu
  have cond : ((M 0 360577 0 u = 0) ∧ ((M 0 65665 0 u = 1) ∨ (M 0 65665 0 u = 2))) ↔ (z_Y (z_th (m_140 (nI u) (nI D) M) 0) 0 u = 0 ∧ (z_Y (z_th (m_140 (nI u) (nI D) M) 0) 28 u = 1 ∨ z_Y (z_th (m_140 (nI u) (nI D) M) 0) 28 u = 2)) := by
    rw [hR0.1.kd hu, hR0.1.d28 hu]
  have mr : m_289 (nI u) (nI D) (m_140 (nI u) (nI D) M) = m_290 (nI u) (nI D) (z_th (m_140 (nI u) (nI D) M) 0) := by
    unfold m_289 m_289_26; rw [if_pos e2, if_pos g, e3, if_pos a2, a3]
  have rr : r_289 (nI u) (nI D) (m_140 (nI u) (nI D) M) = r_290 (nI u) (nI D) (z_th (m_140 (nI u) (nI D) M) 0) := by
    unfold r_289 r_289_26; rw [if_pos e2, if_pos g, e3, if_pos a2, a3]
  have pp : p_290 (nI u) (nI D) (z_th (m_140 (nI u) (nI D) M) 0) → p_289 (nI u) (nI D) (m_140 (nI u) (nI D) M) := fun q => by
    unfold p_289 p_289_26; rw [e3, a2, a3]
    exact ⟨e1, fun q => absurd e2 q, fun _ => ⟨fun _ => ⟨a1, fun _ => q, fun q => absurd rfl q⟩, fun q => absurd g q⟩⟩
  by_cases q : (M 0 360577 0 u = 0) ∧ ((M 0 65665 0 u = 1) ∨ (M 0 65665 0 u = 2))
  · have q' := cond.mp q
    have nz : ¬ r_270 (nI u) (z_th (m_140 (nI u) (nI D) M) 0) = 0 := fun z' => (b2.mp z') q'
    obtain ⟨k1, k2, k3, k4, k5, k6, k7⟩ := z_dam hR0 hs0 hu ht (by omega) q'.2
    obtain ⟨g1, g2, g3, g4⟩ := z_passes k6 k7 (D := D) (by omega) (by omega) (by omega)
    obtain ⟨l1, l2, l3⟩ := z_290l (show D ≤ 1000 by omega) D ux_fuel 0 (r_259 2 (z_th (m_140 (nI u) (nI D) M) 0)) (m_271 (nI u) 1 (m_173a (z_th (m_140 (nI u) (nI D) M) 0))) (by omega) (by have := z_fuel; omega) g2 (z_p259 g3.1 2)
    have nw : m_78 1 (m_91 1 (nI u) 1 (m_45 1 0 M)) 1 16413 0 3 + nI D = nI (t + D) := by rw [k6.1.nw, z_add]
    obtain ⟨Z, eZ⟩ : ∃ Z, Z = m_50 1 (nI (t + D)) (m_78 1 (m_91 1 (nI u) 1 (m_45 1 0 M))) := ⟨_, rfl⟩
    rw [← eZ] at g3
    have hZ0 : z_R 99 16 0 c t B Z (z_th (m_140 (nI u) (nI D) M) 0) := hR0.cg (fun s r i _ => by rw [eZ]; exact (fa_50 1 _ _ 0 s r i (fun z => by omega)).trans (k4 0 s r i (by omega))) (fun _ => rfl)
    have m290 : m_290 (nI u) (nI D) (z_th (m_140 (nI u) (nI D) M) 0) = m_173b (z_tk D (m_271 (nI u) 1 (m_173a (z_th (m_140 (nI u) (nI D) M) 0)))) := by
      unfold m_290; rw [if_neg nz]; exact l3
    obtain ⟨r1, r2⟩ := z_rest (m0 := z_th (m_140 (nI u) (nI D) M) 0) ((fb_271 _ _ _).tr (fb_tk D _))
    rw [← m290, ← mr] at r1 r2
    obtain ⟨d1, d2⟩ := h.prd f1 r1 (fun i hi => (r2 i hi).trans (row i))
    refine ⟨?_, pp ?_, ?_, d1, d2⟩
    · unfold p_140; rw [z_cl h16, nw, ← eZ]
      exact ⟨z_p93 hx, z_p96 hz, z_i16 h16, fun _ => ⟨k1, k2, k3, g1, z_p43 hZ0.1 hZ0.2 _, z_p43 g3.1 g3.2 _⟩, fun z => absurd q z⟩
    · unfold p_290; exact ⟨b1, fun _ => ⟨z_p259 hR0.1 2, (z_173a _).1, k5, l1⟩, fun z => absurd z nz⟩
    · rw [rr]; unfold r_140 r_290; rw [z_cl h16, if_pos q, if_neg nz, nw, ← eZ, z_in2 hZ0, z_in2 g3]; exact l2.symm
  · have q' := fun z' => q (cond.mpr z')
    have nz : r_270 (nI u) (z_th (m_140 (nI u) (nI D) M) 0) = 0 := b2.mpr q'
    have m290 : m_290 (nI u) (nI D) (z_th (m_140 (nI u) (nI D) M) 0) = z_th (m_140 (nI u) (nI D) M) 0 := by unfold m_290; rw [if_pos nz]
    rw [m290] at mr
    obtain ⟨d1, d2⟩ := h.prd (M2 := m_289 (nI u) (nI D) (m_140 (nI u) (nI D) M)) f1 (fun a s r i _ => by rw [mr]) (fun i _ => by rw [mr]; exact row i)
    refine ⟨?_, pp ?_, ?_, d1, d2⟩
    · unfold p_140; rw [z_cl h16]; exact ⟨z_p93 hx, z_p96 hz, z_i16 h16, fun z => absurd z q, fun _ => trivial⟩
    · unfold p_290; exact ⟨b1, fun z => absurd nz z, fun _ => trivial⟩
    · rw [rr]; unfold r_140 r_290; rw [z_cl h16, if_neg q, if_pos nz]
theorem z_g_289 (h : z_Q n M) (hx : ¬ z_iu M y) : z_thr n M (p_289 y z) (m_289 y z) 1 := by
  obtain ⟨e1, e2, e3⟩ := h.o hx
  have e0 : ¬ r_235 y M = 0 := by rw [e2]; decide
  refine .th h ?_ ?_
  · unfold p_289; exact ⟨e1, fun _ => trivial, fun q => absurd q e0⟩
  · unfold m_289; rw [if_neg e0, e3]
theorem z_g_289b (h : z_Q n M) (hx : z_iu M y) (hz : ¬ z_rg z 0 200) : z_thr n M (p_289 y z) (m_289 y z) 2 := by
  obtain ⟨c, t, B, u, ht, hB, hR, hs, hc, hu, h16, rfl⟩ := h.un hx
  obtain ⟨e1, e2, e3⟩ := z_235i hc hR.1.cn hu
  have g := fun q => hz ((z_i64g z 0 200 (L := Int64.ofNat 200) (by decide)).mp q)
  obtain ⟨a1, a2, a3⟩ := z_176b (M := z_th M 0) z_th6 (b := 2) (by decide)
  rw [z_thth] at a3
  have a0 : ¬ r_176 1 2 (z_th M 0) = 0 := by rw [a2]; decide
  refine .th h ?_ ?_
  · unfold p_289 p_289_26; rw [e3]; exact ⟨e1, fun q => absurd e2 q, fun _ => ⟨fun q => absurd q g, fun _ => ⟨a1, fun q => absurd q a0, fun _ => trivial⟩⟩⟩
  · unfold m_289 m_289_26; rw [if_pos e2, if_neg g, e3, if_neg a0, a3]
/-- counting bits -/
theorem z_292l (x : Int32) (m : ux_M) : ∀ (n f i acc : Nat), i + n = 16 → n < f → p_292_4 f x (nI acc) (nI i) m ∧ ∃ N, r_292_4 f x (nI acc) (nI i) m = nI N ∧ N + z_pop x i = acc + z_pop x 16 := by
  intro n
  induction n with
  | zero =>
    intro f i acc hi hf
    obtain ⟨f, rfl⟩ : ∃ g, f = g + 1 := ⟨f - 1, by omega⟩
    have hle : (16 : Int32) ≤ nI i := (z_le (a := 16) (by omega) (by omega)).mpr (by omega)
    rw [p_292_4, r_292_4, if_pos hle]
    exact ⟨⟨fun _ => trivial, fun z => absurd hle z⟩, acc, rfl, by rw [show i = 16 by omega]⟩
  | succ n ih =>
    intro f i acc hi hf
    obtain ⟨f, rfl⟩ : ∃ g, f = g + 1 := ⟨f - 1, by omega⟩
    have hle : ¬ (16 : Int32) ≤ nI i := fun z => by have := (z_le (a := 16) (by omega) (by omega)).mp z; omega
    have e : nI acc + ((x >>> (nI i &&& 31)) &&& (1 : Int32)) = nI (acc + (if bt x i then 1 else 0)) := by
      rw [z_shr01 x (by omega)]
      cases bt x i
      · exact z_add acc 0
      · exact z_add acc 1
    obtain ⟨r1, N, r2, r3⟩ := ih f (i + 1) (acc + (if bt x i then 1 else 0)) (by omega) (by omega)
    rw [p_292_4, r_292_4, if_neg hle, e, z_nx]
    refine ⟨⟨fun z => absurd z hle, fun _ => r1⟩, N, r2, ?_⟩
    rw [z_pop] at r3
    omega
theorem z_292 (x : Int32) (m : ux_M) (hx : ∀ w, 16 ≤ w → w < 32 → bt x w = false) : p_292 x m ∧ ux_bc x = r_292 x m := by
  obtain ⟨r1, N, r2, r3⟩ := z_292l x m 16 ux_fuel 0 0 (by omega) (by have := z_fuel; omega)
  have e0 : z_pop x 0 = 0 := rfl
  have e : r_292 x m = nI N := r2
  rw [e, z_bc x hx]
  exact ⟨r1, by congr 1; omega⟩
/-- weakest, unit by unit -/
theorem z_wkl (hR : z_R 99 16 0 c t B M m0) (hs : z_stable c m0) (ht : t ≤ 1000000) (hB : B + 900000 < 1999999999) : ∀ (n f f' i : Nat) (x1 x2 : Int32) (C m : ux_M), i + n = c → n < f → n < f' →
    (∀ a s r i, ¬ a = 1 → C a s r i = M a s r i) → (∀ i, i < 1084 → m 5 844257 0 i = m0 5 844257 0 i) →
    p_89_6 f x1 x2 (nI i) C ∧ p_291_11 f' x1 x2 (nI i) m ∧ r_89_6 f x1 x2 (nI i) C = r_291_11 f' x1 x2 (nI i) m ∧ (∀ a s r i', ¬ a = 1 → m_89_6 f x1 x2 (nI i) C a s r i' = M a s r i')
      ∧ (∀ j, j < 1084 → m_291_11 f' x1 x2 (nI i) m 5 844257 0 j = m0 5 844257 0 j) ∧ ∀ a s r j, ¬ (a = 5 ∧ (z_bS s j ∨ s = 860641)) → m_291_11 f' x1 x2 (nI i) m a s r j = m a s r j := by
  intro n
  induction n with
  | zero =>
    intro f f' i x1 x2 C m hi hf hf' hC hm
    obtain ⟨f, rfl⟩ : ∃ g, f = g + 1 := ⟨f - 1, by omega⟩
    obtain ⟨f', rfl⟩ : ∃ g, f' = g + 1 := ⟨f' - 1, by omega⟩
    have hle := z_yle (show c ≤ i by omega) (by have := hR.1.le; omega)
    have c1 : C 0 344085 0 0 = nI c := (hC _ _ _ _ (by omega)).trans hR.1.cnt
    have c2 : m 5 844257 0 1 = nI c := (hm 1 (by omega)).trans hR.1.cn
    rw [p_89_6, p_291_11, r_89_6, r_291_11, m_89_6, m_291_11, z_c1, c1, c2, if_pos hle, if_pos hle, if_pos hle, if_pos hle]
    exact ⟨⟨fun _ => trivial, fun z => absurd hle z⟩, ⟨z_v1, fun _ => trivial, fun z => absurd hle z⟩, rfl, hC, hm, fun _ _ _ _ _ => rfl⟩
  | succ n ih =>
    intro f f' i x1 x2 C m hi hf hf' hC hm
    obtain ⟨f, rfl⟩ : ∃ g, f = g + 1 := ⟨f - 1, by omega⟩
    obtain ⟨f', rfl⟩ : ∃ g, f' = g + 1 := ⟨f' - 1, by omega⟩
    have hc := hR.1.le
    have ic : i < c := by omega
    have i16 : i < 16 := by omega
    have hle := z_nle ic hc
    have c1 : C 0 344085 0 0 = nI c := (hC _ _ _ _ (by omega)).trans hR.1.cnt
    have c2 : m 5 844257 0 1 = nI c := (hm 1 (by omega)).trans hR.1.cn
    have h : z_R 99 16 0 c t B C m := hR.cg2 (k' := 0) (fun s r i _ => hC 0 s r i (by omega)) hm
    have hs' : z_stable c m := z_219d hR.1 h.1 (fun j _ hj => hm j hj) hs
    obtain ⟨b1, b2⟩ := z_270 h ic
    have cond : ((C 0 360577 0 i = 0) ∧ ((C 0 65665 0 i = 1) ∨ (C 0 65665 0 i = 2))) ↔ (z_Y m 0 i = 0 ∧ (z_Y m 28 i = 1 ∨ z_Y m 28 i = 2)) := by
      rw [h.1.kd ic, h.1.d28 ic]
    have tot : ∀ a b : Int32, (a ≤ b → ¬ b < a) ∧ (¬ a ≤ b → b < a) := fun a b => by
      rw [Int32.le_iff_toInt_le, Int32.lt_iff_toInt_lt]; omega
    rw [p_89_6, p_291_11, r_89_6, r_291_11, m_89_6, m_291_11, z_c1, c1, c2, if_neg hle, if_neg hle, if_neg hle, if_neg hle, z_cl i16, z_nx]
    by_cases q : (C 0 360577 0 i = 0) ∧ ((C 0 65665 0 i = 1) ∨ (C 0 65665 0 i = 2))
    · have q' := cond.mp q
      have nz : ¬ r_270 (nI i) m = 0 := fun z' => (b2.mp z') q'
      obtain ⟨k1, k2, k3, k4, k5, k6, k7⟩ := z_dam h hs' ic ht hB q'.2
      obtain ⟨Z, eZ⟩ : ∃ Z, Z = m_78 1 (m_91 1 (nI i) 1 (m_45 1 0 C)) := ⟨_, rfl⟩
      rw [← eZ] at k4 k6 ⊢
      have hZ0 : z_R 99 16 0 c t B Z m := h.cg (fun s r i _ => k4 0 s r i (by omega)) (fun _ => rfl)
      obtain ⟨l1, l2, l3⟩ := z_290l (d := 0) (by omega) 0 ux_fuel 0 (r_259 2 m) (m_271 (nI i) 1 (m_173a m)) (by omega) (by have := z_fuel; omega) trivial (z_p259 k6.1 2)
      have m290 : m_290 (nI i) 0 m = m_173b (m_271 (nI i) 1 (m_173a m)) := by unfold m_290; rw [if_neg nz]; exact l3
      have r290 : r_290 (nI i) 0 m = (r_43 0 4 Z &&& (r_43 1 4 Z ^^^ ((-1) : Int32))) := by
        unfold r_290; rw [if_neg nz, z_in2 hZ0, z_in2 k6]; exact l2
      have p290 : p_290 (nI i) 0 m := by unfold p_290; exact ⟨b1, fun _ => ⟨z_p259 h.1 2, (z_173a _).1, k5, l1⟩, fun z => absurd z nz⟩
      obtain ⟨r1, r2⟩ := z_rest (m0 := m) (fb_271 (nI i) 1 (m_173a m))
      rw [← m290] at r1 r2
      obtain ⟨s1, s2⟩ := z_292 (r_290 (nI i) 0 m) (m_290 (nI i) 0 m) (fun w h1 h2 => by
        rw [r290, b_and, z_r43 hZ0.1 hZ0.2 _ h2]
        have : ¬ w < c := by omega
        simp [this])
      rw [if_pos q, if_pos q, ← r290, s2]
      have hC' : ∀ a s r i, ¬ a = 1 → Z a s r i = M a s r i := fun a s r i q => (k4 a s r i q).trans (hC a s r i q)
      have hm' : ∀ j, j < 1084 → m_290 (nI i) 0 m 5 844257 0 j = m0 5 844257 0 j := fun j hj => (r2 j hj).trans (hm j hj)
      by_cases le : r_292 (r_290 (nI i) 0 m) (m_290 (nI i) 0 m) ≤ x2
      · have nl := (tot _ _).1 le
        obtain ⟨i1, i2, i3, i4, i5, i6⟩ := ih f f' (i + 1) x1 x2 Z (m_290 (nI i) 0 m) (by omega) (by omega) (by omega) hC' hm'
        rw [if_pos le, if_pos le, if_neg nl, if_neg nl]
        exact ⟨⟨fun z => absurd z hle, fun _ => ⟨z_i16 i16, fun z => absurd q z, fun _ => ⟨k1, k2, k3, z_p43 hZ0.1 hZ0.2 _, z_p43 k6.1 k6.2 _, fun _ => i1, fun z => absurd le z⟩⟩⟩, ⟨z_v1, fun z => absurd z hle, fun _ => ⟨p290, s1, fun z => absurd z nl, fun _ => i2⟩⟩, i3, i4, i5, fun a s r j z => (i6 a s r j z).trans (r1 a s r j z)⟩
      · have nl := (tot _ _).2 le
        obtain ⟨i1, i2, i3, i4, i5, i6⟩ := ih f f' (i + 1) (nI i) (r_292 (r_290 (nI i) 0 m) (m_290 (nI i) 0 m)) Z (m_290 (nI i) 0 m) (by omega) (by omega) (by omega) hC' hm'
        rw [if_neg le, if_neg le, if_pos nl, if_pos nl]
        exact ⟨⟨fun z => absurd z hle, fun _ => ⟨z_i16 i16, fun z => absurd q z, fun _ => ⟨k1, k2, k3, z_p43 hZ0.1 hZ0.2 _, z_p43 k6.1 k6.2 _, fun z => absurd z le, fun _ => i1⟩⟩⟩, ⟨z_v1, fun z => absurd z hle, fun _ => ⟨p290, s1, fun _ => i2, fun z => absurd nl z⟩⟩, i3, i4, i5, fun a s r j z => (i6 a s r j z).trans (r1 a s r j z)⟩
    · have q' := fun z' => q (cond.mpr z')
      have nz : r_270 (nI i) m = 0 := b2.mpr q'
      have m290 : m_290 (nI i) 0 m = m := by unfold m_290; rw [if_pos nz]
      have r290 : r_290 (nI i) 0 m = 0 := by unfold r_290; rw [if_pos nz]
      have p290 : p_290 (nI i) 0 m := by unfold p_290; exact ⟨b1, fun z => absurd nz z, fun _ => trivial⟩
      obtain ⟨s1, s2⟩ := z_292 0 m (fun w _ _ => b_0 w)
      have e0 : r_292 0 m = 0 := s2.symm.trans (by decide)
      rw [if_neg q, if_neg q, m290, r290, e0]
      by_cases le : (0 : Int32) ≤ x2
      · have nl := (tot _ _).1 le
        obtain ⟨i1, i2, i3, i4, i5, i6⟩ := ih f f' (i + 1) x1 x2 C m (by omega) (by omega) (by omega) hC hm
        rw [if_pos le, if_pos le, if_neg nl, if_neg nl]
        exact ⟨⟨fun z => absurd z hle, fun _ => ⟨z_i16 i16, fun _ => ⟨fun _ => i1, fun z => absurd le z⟩, fun z => absurd z q⟩⟩, ⟨z_v1, fun z => absurd z hle, fun _ => ⟨p290, s1, fun z => absurd z nl, fun _ => i2⟩⟩, i3, i4, i5, i6⟩
      · have nl := (tot _ _).2 le
        obtain ⟨i1, i2, i3, i4, i5, i6⟩ := ih f f' (i + 1) (nI i) 0 C m (by omega) (by omega) (by omega) hC hm
        rw [if_neg le, if_neg le, if_pos nl, if_pos nl]
        exact ⟨⟨fun z => absurd z hle, fun _ => ⟨z_i16 i16, fun _ => ⟨fun z => absurd z le, fun _ => i1⟩, fun z => absurd z q⟩⟩, ⟨z_v1, fun z => absurd z hle, fun _ => ⟨p290, s1, fun _ => i2, fun z => absurd nl z⟩⟩, i3, i4, i5, i6⟩
/-- weakest -/
theorem z_f_89 (h : z_Q n M) (hn : n ≤ 600) : z_op n M p_89 r_89 m_89 p_291 r_291 m_291 := by
  obtain ⟨c, t, B, ht, hB, hR, hs⟩ := h.w
  have hf : c < ux_fuel := by have := z_fuel; have := hR.1.le; omega
  obtain ⟨_, _, _, k4, _, _⟩ := z_wkl hR hs ht (by omega) c ux_fuel ux_fuel 0 (-1) (-1) M M (by omega) hf hf (fun _ _ _ _ _ => rfl) (fun _ _ => rfl)
  have f1 : ∀ a s r i, ¬ a = 1 → m_89 M a s r i = M a s r i := k4
  have row : ∀ i, z_th (m_89 M) 0 5 844257 0 i = M 5 844257 0 i := fun i => (z_thI i).trans (f1 _ _ _ _ (by omega))
  have hR0 : z_R 99 16 0 c t B M (z_th (m_89 M) 0) := hR.cg (fun _ _ _ _ => rfl) row
  have hs0 := z_219c hR.1 hR0.1 row hs
  obtain ⟨l1, l2, l3, _, l5, l6⟩ := z_wkl hR0 hs0 ht (by omega) c ux_fuel ux_fuel 0 (-1) (-1) M (z_th (m_89 M) 0) (by omega) hf hf (fun _ _ _ _ _ => rfl) (fun _ _ => rfl)
  obtain ⟨d1, d2⟩ := h.prd (M2 := m_291 (m_89 M)) f1 l6 (fun i hi => (l5 i hi).trans (row i))
  exact ⟨l1, fun M1 e => by subst e; exact l2, l3, d1, d2⟩
end ZP3
