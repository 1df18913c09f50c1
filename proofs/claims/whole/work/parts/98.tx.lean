/-! A TRANSACTION: both sides build alike -/
section ZD7
variable {k c t B x b u T n v : Nat} {m m' m1 : ux_M} {M M2 C C' : ux_M} {g : Nat → Int32} {eS eR eO : Int32}
theorem z_c197 (x1 x2 : Int32) : ∀ (n f T : Nat) (m : ux_M), T + n = 4 → 1 ≤ T → n < f →
    ∃ m', z_fM m m' ∧ (∀ X, m' 5 983073 0 X = if T ≤ X ∧ X < 4 then 0 else m 5 983073 0 X)
      ∧ (p_197_22 ux_fuel x1 x2 1 m' → p_197_2 f x1 x2 (nI T) m) ∧ r_197_2 f x1 x2 (nI T) m = r_197_22 ux_fuel x1 x2 1 m' ∧ m_197_2 f x1 x2 (nI T) m = m_197_22 ux_fuel x1 x2 1 m' := by
  intro n
  induction n with
  | zero =>
    intro f T m hT h1 hf
    obtain ⟨f, rfl⟩ : ∃ g, f = g + 1 := ⟨f - 1, by omega⟩
    have hlt : (3 : Int32) < nI T := (z_lt (a := 3) (by omega) (by omega)).mpr (by omega)
    rw [p_197_2, r_197_2, m_197_2, if_pos hlt, if_pos hlt]
    exact ⟨m, z_fM.rf, fun X => by rw [if_neg (by omega)], fun q => ⟨fun _ => q, fun y => absurd hlt y⟩, rfl, rfl⟩
  | succ n ih =>
    intro f T m hT h1 hf
    obtain ⟨f, rfl⟩ : ∃ g, f = g + 1 := ⟨f - 1, by omega⟩
    have hlt : ¬ (3 : Int32) < nI T := fun q => by have := (z_lt (a := 3) (by omega) (by omega)).mp q; omega
    have k4 : vp_in (nI T) 4 := z_k4 (by omega)
    have eT : (nI T).toNatClampNeg = T := z_cl (by omega)
    rw [p_197_2, r_197_2, m_197_2, if_neg hlt, if_neg hlt]
    simp only [eT, z_nx]
    obtain ⟨m', r1, r2, r3, r4, r5⟩ := ih f (T + 1) (ux_set m 5 983073 0 T 0) (by omega) (by omega) (by omega)
    refine ⟨m', (z_fM.rf.st _ _ _ (by omega)).tr r1, fun X => (r2 X).trans ?_, fun q => ⟨fun y => absurd y hlt, fun _ => ⟨k4, fun M2 e => by subst e; exact r3 q⟩⟩, r4, r5⟩
    by_cases q : X = T
    · subst q; rw [if_neg (by omega), if_pos (by omega), z_ss]
    · rw [z_si q]
      by_cases y : T + 1 ≤ X ∧ X < 4
      · rw [if_pos y, if_pos (by omega)]
      · rw [if_neg y, if_neg (by omega)]
theorem z_b4 : ∀ s, s < 6 → bt 4 s = decide (s = 2) := by decide
theorem z_b17 : ∀ s, s < 6 → bt 17 s = (decide (s = 0) || decide (s = 4)) := by decide
theorem z_q43 (h : z_R x b k c t B M m) (mask : Int32) : p_43 k mask M := (z_43l h.1 h.2 mask c ux_fuel 0 0 (by omega) (by have := h.1.le; have := z_fuel; omega)).1
theorem z_x6 (h : z_R x b k c t B M m) (hC : z_R x b k c t B C m) (y : Int32) {w : Nat} (hw : w < 32) : bt ((r_43 k 4 C &&& ((M k 49197 0 0 ||| M k 49197 0 2) ^^^ ((-1) : Int32))) &&& (y ^^^ ((-1) : Int32))) w = (z_nl1 m c w && !bt y w)
    ∧ bt (r_43 k 17 C &&& ((M k 49197 0 0 ||| M k 49197 0 2) ^^^ ((-1) : Int32))) w = z_nl2 m c w := by
  rw [b_and, b_and, b_and, z_not _ hw, z_not _ hw, b_or, z_r43 hC.1 hC.2 4 hw, z_r43 hC.1 hC.2 17 hw, h.1.js hw, h.1.jt hw]
  unfold z_nl1 z_nl2
  by_cases q : w < c
  · obtain ⟨s, s6, e⟩ := h.2.sv q
    have e0 : (nI s = 0) ↔ s = 0 := z_eq (b := 0) (by omega) (by omega)
    have e2 : (nI s = 2) ↔ s = 2 := z_eq (b := 2) (by omega) (by omega)
    have e4 : (nI s = 4) ↔ s = 4 := z_eq (b := 4) (by omega) (by omega)
    rw [e, z_cl (by omega), z_b4 s s6, z_b17 s s6]
    have hj := h.2.jb q
    rcases hj with j | j | j | j <;> rw [j] <;> simp [q, e0, e2, e4]
  · simp [q]
/-- BUILDING A TRANSACTION -/
theorem z_TX2_t (hR : z_R x b k c t B M m) (hu : u < c) (j : Int32) (hj : j = 1 ∨ j = 2 ∨ j = 3) :
  p_65 k (nI u) j M ∧ p_197 (nI u) j m ∧ r_65 k (nI u) j M = r_197 (nI u) j m ∧ (r_197 (nI u) j m = 0 ∨ r_197 (nI u) j m < 0) ∧ z_fC k M (m_65 k (nI u) j M) ∧ z_fM m (m_197 (nI u) j m) ∧ (r_197 (nI u) j m = 0 → z_tr k c (m_65 k (nI u) j M) (m_197 (nI u) j m) ∧ z_xt k c (m_65 k (nI u) j M) (m_197 (nI u) j m)) := by
  obtain ⟨T, hT, ej⟩ : ∃ T, (T = 1 ∨ T = 2 ∨ T = 3) ∧ j = nI T := by
    rcases hj with q | q | q
    · exact ⟨1, by omega, q⟩
    · exact ⟨2, by omega, q⟩
    · exact ⟨3, by omega, q⟩
  subst ej
  have hc := hR.1.le
  obtain ⟨m2, f2, hb2, pp, rr, mm⟩ := z_c197 (nI u) (nI T) 3 ux_fuel 1 m (by omega) (by omega) (by have := z_fuel; omega)
  have er : r_197 (nI u) (nI T) m = r_197_22 ux_fuel (nI u) (nI T) 1 m2 := rr
  have em : m_197 (nI u) (nI T) m = m_197_22 ux_fuel (nI u) (nI T) 1 m2 := mm
  have ep : p_197_22 ux_fuel (nI u) (nI T) 1 m2 → p_197 (nI u) (nI T) m := pp
  have hR2 : z_R x b k c t B M m2 := hR.fr z_fC.rf f2
  have nb : ∀ X w, 1 ≤ X → X < 4 → z_bw m2 X w = false := fun X w h1 h2 => by unfold z_bw; rw [hb2, if_pos ⟨h1, h2⟩, b_0]
  have ljT : nI T = 1 ∨ nI T = 2 ∨ nI T = 3 := hj
  obtain ⟨p66, g0, g', a0, a1, a2, a3, e66, hend⟩ := z_66 M k (r_43 k 46 M) (fun i hi v h1 h2 => hR.1.hz i hi v (by omega)) (hR.1.u16 hu) (nI T) ljT
  obtain ⟨G, hG⟩ : ∃ G, G = z_up (z_up g' 3 (g' 0)) 4 (g' 2) := ⟨_, rfl⟩
  rw [← hG] at e66
  have G0 : G 0 = g' 0 := by rw [hG, z_upn (by decide), z_upn (by decide)]
  have G1 : G 1 = g' 1 := by rw [hG, z_upn (by decide), z_upn (by decide)]
  have G3 : G 3 = g' 0 := by rw [hG, z_upn (by decide), z_upe]
  have G4 : G 4 = g' 2 := by rw [hG, z_upe]
  have hr := z_66r M k (r_43 k 46 M) (nI T) ljT e66
  rw [G0, G1] at hr
  have hE := f2.Ec (z_brE hR hu hT a0 a1 a2 hend hr)
  rw [← G3, ← G4, ← G1] at hE
  have hRC : z_R x b k c t B (z_wt3 M k G) m := hR.fr (z_fCw M k G) z_fM.rf
  have hRC2 : z_R x b k c t B (z_wt3 M k G) m2 := hR.fr (z_fCw M k G) f2
  rw [er, em]
  unfold p_65 r_65 m_65
  simp only [e66, z_wt3_g, z_wt3_set, z_wt3_o M k G (show ¬ 16413 = 32805 by decide), z_wt3_o M k G (show ¬ 49197 = 32805 by decide), forall_eq]
  have bm2 : ∀ w, w < c → (bt (G 3) w = true → ¬ z_Y m2 31 w = 1) → (bt (G 3) w = true → z_bl m2 1 w = false ∧ z_bl m2 3 w = false) ∧ (bt (G 4) w = true → z_bl m2 2 w = false) := fun w hw h => by
    unfold z_bl
    rw [nb 1 w (by omega) (by omega), nb 2 w (by omega) (by omega), nb 3 w (by omega) (by omega)]
    refine ⟨fun q => ?_, fun _ => by simp⟩
    have := h q
    simp [this]
  by_cases q1 : G 3 &&& M k 16413 0 4 = 0
  · have nm : ∀ w, w < c → bt (G 3) w = true → ¬ z_Y m2 31 w = 1 := fun w hw q y => by
      have := z_nz.mp q1 w (by omega)
      rw [b_and, q, hR2.1.jk (by omega), y] at this
      simp [hw] at this
    rw [if_pos q1, if_pos q1]
    by_cases q2 : G 3 &&& G 4 = 0
    · rw [if_pos q2, if_pos q2]
      have gv : ∀ a, ¬ a = 5 → ¬ a = 6 → z_up (z_up G 5 (M k 16413 0 4)) 6 0 a = G a := fun a h h' => by rw [z_upn h', z_upn h]
      have L := z_loop hT hu ((r_43 k 4 (z_wt3 M k G) &&& ((M k 49197 0 0 ||| M k 49197 0 2) ^^^ ((-1) : Int32))) &&& (G 1 ^^^ ((-1) : Int32))) (r_43 k 17 (z_wt3 M k G) &&& ((M k 49197 0 0 ||| M k 49197 0 2) ^^^ ((-1) : Int32))) 32 ux_fuel ux_fuel 0 (z_up (z_up G 5 (M k 16413 0 4)) 6 0) M m2 hR2
        (by rw [gv 3 (by decide) (by decide), gv 1 (by decide) (by decide), gv 4 (by decide) (by decide)]; exact hE)
        ⟨fun w hw => ⟨by
            rw [z_upn (by decide), z_upe, hR2.1.jk hw]
            unfold z_bl
            rw [nb 1 w (by omega) (by omega)]
            simp, by
            rw [z_upe, b_0]
            unfold z_bl
            rw [nb 2 w (by omega) (by omega)]
            simp, nb 3 w (by omega) (by omega)⟩, fun w hw => by
            rw [gv 3 (by decide) (by decide), gv 4 (by decide) (by decide)]
            exact bm2 w hw (nm w hw)⟩
        (by omega) (by omega) (by have := z_fuel; omega) (by have := z_fuel; omega)
        (fun w hw => by rw [gv 1 (by decide) (by decide)]; exact (z_x6 hR2 hRC2 (G 1) hw).1) (fun w hw => (z_x6 hR2 hRC2 (G 1) hw).2)
        (fun w hw => by rw [gv 3 (by decide) (by decide), gv 4 (by decide) (by decide), ← b_and]; exact z_nz.mp q2 w hw)
      obtain ⟨l1, l2, l3, l4, l5, l6, l7⟩ := L
      exact ⟨⟨z_q43 hR 46, p66, fun _ => ⟨fun _ => ⟨z_q43 hRC 4, z_q43 hRC 17, l1⟩, fun y => absurd q2 y⟩, fun y => absurd q1 y⟩, ep l2, l3, l4, l5, f2.tr l6, l7⟩
    · obtain ⟨v0, hv0, ha, hb⟩ : ∃ v0, v0 < c ∧ bt (G 3) v0 = true ∧ bt (G 4) v0 = true := by
        apply Classical.byContradiction
        intro y
        refine q2 (z_nz.mpr (fun w hw => ?_))
        rw [b_and]
        cases e3 : bt (G 3) w
        · rfl
        · cases e4 : bt (G 4) w
          · rfl
          · exact absurd ⟨w, (hE.1 w hw).1 e3, e3, e4⟩ y
      obtain ⟨l1, l2, l3⟩ := z_tear hT hu hc hv0 ha hb 32 ux_fuel m2 hR2.1.cn hE (fun w hw => bm2 w hw (nm w hw)) (by omega) (by have := z_fuel; omega)
      rw [if_neg q2, if_neg q2, l2]
      exact ⟨⟨z_q43 hR 46, p66, fun _ => ⟨fun y => absurd y q2, fun _ => trivial⟩, fun y => absurd q1 y⟩, ep l1, rfl, .inr (by decide), z_fCw M k G, f2.tr l3, fun y => absurd y (by decide)⟩
  · obtain ⟨f, hf, _⟩ := z_f1 (n := 0) (by have := z_fuel; omega)
    obtain ⟨p198, hbd⟩ := z_198 hT hu hc hR2.1.cn
    have ht : ¬ m_198 (nI u) (nI T) m2 5 819253 0 19 = 0 := fun y => by
      have nm := hbd.msk hE hT hu hc (fun w _ => ⟨nb 1 w (by omega) (by omega), nb 2 w (by omega) (by omega), nb 3 w (by omega) (by omega)⟩) y
      refine q1 (z_nz.mpr (fun w hw => ?_))
      rw [b_and, hR2.1.jk hw]
      cases e3 : bt (G 3) w
      · rfl
      · have wc := (hE.1 w hw).1 e3
        have := nm w wc e3
        simp [this]
    have go : p_197_22 (f + 1) (nI u) (nI T) 1 m2 ∧ r_197_22 (f + 1) (nI u) (nI T) 1 m2 = -6 ∧ z_fM m2 (m_197_22 (f + 1) (nI u) (nI T) 1 m2) := by
      rw [p_197_22, r_197_22, m_197_22, if_pos rfl, if_pos rfl, if_neg ht, if_neg ht]
      exact ⟨⟨fun y => absurd rfl y, fun _ => ⟨p198, fun y => absurd y ht, fun _ => trivial⟩⟩, rfl, hbd.1⟩
    rw [← hf] at go
    obtain ⟨l1, l2, l3⟩ := go
    rw [if_neg q1, if_neg q1, l2]
    exact ⟨⟨z_q43 hR 46, p66, fun y => absurd y q1, fun _ => trivial⟩, ep l1, rfl, .inr (by decide), z_fCw M k G, f2.tr l3, fun y => absurd y (by decide)⟩
theorem z_TX_t (k c : Nat) : z_TX k c := fun x b t B M m u j hR hu hj => by
  obtain ⟨a1, a2, a3, a4, a5, a6, a7⟩ := z_TX2_t hR hu j hj
  exact ⟨a1, a2, a3, a4, a5, a6, fun q => (a7 q).1⟩
end ZD7
