/-! THE LOOP OF BANS -/
/-- what more is known at the end of a good build: the essential jobs, which jobs precede, no circle -/
def z_xt (k c : Nat) (C m : ux_M) : Prop := (∀ w, w < c → ¬ r_208 (nI w) m = 0 → z_ess m w = ((bt (C k 32805 0 0) w && bt (C k 32805 0 3) w) || (bt (C k 32805 0 2) w && bt (C k 32805 0 4) w)))
  ∧ (∀ v, v < 16 → ∀ w, w < 32 → bt (C k 278657 0 v) w = (decide (v < c) && decide (w < c) && z_fe m w v))
  ∧ ∀ w, w < c → ¬ z_tc (fun x y => x < c ∧ y < c ∧ z_fe m x y = true) w w
/-- both sides end alike -/
def z_re (k c : Nat) (M m : ux_M) (P P' : Prop) (R R' : Int32) (C' m' : ux_M) : Prop := P ∧ P' ∧ R = R' ∧ (R' = 0 ∨ R' < 0) ∧ z_fC k M C' ∧ z_fM m m' ∧ (R' = 0 → z_tr k c C' m' ∧ z_xt k c C' m')
section ZD5
variable {k c t B x b u T n v : Nat} {m m' m1 : ux_M} {M M2 C C' : ux_M} {g : Nat → Int32} {P P' : Prop} {R R' : Int32}
theorem z_re.up (h : z_re k c M2 m1 P P' R R' C' m') (h1 : z_fC k M M2) (h2 : z_fM m m1) : z_re k c M m P P' R R' C' m' := by
  obtain ⟨a1, a2, a3, a4, a5, a6, a7⟩ := h
  exact ⟨a1, a2, a3, a4, h1.tr a5, h2.tr a6, a7⟩
theorem z_f9.tr3 (h : z_f9 m m') (hT : z_tr k c C m) (hf : ∀ i, C' k 32805 0 i = C k 32805 0 i) : z_tr k c C' m' := fun w hw => by
  rw [hf, hf, hf, h 5 950305 0 1 (by omega), h 5 950305 0 2 (by omega), h 5 950305 0 3 (by omega)]
  exact hT w hw
theorem z_fM.n1 (h : z_fM m m') (w : Nat) : z_nl1 m' c w = z_nl1 m c w := by unfold z_nl1; rw [h.Y, h.Y]
theorem z_fM.n2 (h : z_fM m m') (w : Nat) : z_nl2 m' c w = z_nl2 m c w := by unfold z_nl2; rw [h.Y, h.Y]
theorem z_stop {x y z : Int32} (f : Nat) (m : ux_M) (h : ¬ z = 1) : p_197_22 (f + 1) x y z m ∧ r_197_22 (f + 1) x y z m = z ∧ m_197_22 (f + 1) x y z m = m := by
  rw [p_197_22, r_197_22, m_197_22, if_neg h, if_neg h]
  exact ⟨⟨fun _ => trivial, fun q => absurd q h⟩, rfl, rfl⟩
theorem z_loop (hT : T = 1 ∨ T = 2 ∨ T = 3) (hu : u < c) (x6 x7 : Int32) : ∀ (d f f' r : Nat) (g : Nat → Int32) (M m : ux_M), z_R x b k c t B M m → z_Ec m c u T (g 3) (g 1) (g 4) → z_LI m c g →
    32 ≤ z_pop (g 5) 16 + z_pop (g 6) 16 + d → r + d ≤ 32 → d < f → d + 1 < f' → (∀ w, w < 32 → bt x6 w = (z_nl1 m c w && !bt (g 1) w)) → (∀ w, w < 32 → bt x7 w = z_nl2 m c w) → (∀ w, w < 32 → (bt (g 3) w && bt (g 4) w) = false) →
    z_re k c M m (p_65_113 f k x6 x7 (nI r) (z_wt3 M k g)) (p_197_22 f' (nI u) (nI T) 1 m) (r_65_113 f k x6 x7 (nI r) (z_wt3 M k g)) (r_197_22 f' (nI u) (nI T) 1 m) (m_65_113 f k x6 x7 (nI r) (z_wt3 M k g)) (m_197_22 f' (nI u) (nI T) 1 m) := by
  intro d
  induction d using Nat.strongRecOn with
  | ind d ih =>
    intro f f' r g M m hR hE hL hd hr hf hf' hx6 hx7 hno
    obtain ⟨f, rfl⟩ : ∃ z, f = z + 1 := ⟨f - 1, by omega⟩
    obtain ⟨f', rfl⟩ : ∃ z, f' = z + 2 := ⟨f' - 2, by omega⟩
    have hc := hR.1.le
    have n32 : ¬ (32 : Int32) < nI r := fun z => by have := (z_lt (a := 32) (by omega) (by omega)).mp z; omega
    obtain ⟨p198, p67, g', m1, e198, e67, f1, tv, ht, hL1, hE1, hg, hV⟩ := z_head hR hE hL hT hu
    have g3 := hg 3 (by omega); have g4 := hg 4 (by omega); have g5 := hg 5 (by omega); have g6 := hg 6 (by omega); have g1 := hg 1 (by omega)
    have hR1 : z_R x b k c t B M m1 := hR.fr z_fC.rf f1
    -- once more
    have again : ∀ (g'' : Nat → Int32) (m'' M2 : ux_M), z_LI m'' c g'' → g'' 3 = g' 3 → g'' 1 = g' 1 → g'' 4 = g' 4 → z_fM m1 m'' → z_pop (g' 5) 16 + z_pop (g' 6) 16 < z_pop (g'' 5) 16 + z_pop (g'' 6) 16 → z_fC k M M2 →
        z_re k c M m (p_65_113 f k x6 x7 (nI r + 1) (z_wt3 M2 k g'')) (p_197_22 (f' + 1) (nI u) (nI T) 1 m'') (r_65_113 f k x6 x7 (nI r + 1) (z_wt3 M2 k g'')) (r_197_22 (f' + 1) (nI u) (nI T) 1 m'') (m_65_113 f k x6 x7 (nI r + 1) (z_wt3 M2 k g'')) (m_197_22 (f' + 1) (nI u) (nI T) 1 m'') := by
      intro g'' m'' M2 l1 l2 l3 l4 l5 l6 l7
      have q5 := z_pop.le (g'' 5) 16
      have q6 := z_pop.le (g'' 6) 16
      rw [g5, g6] at l6
      have fm := f1.tr l5
      rw [z_nx]
      refine (ih (d - 1) (by omega) f (f' + 1) (r + 1) g'' M2 m'' (hR.fr l7 fm) ?_ l1 (by omega) (by omega) (by omega) (by omega) (fun w hw => ?_) (fun w hw => ?_) (fun w hw => ?_)).up l7 fm
      · rw [l2, l3, l4]; exact l5.Ec hE1
      · rw [hx6 w hw, fm.n1, l3, g1]
      · rw [hx7 w hw, fm.n2]
      · rw [l2, l4, g3, g4]; exact hno w hw
    obtain ⟨p204, h204⟩ := z_204 tv
    have e19 : m1 5 819253 0 19 = 0 := ht
    rw [p_65_113, r_65_113, m_65_113, p_197_22, r_197_22, m_197_22, if_neg n32, if_neg n32, if_pos rfl, if_pos rfl, e198, e67]
    simp only [z_wt3_g, z_wt3_set, e19, if_true]
    have tb : ∀ w, w < 32 → bt (g' 0 &&& g' 2) w = (z_V m1 2 w && z_V m1 0 w) := fun w hw => by rw [b_and, (hV w hw).1, (hV w hw).2.1, Bool.and_comm]
    by_cases qc : (g' 0 &&& g' 2) = 0
    · -- no two jobs of a unit
      have hcf : ∀ w, w < 32 → (z_V m1 2 w && z_V m1 0 w) = false := fun w hw => (tb w hw).symm.trans (z_nz.mp qc w hw)
      have h204' : r_204 m1 = 0 ∧ m_204 m1 = m1 := by
        rcases h204 with ⟨_, a, b'⟩ | ⟨v, v16, v1, v2, _⟩
        · exact ⟨a, b'⟩
        · have := hcf v (by omega); rw [v1, v2] at this; cases this
      have u2 : z_up g' 0 (g' 0 &&& (x6 ^^^ ((-1) : Int32))) 2 = g' 2 := z_upn (by decide)
      simp only [qc, if_true, h204'.1, h204'.2, u2, forall_eq, true_implies, not_true_eq_false, false_implies, and_true, true_and]
      simp only [z_wt3_g, z_wt3_set, u2]
      obtain ⟨G, hG⟩ : ∃ G, G = z_up (z_up g' 0 (g' 0 &&& (x6 ^^^ ((-1) : Int32)))) 2 (g' 2 &&& (x7 ^^^ ((-1) : Int32))) := ⟨_, rfl⟩
      rw [← hG]
      have G0 : G 0 = g' 0 &&& (x6 ^^^ ((-1) : Int32)) := by rw [hG, z_upn (by decide), z_upe]
      have G2 : G 2 = g' 2 &&& (x7 ^^^ ((-1) : Int32)) := by rw [hG, z_upe]
      have Ga : ∀ a, ¬ a = 0 → ¬ a = 2 → G a = g' a := fun a h h' => by rw [hG, z_upn h', z_upn h]
      obtain ⟨p205, f8, hj⟩ := z_205 hc hR1.1.cn
      have f8M := f8.fM
      have hR2 : z_R x b k c t B (z_wt3 M k G) (m_205 m1) := hR1.fr (z_fCw M k G) f8M
      have hTr : z_tr k c (z_wt3 M k G) (m_205 m1) := by
        refine z_ndl tv f8 hj hcf (fun w hw => ⟨fun q => ((hV w hw).2.2.2.2.2.1 q).1, fun q => ((hV w hw).2.2.2.2.2.2 q).1⟩) (fun w hw => ?_) (fun w hw => ?_) (fun w hw => ?_)
        · rw [z_wt3_g, G0, b_and, z_not _ hw, hx6 w hw, (hV w hw).1, (hV w hw).2.2.1, f1.n1, g1]
        · rw [z_wt3_g, Ga 1 (by decide) (by decide), (hV w hw).2.2.1]
        · rw [z_wt3_g, G2, b_and, z_not _ hw, hx7 w hw, (hV w hw).2.1, f1.n2]
      obtain ⟨p69, p40, e40, f69, p207, f9, hcir⟩ := z_circ hR2 hTr
      have fld : ∀ i, m_69 k (z_wt3 M k G) k 32805 0 i = G i := fun i => (f69 k 32805 0 i (by omega)).trans (z_wt3_g _ _ _ _)
      have fC3 : z_fC k M (m_69 k (z_wt3 M k G)) := (z_fCw M k G).tr (fun a s r' i q => f69 a s r' i (fun z => q ⟨z.1, .inr z.2⟩))
      have tyc : ∀ w, w < c → z_cir (m_207 (m_205 m1)) w = true → ¬ r_208 (nI w) (m_205 m1) = 0 := fun w hw q => by
        have p := ((z_207 hc hR2.1.cn).2.2 w w hw (by omega)).mp q
        have fe : ∀ y, z_fe (m_205 m1) w y = true → ¬ r_208 (nI w) (m_205 m1) = 0 := fun y h => by
          unfold z_fe at h
          simp only [Bool.and_eq_true, decide_eq_true_eq] at h
          exact h.1.1.2
        obtain ⟨n, hn⟩ := p
        cases n with
        | zero => exact fe w hn.2.2
        | succ n => obtain ⟨y, h1, _⟩ := hn; exact fe y h1.2.2
      have hj3 : ∀ w, w < 32 → z_j (m_205 m1) 3 w = z_j m1 3 w := fun w hw => by rw [hj 3 w hw]; simp
      have esq := fun (w : Nat) (hw : w < c) (h0 : ¬ r_208 (nI w) (m_205 m1) = 0) => z_esq (k := k) (C := z_wt3 M k G) (eS := g' 3) (eO := g' 4) tv f8 hTr hj3 hw hc h0 (fun w hw => (hV w hw).2.2.2.1) (fun w hw => (hV w hw).2.2.2.2.1)
      obtain ⟨p206, h206⟩ := z_206 hc hR2.1.cn (fun w hw q => (esq w hw (tyc w hw q)).2.1)
      have optb : ∀ w, w < 32 → bt (r_40b k (m_69 k (z_wt3 M k G)) &&& (((G 0 &&& G 3) ||| (G 2 &&& G 4)) ^^^ ((-1) : Int32))) w = (decide (w < c) && z_cir (m_207 (m_205 m1)) w && !z_ess (m_205 m1) w) := fun w hw => by
        rw [b_and, z_not _ hw, b_or, b_and, b_and, hcir w hw]
        by_cases q : w < c
        · cases q2 : z_cir (m_207 (m_205 m1)) w
          · simp
          · have := (esq w q (tyc w q q2)).1
            rw [z_wt3_g, z_wt3_g] at this
            rw [this, Ga 3 (by decide) (by decide), Ga 4 (by decide) (by decide)]
        · simp [q]
      simp only [e40, fld]
      rcases h206 with ⟨n1, r206, f206⟩ | ⟨⟨w1, w2, w3⟩, allE, r206, f206⟩ | ⟨v, vc, v1, v2, v3, r206, m3, f3, e206⟩
      · have z40 : r_40b k (m_69 k (z_wt3 M k G)) = 0 := z_nz.mpr (fun w hw => by
          rw [hcir w hw]
          by_cases q : w < c
          · rw [n1 w q]; simp
          · simp [q])
        obtain ⟨s1, s2, s3⟩ := z_stop (x := nI u) (y := nI T) f' (m_206 (m_205 m1)) (show ¬ (0 : Int32) = 1 by decide)
        rw [r206, s2, s3, if_pos z40, if_pos z40]
        refine ⟨⟨fun z => absurd z n32, fun _ => ⟨p67, p69, p40, fun z => absurd z40 z, fun _ => trivial⟩⟩, ⟨p198, p204, p205, p206, s1⟩, rfl, .inl rfl, fC3, (f1.tr f8M).tr f206.fM, fun _ => ⟨f206.tr3 hTr (fun i => by rw [fld, z_wt3_g]), fun w hw h0 => ?_, fun v hv w hw => ?_, fun w hw q => ?_⟩⟩
        · have h0' : ¬ r_208 (nI w) (m_205 m1) = 0 := by rwa [f206.t8] at h0
          have e := (esq w hw h0').1
          have e2 : z_ess (m_206 (m_205 m1)) w = z_ess (m_205 m1) w := by unfold z_ess; rw [f206.t8, f206 5 966689 0 _ (by omega)]
          rw [e2, e, fld, fld, fld, fld, z_wt3_g, z_wt3_g, Ga 3 (by decide) (by decide), Ga 4 (by decide) (by decide)]
        · rw [(z_69 hR2 hTr).2.2 v hv w hw, f206.fe]
        · simp only [f206.fe] at q
          have y : z_cir (m_207 (m_205 m1)) w = true := ((z_207 hc hR2.1.cn).2.2 w w hw (by omega)).mpr q
          rw [n1 w hw] at y; cases y
      · have z40 : ¬ r_40b k (m_69 k (z_wt3 M k G)) = 0 := fun z => by
          have := z_nz.mp z w1 (by omega)
          rw [hcir w1 (by omega), w3] at this
          simp [w2] at this
        have zop : r_40b k (m_69 k (z_wt3 M k G)) &&& (((G 0 &&& G 3) ||| (G 2 &&& G 4)) ^^^ ((-1) : Int32)) = 0 := z_nz.mpr (fun w hw => by
          rw [optb w hw]
          by_cases q : w < c
          · cases q2 : z_cir (m_207 (m_205 m1)) w
            · simp
            · rw [allE w q q2]; simp
          · simp [q])
        obtain ⟨s1, s2, s3⟩ := z_stop (x := nI u) (y := nI T) f' (m_206 (m_205 m1)) (show ¬ (-4 : Int32) = 1 by decide)
        rw [r206, s2, s3, if_neg z40, if_pos zop, if_neg z40, if_pos zop]
        exact ⟨⟨fun z => absurd z n32, fun _ => ⟨p67, p69, p40, fun _ => ⟨fun z => absurd zop z, fun _ => trivial⟩, fun _ => trivial⟩⟩, ⟨p198, p204, p205, p206, s1⟩, rfl, .inr (by decide), fC3, (f1.tr f8M).tr f206.fM, fun z => absurd z (by decide)⟩
      · have vb : bt (r_40b k (m_69 k (z_wt3 M k G)) &&& (((G 0 &&& G 3) ||| (G 2 &&& G 4)) ^^^ ((-1) : Int32))) v = true := by
          rw [optb v (by omega), v1, v2]; simp [vc]
        have z40 : ¬ r_40b k (m_69 k (z_wt3 M k G)) = 0 := fun z => by
          have := z_nz.mp z v (by omega)
          rw [hcir v (by omega), v1] at this
          simp [vc] at this
        have zop : ¬ r_40b k (m_69 k (z_wt3 M k G)) &&& (((G 0 &&& G 3) ||| (G 2 &&& G 4)) ^^^ ((-1) : Int32)) = 0 := fun z => by
          have := z_nz.mp z v (by omega)
          rw [vb] at this; cases this
        obtain ⟨p72, r72⟩ := z_72 (show v < 16 by omega) vb (fun w h1 h2 => by
          rw [optb w (by omega)]
          by_cases q : w < c
          · cases q2 : z_cir (m_207 (m_205 m1)) w
            · simp
            · rw [v3 w h1 q q2]; simp
          · simp [q]) (m_69 k (z_wt3 M k G))
        rw [r206, if_neg z40, if_neg zop, if_neg z40, if_neg zop, r72]
        have m12 : z_fM m1 m3 := f8M.tr f3.fM
        have b12 : ∀ X, m3 5 983073 0 X = m1 5 983073 0 X := fun X => (f3 5 983073 0 X (by omega)).trans (f8 5 983073 0 X (by omega))
        have self : ux_set (m_69 k (z_wt3 M k G)) k 32805 0 = fun i w => z_wt3 (m_69 k (z_wt3 M k G)) k (z_up G i w) := by
          funext i w
          have e : m_69 k (z_wt3 M k G) k 32805 0 = G := by funext i; exact fld i
          have := z_wt3_set (m_69 k (z_wt3 M k G)) k i (m_69 k (z_wt3 M k G) k 32805 0) w
          rw [z_wt3_self, e] at this
          exact this
        have hL3 : z_LI m3 c G := hL1.cong m12 b12 (fun a ha => Ga a (by omega) (by omega))
        rcases (esq v vc (tyc v vc v1)).2.2 v2 with ⟨ty, q0, qe⟩ | ⟨ty, q0, q2, qe⟩
        · rw [z_wt3_g] at q0
          have e73 : m_73 k ((1 : Int32) <<< (nI v &&& 31)) (m_69 k (z_wt3 M k G)) = z_wt3 (m_69 k (z_wt3 M k G)) k (z_up G 5 (G 5 ||| ((1 : Int32) <<< (nI v &&& 31)))) := by
            unfold m_73
            simp only [fld]
            rw [if_neg (fun z => by rw [z_andb _ (by omega), q0] at z; cases z), self]
          rw [ty, z_c1] at e206
          have V0 : z_V m1 0 v = true := by
            rw [(hV v (by omega)).1]
            rw [G0, b_and, Bool.and_eq_true] at q0; exact q0.1
          have nb : z_bl m3 1 v = false := by
            rw [m12.bl b12]
            rcases ((hV v (by omega)).2.2.2.2.2.1 V0).2 with y | y
            · rw [qe] at y; cases y
            · exact y
          obtain ⟨s1, s2⟩ := hL3.s1 hc vc (by rw [Ga 3 (by decide) (by decide)]; exact qe) nb
          have A := again (z_up G 5 (G 5 ||| ((1 : Int32) <<< (nI v &&& 31)))) (m_206 (m_205 m1)) (m_69 k (z_wt3 M k G)) (by rw [e206]; exact s1) (by rw [z_upn (by decide)]; exact Ga 3 (by decide) (by decide)) (by rw [z_upn (by decide)]; exact Ga 1 (by decide) (by decide)) (by rw [z_upn (by decide)]; exact Ga 4 (by decide) (by decide)) (by rw [e206]; exact m12.tr (z_ban m3 (show v < 16 by omega)).1) (by rw [z_upe, z_upn (show ¬ 6 = 5 by decide), ← Ga 5 (by decide) (by decide), ← Ga 6 (by decide) (by decide)]; omega) fC3
          rw [e73]
          obtain ⟨A1, A2, A3⟩ := A
          exact ⟨⟨fun z => absurd z n32, fun _ => ⟨p67, p69, p40, fun _ => ⟨fun _ => ⟨p72, by unfold p_73; trivial, A1⟩, fun _ => trivial⟩, fun _ => trivial⟩⟩, ⟨p198, p204, p205, p206, A2⟩, A3⟩
        · rw [z_wt3_g] at q0 q2
          have e73 : m_73 k ((1 : Int32) <<< (nI v &&& 31)) (m_69 k (z_wt3 M k G)) = z_wt3 (m_69 k (z_wt3 M k G)) k (z_up G 6 (G 6 ||| ((1 : Int32) <<< (nI v &&& 31)))) := by
            unfold m_73
            simp only [fld]
            rw [if_pos ((z_andb _ (by omega)).mpr q0), self]
          rw [ty, z_c2] at e206
          have V2 : z_V m1 2 v = true := by
            rw [(hV v (by omega)).2.1]
            rw [G2, b_and, Bool.and_eq_true] at q2; exact q2.1
          have nb : z_bl m3 2 v = false := by
            rw [m12.bl b12]
            rcases ((hV v (by omega)).2.2.2.2.2.2 V2).2 with y | y
            · rw [qe] at y; cases y
            · exact y
          obtain ⟨s1, s2⟩ := hL3.s2 hc vc (by rw [Ga 4 (by decide) (by decide)]; exact qe) nb
          have A := again (z_up G 6 (G 6 ||| ((1 : Int32) <<< (nI v &&& 31)))) (m_206 (m_205 m1)) (m_69 k (z_wt3 M k G)) (by rw [e206]; exact s1) (by rw [z_upn (by decide)]; exact Ga 3 (by decide) (by decide)) (by rw [z_upn (by decide)]; exact Ga 1 (by decide) (by decide)) (by rw [z_upn (by decide)]; exact Ga 4 (by decide) (by decide)) (by rw [e206]; exact m12.tr (z_ban m3 (show v < 16 by omega)).1) (by rw [z_upe, z_upn (show ¬ 5 = 6 by decide), ← Ga 5 (by decide) (by decide), ← Ga 6 (by decide) (by decide)]; omega) fC3
          rw [e73]
          obtain ⟨A1, A2, A3⟩ := A
          exact ⟨⟨fun z => absurd z n32, fun _ => ⟨p67, p69, p40, fun _ => ⟨fun _ => ⟨p72, by unfold p_73; trivial, A1⟩, fun _ => trivial⟩, fun _ => trivial⟩⟩, ⟨p198, p204, p205, p206, A2⟩, A3⟩
    · -- two jobs of a unit
      rcases h204 with ⟨n1, _, _⟩ | ⟨v, v16, v1, v2, vl, h204⟩
      · exact absurd (z_nz.mpr (fun w hw => (tb w hw).trans (n1 w hw))) qc
      · have vc := ((hV v (by omega)).2.2.2.2.2.1 v2).1
        have lo := z_low (x := g' 0 &&& g' 2) (show v < 32 by omega) (by rw [tb v (by omega), v1, v2]; rfl) (fun w hw => by rw [tb w (by omega)]; exact vl w hw)
        simp only [qc, if_false, not_false_eq_true, false_implies, true_implies, true_and, lo]
        have V3 := (hV v (by omega)).2.2.2.1
        have V4 := (hV v (by omega)).2.2.2.2.1
        rcases h204 with ⟨y3, y4, _⟩ | ⟨y3, y4, r204, e204⟩ | ⟨y3, r204, e204⟩
        · have := hno v (by omega)
          rw [← g3, ← g4, ← V3, ← V4, y3, y4] at this; cases this
        · have e68 : m_68 k ((1 : Int32) <<< (nI v &&& 31)) (z_wt3 M k g') = z_wt3 M k (z_up g' 6 (g' 6 ||| ((1 : Int32) <<< (nI v &&& 31)))) := by
            unfold m_68
            simp only [z_wt3_g, z_wt3_set]
            rw [if_neg (fun z => by rw [z_andb _ (by omega), ← V3, y3] at z; cases z)]
          have nb : z_bl m1 2 v = false := by
            rcases ((hV v (by omega)).2.2.2.2.2.2 v1).2 with y | y
            · rw [← V4, y4] at y; cases y
            · exact y
          obtain ⟨s1, s2⟩ := hL1.s2 hc vc (V4.symm.trans y4) nb
          obtain ⟨A1, A2, A3⟩ := again _ (m_204 m1) M (by rw [e204]; exact s1) (z_upn (by decide)) (z_upn (by decide)) (z_upn (by decide)) (by rw [e204]; exact (z_ban m1 v16).1) (by rw [z_upe, z_upn (show ¬ 5 = 6 by decide)]; omega) z_fC.rf
          rw [e68, r204, if_neg (show ¬ (1 : Int32) = 0 by decide), if_neg (show ¬ (1 : Int32) = 0 by decide)]
          exact ⟨⟨fun z => absurd z n32, fun _ => ⟨p67, by unfold p_68; trivial, A1⟩⟩, ⟨fun _ => trivial, p198, ⟨p204, fun z => absurd z (by decide), fun _ => A2⟩, fun _ => trivial⟩, A3⟩
        · have e68 : m_68 k ((1 : Int32) <<< (nI v &&& 31)) (z_wt3 M k g') = z_wt3 M k (z_up g' 5 (g' 5 ||| ((1 : Int32) <<< (nI v &&& 31)))) := by
            unfold m_68
            simp only [z_wt3_g, z_wt3_set]
            rw [if_pos ((z_andb _ (by omega)).mpr (V3.symm.trans y3))]
          have nb : z_bl m1 1 v = false := by
            rcases ((hV v (by omega)).2.2.2.2.2.1 v2).2 with y | y
            · rw [← V3, y3] at y; cases y
            · exact y
          obtain ⟨s1, s2⟩ := hL1.s1 hc vc (V3.symm.trans y3) nb
          obtain ⟨A1, A2, A3⟩ := again _ (m_204 m1) M (by rw [e204]; exact s1) (z_upn (by decide)) (z_upn (by decide)) (z_upn (by decide)) (by rw [e204]; exact (z_ban m1 v16).1) (by rw [z_upe, z_upn (show ¬ 6 = 5 by decide)]; omega) z_fC.rf
          rw [e68, r204, if_neg (show ¬ (1 : Int32) = 0 by decide), if_neg (show ¬ (1 : Int32) = 0 by decide)]
          exact ⟨⟨fun z => absurd z n32, fun _ => ⟨p67, by unfold p_68; trivial, A1⟩⟩, ⟨fun _ => trivial, p198, ⟨p204, fun z => absurd z (by decide), fun _ => A2⟩, fun _ => trivial⟩, A3⟩
end ZD5
