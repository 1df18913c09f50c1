/-! THE LOOP OF BANS: both sides build the same -/
section ZD4
variable {k c t B x b u T n v : Nat} {m m' m1 : ux_M} {M C : ux_M} {g : Nat → Int32} {eS eR eO aS aO : Int32}
theorem z_fCw (M : ux_M) (k : Nat) (g : Nat → Int32) : z_fC k M (z_wt3 M k g) := fun a s r i q => by
  unfold z_wt3; rw [if_neg (fun z => q ⟨z.1, .inl z.2.1⟩)]
theorem z_LI.cong {g' : Nat → Int32} (h : z_LI m c g) (f : z_fM m m') (hb : ∀ X, m' 5 983073 0 X = m 5 983073 0 X) (e : ∀ a, 3 ≤ a → g' a = g a) : z_LI m' c g' := by
  have bw : ∀ X w, z_bw m' X w = z_bw m X w := fun X w => by unfold z_bw; rw [hb]
  refine ⟨fun w hw => ?_, fun w hw => ?_⟩
  · rw [e 5 (by omega), e 6 (by omega), f.bl hb, f.bl hb, bw]; exact h.1 w hw
  · rw [e 3 (by omega), e 4 (by omega), f.bl hb, f.bl hb, f.bl hb]; exact h.2 w hw
/-- both sides, before they look for what must be banned -/
theorem z_head (hR : z_R x b k c t B M m) (hE : z_Ec m c u T (g 3) (g 1) (g 4)) (hL : z_LI m c g) (hT : T = 1 ∨ T = 2 ∨ T = 3) (hu : u < c) :
    p_198 (nI u) (nI T) m ∧ p_67 k (z_wt3 M k g) ∧ ∃ (g' : Nat → Int32) (m1 : ux_M), m_198 (nI u) (nI T) m = m1 ∧ m_67 k (z_wt3 M k g) = z_wt3 M k g' ∧ z_fM m m1 ∧ z_tv m1 ∧ z_ht m1 = 0 ∧ z_LI m1 c g' ∧ z_Ec m1 c u T (g' 3) (g' 1) (g' 4) ∧ (∀ a, 3 ≤ a ∨ a = 1 → g' a = g a)
      ∧ ∀ w, w < 32 → z_V m1 0 w = bt (g' 0) w ∧ z_V m1 2 w = bt (g' 2) w ∧ z_V m1 1 w = bt (g' 1) w ∧ z_V m1 3 w = bt (g' 3) w ∧ z_V m1 4 w = bt (g' 4) w
        ∧ (z_V m1 0 w = true → w < c ∧ (bt (g' 3) w = true ∨ z_bl m1 1 w = false)) ∧ (z_V m1 2 w = true → w < c ∧ (bt (g' 4) w = true ∨ z_bl m1 2 w = false)) := by
  have hc := hR.1.le
  obtain ⟨q0, hbd⟩ := z_198 hT hu hc hR.1.cn
  obtain ⟨ht, hess⟩ := hbd.ess hE hT hu hc (fun w hw => (hL.2 w hw).1) (fun w hw => (hL.2 w hw).2)
  have l3 : ∀ w, w < 32 → bt (g 3) w = true → w < c := fun w hw => (hE.1 w hw).1
  have l4 : ∀ w, w < 32 → bt (g 4) w = true → w < c := fun w hw => (hE.1 w hw).2.2
  have wz : ∀ i, i < 16 → ∀ v, c ≤ v → bt (M k 475265 1 i) v = false := fun i hi v hv => by
    by_cases q : i < c
    · cases e : bt (M k 475265 1 i) v
      · rfl
      · rw [hR.1.xW q] at e
        have := (hR.1.rb q 1 (by omega) v e).1
        omega
    · rw [(hR.1.cz (show c ≤ i by omega) hi).2.2.2.2 1 (by omega), b_0]
  obtain ⟨p67, g', e67, g1, hend⟩ := z_67 M k g _ _ _ rfl rfl rfl (fun i hi v h1 h2 => by
    obtain ⟨a1, a2, a3⟩ := hR.1.hz i hi v (by omega)
    refine ⟨?_, ?_, ?_⟩
    · rw [b_and, b_or, a1, wz i hi v (by omega)]; rfl
    · rw [b_and, a2]; rfl
    · rw [b_and, a3]; rfl) (fun v hv q => by have := l3 v hv q; omega) (fun v hv q => by have := l4 v hv q; omega)
  have fr : ∀ a, 3 ≤ a → g' a = g a := fun a ha => by
    have := hend.2.1 a ha
    rw [z_upn (by omega), z_upn (by omega), z_upn (by omega), z_upn (by omega)] at this
    exact this
  have hA := z_brA hR (fun w hw => by rw [(hL.1 w (by omega)).1]; simp [hw]) (fun w hw => by rw [(hL.1 w (by omega)).2.1]; simp [hw]) l3 l4 hend
  have hall := hbd.all hE hA hT hu hc (fun w hw => ⟨(hess w hw).2.1, (hess w hw).2.2.1⟩)
  have f1 := hbd.1
  have b1 := hbd.2.1
  refine ⟨q0, p67, g', _, rfl, e67, f1, hbd.2.2.1, ht, hL.cong f1 b1 fr, by rw [fr 3 (by omega), fr 4 (by omega), g1]; exact f1.Ec hE, fun a ha => ha.elim (fr a) (fun z => by subst z; exact g1), fun w hw => ?_⟩
  obtain ⟨s1, s3, s4, s0, s2⟩ := hess w hw
  obtain ⟨t0, t2⟩ := hall w hw
  rw [g1, fr 3 (by omega), fr 4 (by omega), f1.bl b1, f1.bl b1]
  exact ⟨t0, t2, s1, s3, s4, s0, s2⟩
end ZD4
