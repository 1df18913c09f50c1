/-! TRANSACTIONS THAT FAIL: masked, torn -/
section ZD6
variable {k c t B x b u T n v : Nat} {m m' m1 : ux_M} {M M2 C C' : ux_M} {g : Nat → Int32} {eS eR eO : Int32}
/-- no hit: no essential start of a masked unit -/
theorem z_bd.msk (h : z_bd c T u m m1) (hE : z_Ec m c u T eS eR eO) (hT : T = 1 ∨ T = 2 ∨ T = 3) (hu : u < c) (hc : c ≤ 16) (hb : ∀ w, w < c → z_bw m 1 w = false ∧ z_bw m 2 w = false ∧ z_bw m 3 w = false) (ht : z_ht m1 = 0) :
    ∀ w, w < c → bt eS w = true → ¬ z_Y m 31 w = 1 := by
  obtain ⟨e1, e2, e3, e4, e5, e6⟩ := hE
  have cl := fun {v w : Nat} (hv : v < c) (hw : w < c) => h.cl hv hw hc
  obtain ⟨h1, h2, h3, h4, h5, h6, h7⟩ := h
  have b1 : ∀ w, w < c → ¬ z_Y m 31 w = 1 → z_bl m 1 w = false := fun w hw q => by unfold z_bl; rw [(hb w hw).1]; simp [q]
  have b3 : ∀ w, w < c → ¬ z_Y m 31 w = 1 → z_bl m 3 w = false := fun w hw q => by unfold z_bl; rw [(hb w hw).2.2]; simp [q]
  have b2 : ∀ w, w < c → z_bl m 2 w = false := fun w hw => by unfold z_bl; rw [(hb w hw).2.1]; simp
  have nh1 : ∀ v, v < c → z_V m1 3 v = true → ¬ z_h1 m c v true := fun v hv q y => by
    obtain ⟨t1, t2, t3, t4, t5⟩ := h3 v (by omega)
    by_cases j3 : z_j m1 3 v = true
    · have := (h6 v 3 hv (by omega) j3).2 ht
      unfold z_rh at this
      rw [if_neg (by decide), if_neg (by decide), t2, j3] at this
      exact this (.inl y)
    · have j3' : z_j m1 3 v = false := by simpa using j3
      have e1v : z_e m1 1 v = true := by simpa [z_V, t2, j3'] using q
      have := (h6 v 1 hv (by omega) (t3 e1v)).2 ht
      unfold z_rh at this
      rw [if_neg (by decide), if_pos rfl, e1v] at this
      exact this y
  have nh3 : ∀ v, v < c → z_V m1 1 v = true → ¬ z_h3 m c v := fun v hv q y => by
    have := (h6 v 3 hv (by omega) q).2 ht
    unfold z_rh at this
    rw [if_neg (by decide), if_neg (by decide)] at this
    exact this (.inr y)
  have nu : T = 1 ∨ T = 3 → ¬ z_Y m 31 u = 1 := fun hh y => by
    refine h5 ht ⟨by decide, by omega, ?_, y⟩
    rcases hh with q | q
    · subst q; exact (hb u hu).1
    · subst q; exact (hb u hu).2.2
  have low := e6 (fun w => z_V m1 3 w = true ∧ ¬ z_Y m 31 w = 1) (fun w => z_V m1 1 w = true ∧ ¬ z_Y m 31 w = 1) (fun w => z_V m1 4 w = true)
    ⟨fun q => ⟨h4 (by subst q; exact b1 u hu (nu (.inl rfl))) 3 (by subst q; decide), nu (.inl q)⟩, fun q => h4 (by subst q; exact b2 u hu) 4 (by subst q; decide), fun q => ⟨h4 (by subst q; exact b3 u hu (nu (.inr rfl))) 1 (by subst q; decide), nu (.inr q)⟩⟩
    (fun w hw p => ⟨by
      have t := (h3 w (by omega)).2.1
      have p2 := p.1
      simp only [z_V] at p2 ⊢
      rw [t, p2, Bool.or_true], p.2⟩)
    (fun v w hv hw => ⟨fun p q => by
        have nm : ¬ z_Y m 31 w = 1 := fun y => nh1 v hv p.1 ⟨w, hw, rfl, q, (hb w hw).1, y⟩
        exact ⟨(cl hv hw).2.2.2.1 p.1 q (b1 w hw nm), nm⟩,
      fun p q => (cl hv hw).2.2.2.2.1 p.1 q (b2 w hw),
      fun p q => by
        have nm : ¬ z_Y m 31 w = 1 := fun y => nh3 v hv p.1 ⟨w, hw, q, (hb w hw).2.2, y⟩
        exact ⟨(cl hv hw).2.2.2.2.2.2 p.1 q (b3 w hw nm), nm⟩,
      fun p q => (cl hv hw).2.2.2.2.2.1 p q (b2 w hw)⟩)
  exact fun w hw q => ((low w hw).1 q).2
/-- both jobs of a unit are essential: the reference bans until it finds them -/
theorem z_tear (hT : T = 1 ∨ T = 2 ∨ T = 3) (hu : u < c) (hc : c ≤ 16) {v0 : Nat} (hv0 : v0 < c) (ha : bt eS v0 = true) (hb : bt eO v0 = true) : ∀ (d f : Nat) (m : ux_M), m 5 844257 0 1 = nI c → z_Ec m c u T eS eR eO →
    (∀ w, w < c → (bt eS w = true → z_bl m 1 w = false ∧ z_bl m 3 w = false) ∧ (bt eO w = true → z_bl m 2 w = false)) → 32 ≤ z_pop (m 5 983073 0 1) 16 + z_pop (m 5 983073 0 2) 16 + d → d + 2 ≤ f →
    p_197_22 f (nI u) (nI T) 1 m ∧ r_197_22 f (nI u) (nI T) 1 m = -3 ∧ z_fM m (m_197_22 f (nI u) (nI T) 1 m) := by
  intro d
  induction d using Nat.strongRecOn with
  | ind d ih =>
    intro f m hm hE hB hd hf
    obtain ⟨f, rfl⟩ : ∃ z, f = z + 2 := ⟨f - 2, by omega⟩
    obtain ⟨p198, hbd⟩ := z_198 hT hu hc hm
    obtain ⟨ht, hess⟩ := hbd.ess hE hT hu hc (fun w hw => (hB w hw).1) (fun w hw => (hB w hw).2)
    have f1 := hbd.1
    have b1 := hbd.2.1
    have tv := hbd.2.2.1
    have e19 : m_198 (nI u) (nI T) m 5 819253 0 19 = 0 := ht
    obtain ⟨p204, h204⟩ := z_204 tv
    have V3 : z_V (m_198 (nI u) (nI T) m) 3 v0 = true := ((hess v0 (by omega)).2.1).trans ha
    have V4 : z_V (m_198 (nI u) (nI T) m) 4 v0 = true := ((hess v0 (by omega)).2.2.1).trans hb
    obtain ⟨t1, t2, t3, t4, t5⟩ := tv v0 (by omega)
    have V0 : z_V (m_198 (nI u) (nI T) m) 0 v0 = true := by
      simp only [z_V, Bool.or_eq_true] at V3 ⊢
      rcases V3 with q | q
      · exact .inl (t3 q)
      · exact .inr (t2.symm.trans q)
    have V2 : z_V (m_198 (nI u) (nI T) m) 2 v0 = true := t4 V4
    rw [p_197_22, r_197_22, m_197_22, if_pos rfl, if_pos rfl]
    simp only [e19, if_true]
    rcases h204 with ⟨n1, _, _⟩ | ⟨v, v16, v1, v2, vl, h204⟩
    · have := n1 v0 (by omega); rw [V0, V2] at this; cases this
    · have vc := ((hess v (by omega)).2.2.2.1 v2).1
      have go : ∀ X, (X = 1 ∨ X = 2) → (X = 1 → bt eS v = false) → (X = 2 → bt eO v = false) → z_bl (m_198 (nI u) (nI T) m) X v = false → ∀ m'', m'' = ux_set (m_198 (nI u) (nI T) m) 5 983073 0 X (m_198 (nI u) (nI T) m 5 983073 0 X ||| ((1 : Int32) <<< (nI v &&& 31))) →
          p_197_22 (f + 1) (nI u) (nI T) 1 m'' ∧ r_197_22 (f + 1) (nI u) (nI T) 1 m'' = -3 ∧ z_fM m (m_197_22 (f + 1) (nI u) (nI T) 1 m'') := fun X hX h1 h2 hbl m'' e => by
        obtain ⟨g1, g2⟩ := z_ban (m_198 (nI u) (nI T) m) v16 (X := X)
        rw [← e] at g1 g2
        have fm := f1.tr g1
        have q1 := z_pop.le (m'' 5 983073 0 1) 16
        have q2 := z_pop.le (m'' 5 983073 0 2) 16
        have bwv : bt (m 5 983073 0 X) v = false := by
          rw [f1.bl b1] at hbl
          unfold z_bl z_bw at hbl
          simp only [Bool.or_eq_false_iff] at hbl
          exact hbl.1
        have gr : z_pop (m 5 983073 0 1) 16 + z_pop (m 5 983073 0 2) 16 < z_pop (m'' 5 983073 0 1) 16 + z_pop (m'' 5 983073 0 2) 16 := by
          have lt : z_pop (m 5 983073 0 X) 16 < z_pop (m 5 983073 0 X ||| ((1 : Int32) <<< (nI v &&& 31))) 16 := z_pop_lt z_sub.l bwv (by rw [b_or, z_bit (by omega) (by omega)]; simp) 16 (by omega) v16
          rcases hX with q | q
          · subst q
            rw [e, z_ss, z_si (by decide), b1, b1]; omega
          · subst q
            rw [e, z_ss, z_si (by decide), b1, b1]; omega
        obtain ⟨r1, r2, r3⟩ := ih (d - 1) (by omega) (f + 1) m'' ((fm.row 1).trans hm) (fm.Ec hE) (fun w hw => by
          obtain ⟨y1, y2⟩ := hB w hw
          rw [(g2 1 w (by omega)).1, (g2 2 w (by omega)).1, (g2 3 w (by omega)).1, f1.bl b1, f1.bl b1, f1.bl b1]
          by_cases q : w = v
          · subst q
            refine ⟨fun a => ?_, fun a => ?_⟩
            · have n1 : ¬ X = 1 := fun z => by rw [h1 z] at a; cases a
              obtain ⟨a1, a2⟩ := y1 a
              rw [a1, a2]
              have n3 : ¬ 3 = X := by omega
              have n1' : ¬ 1 = X := fun z => n1 z.symm
              simp [n1', n3]
            · have n2 : ¬ 2 = X := fun z => by rw [h2 z.symm] at a; cases a
              rw [y2 a]; simp [n2]
          · simp only [q, decide_false, Bool.and_false, Bool.or_false]; exact ⟨y1, y2⟩) (by omega) (by omega)
        exact ⟨r1, r2, fm.tr r3⟩
      have W3 := (hess v (by omega)).2.1
      have W4 := (hess v (by omega)).2.2.1
      rcases h204 with ⟨y3, y4, r204, e204⟩ | ⟨y3, y4, r204, e204⟩ | ⟨y3, r204, e204⟩
      · obtain ⟨s1, s2, s3⟩ := z_stop (x := nI u) (y := nI T) f (m_204 (m_198 (nI u) (nI T) m)) (show ¬ (-3 : Int32) = 1 by decide)
        rw [r204, if_neg (show ¬ (-3 : Int32) = 0 by decide), if_neg (show ¬ (-3 : Int32) = 0 by decide), s2, s3]
        exact ⟨⟨fun z => absurd trivial z, fun _ => ⟨p198, fun _ => ⟨p204, fun z => absurd z (by decide), fun _ => s1⟩, fun z => absurd trivial z⟩⟩, rfl, by rw [e204]; exact f1⟩
      · have nb := ((hess v (by omega)).2.2.2.2 v1).2.resolve_left (fun z => by rw [← W4, y4] at z; cases z)
        obtain ⟨s1, s2, s3⟩ := go 2 (.inr rfl) (by omega) (fun _ => W4.symm.trans y4) (by rw [f1.bl b1]; exact nb) _ e204
        rw [r204, if_neg (show ¬ (1 : Int32) = 0 by decide), if_neg (show ¬ (1 : Int32) = 0 by decide)]
        exact ⟨⟨fun z => absurd trivial z, fun _ => ⟨p198, fun _ => ⟨p204, fun z => absurd z (by decide), fun _ => s1⟩, fun z => absurd trivial z⟩⟩, s2, s3⟩
      · have nb := ((hess v (by omega)).2.2.2.1 v2).2.resolve_left (fun z => by rw [← W3, y3] at z; cases z)
        obtain ⟨s1, s2, s3⟩ := go 1 (.inl rfl) (fun _ => W3.symm.trans y3) (by omega) (by rw [f1.bl b1]; exact nb) _ e204
        rw [r204, if_neg (show ¬ (1 : Int32) = 0 by decide), if_neg (show ¬ (1 : Int32) = 0 by decide)]
        exact ⟨⟨fun z => absurd trivial z, fun _ => ⟨p198, fun _ => ⟨p204, fun z => absurd z (by decide), fun _ => s1⟩, fun z => absurd trivial z⟩⟩, s2, s3⟩
end ZD6
