/-! THE CALLS THAT ACT: setMasked, kill, reset, cancel, advance -/
section ZX3
variable {k c t B B' b u n s x : Nat} {M M' M1 M2 C m m' : ux_M} {y z v w j : Int32} {f : Nat → Int32}
theorem z_D31 (h : z_Du b t u f) (v : Int32) : z_Du b t u (z_up f 31 v) := by
  unfold z_Du at h ⊢
  simp only [z_upn (show ¬ 28 = 31 by decide), z_upn (show ¬ 35 = 31 by decide), z_upn (show ¬ 0 = 31 by decide), z_upn (show ¬ 34 = 31 by decide), z_upn (show ¬ 10 = 31 by decide), z_upn (show ¬ 11 = 31 by decide), z_upn (show ¬ 16 = 31 by decide), z_upn (show ¬ 36 = 31 by decide), z_upn (show ¬ 12 = 31 by decide), z_upn (show ¬ 37 = 31 by decide), z_upn (show ¬ 19 = 31 by decide)]
  exact h
theorem z_W.mkw (h : z_W k c t B M m) (hu : u < c) (hv : ∀ i, i < 32 → bt v i = if i = u then decide (w = 1) else bt (M k 16413 0 4) i) : z_W k c t B (ux_set M k 16413 0 4 v) (z_P m 31 u w) := by
  obtain ⟨hH, hC, hD, hJ, hL, hT⟩ := h
  have hX : ∀ s r i, ¬ (s = 16413 ∧ i = 4) → ux_set M k 16413 0 4 v k s r i = M k s r i := fun s r i hn => by rw [z_set, if_neg (fun z => hn ⟨z.2.1, z.2.2.2⟩)]
  have hY : ∀ b w', b < 56 → ¬ b = 31 → z_Y (z_P m 31 u w) b w' = z_Y m b w' := fun b w' hb hn => by rw [z_YP m u w' w (by omega) hb, if_neg (fun q => hn q.1)]
  have hI : ∀ i, i < 188 → z_P m 31 u w 5 844257 0 i = m 5 844257 0 i := fun i hi => z_Yc m 31 u w (.inr (.inr hi))
  refine ⟨?_, hC.cong (fun s r i q _ => hX s r i (by omega)) (fun b w' hb => hY b w' (by omega) (by omega)), fun q hq' w' hw' => ?_, ?_, ?_, ?_⟩
  · unfold z_H; rw [hX _ _ _ (by omega), hX _ _ _ (by omega), hI _ (by omega), hI _ (by omega)]; exact hH
  · have g := z_tf (a := q.1) (s := q.2) hq'
    rw [hY _ _ (by omega) (by omega), hX _ _ _ (by omega)]; exact hD q hq' w' hw'
  · intro i hi
    obtain ⟨b1, b2, b3, b4, b5⟩ := hJ i hi
    have e0 := hX 49197 0 0 (by omega)
    have e1 := hX 49197 0 1 (by omega)
    have e2 := hX 49197 0 2 (by omega)
    have e3 := hX 49197 0 3 (by omega)
    have e4 : ux_set M k 16413 0 4 v k 16413 0 4 = v := z_ss
    rw [e0, e1, e2, e3, e4, hY 29 i (by omega) (by omega), hY 30 i (by omega) (by omega)]
    refine ⟨b1, b2, b3, b4, ?_⟩
    rw [hv i hi, z_YP m u i w (by omega) (by omega)]
    by_cases q : i = u
    · subst q; simp [hu]
    · rw [if_neg q, if_neg (fun z => q z.2)]; exact b5
  · have e : ux_set M k 16413 0 4 v k 263585 0 = M k 263585 0 := funext (fun i => hX _ _ _ (by omega))
    have e2 : z_LF (M k 16413 0 18) (m 5 844257 0 2) (M k 263585 0) (fun i => z_P m 31 u w 5 844257 0 (8 + i)) := by
      obtain ⟨L, h1, h2, h3, h4⟩ := hL
      exact ⟨L, h1, h2, h3, fun i hi p hp => (hI _ (by omega)).trans (h4 i hi p hp)⟩
    unfold z_L; rw [e, hI _ (by omega), hX _ _ _ (by omega)]; exact e2
  · have e : ux_set M k 16413 0 4 v k 164993 0 = M k 164993 0 := funext (fun i => hX _ _ _ (by omega))
    have e2 : z_Y (z_P m 31 u w) 38 = z_Y m 38 := funext (fun w' => hY _ _ (by omega) (by omega))
    have e3 : z_Y (z_P m 31 u w) 45 = z_Y m 45 := funext (fun w' => hY _ _ (by omega) (by omega))
    have e4 : z_TF c B (M k 164993 0) (z_Y m 38) (z_Y m 45) (fun i w' => z_Y (z_P m 31 u w) (46 + i) w') := by
      intro w' hw'
      obtain ⟨n, h1, h2, h3, h4⟩ := hT w' hw'
      exact ⟨n, h1, h2, h3, fun i hi => (hY _ _ (by omega) (by omega)).trans (h4 i hi)⟩
    unfold z_T; rw [e, e2, e3]; exact e4
theorem z_R.mkw (h : z_R x b k c t B M m) (hu : u < c) (hw : w = 0 ∨ w = 1) (hv : ∀ i, i < 32 → bt v i = if i = u then decide (w = 1) else bt (M k 16413 0 4) i) : z_R x b k c t B (ux_set M k 16413 0 4 v) (z_P m 31 u w) := by
  refine ⟨h.1.mkw hu hv, h.2.one _ (fun w' => z_AP m 31 u w' w (by omega)) x (.inr (.inl rfl)) (fun hu => ?_) (fun hu q => z_D31 ((h.2 u hu).2 q) w)⟩
  obtain ⟨b1, b2, b3, b4, b5, b6, b7, b8⟩ := (h.2 u hu).1
  unfold z_Bu
  simp only [z_upn (show ¬ 28 = 31 by decide), z_upn (show ¬ 29 = 31 by decide), z_upn (show ¬ 30 = 31 by decide), z_upe, z_upn (show ¬ 0 = 31 by decide), z_upn (show ¬ 34 = 31 by decide), z_upn (show ¬ 42 = 31 by decide), z_upn (show ¬ 37 = 31 by decide)]
  exact ⟨b1, b2, b3, b4, hw, b6, b7, b8⟩
/-- setMasked -/
theorem z_f_121 (h : z_Q n M) (hx : z_iu M y) : z_op n M (p_121 y z) (r_121 y z) (m_121 y z) (p_273 y z) (r_273 y z) (m_273 y z) := by
  obtain ⟨c, t, B, u, ht, hB, hR, hs, hc, hu, h16, rfl⟩ := h.un hx
  have mc : m_121 (nI u) z M = ux_set M 0 16413 0 4 (if z = 0 then (M 0 16413 0 4) &&& (((1 : Int32) <<< (nI u &&& 31)) ^^^ ((-1) : Int32)) else (M 0 16413 0 4) ||| ((1 : Int32) <<< (nI u &&& 31))) := by
    unfold m_121 m_121_24
    simp only [ite_self]
    by_cases q : z = 0
    · rw [if_pos q, if_pos q]
    · rw [if_neg q, if_neg q]
  have fa : z_fA 0 M (m_121 (nI u) z M) := by rw [mc]; exact z_fA.st (by decide) z_fA.rf
  have row : ∀ i, z_th (m_121 (nI u) z M) 0 5 844257 0 i = M 5 844257 0 i := fun i => (z_thI i).trans (fa 5 844257 0 i (by omega))
  obtain ⟨e1, e2, e3⟩ := z_235i hc ((fa 5 844257 0 1 (by omega)).trans hR.1.cn) hu
  have hR0 : z_R 99 16 0 c t B M (z_th (m_121 (nI u) z M) 0) := hR.cg (fun _ _ _ _ => rfl) row
  have mr : m_273 (nI u) z (m_121 (nI u) z M) = z_P (z_th (m_121 (nI u) z M) 0) 31 u (if z = 0 then 0 else 1) := by
    unfold m_273 m_273_26; rw [if_pos e2, e3]
    simp only [ite_self, pu31 _ _ h16]
    by_cases q : z = 0
    · rw [if_pos q, if_pos q]
    · rw [if_neg q, if_neg q]
  have hS : z_R 99 16 0 c t B (m_121 (nI u) z M) (m_273 (nI u) z (m_121 (nI u) z M)) := by
    rw [mr]
    generalize z_th (m_121 (nI u) z M) 0 = m0 at hR0 ⊢
    rw [mc]
    refine hR0.mkw hu (by split <;> simp) (fun i hi => ?_)
    by_cases q : z = 0
    · rw [if_pos q, if_pos q, z_clr _ (by omega) hi]; simp
    · rw [if_neg q, if_neg q, z_sti _ (by omega) hi]; simp
  have hY : ∀ a w, a < 56 → ¬ a = 31 → z_Y (m_273 (nI u) z (m_121 (nI u) z M)) a w = z_Y M a w := fun a w ha hn => by
    rw [mr, z_YP _ _ _ _ (by omega) ha, if_neg (fun q => hn q.1)]; exact row _
  have hst : z_stable c (m_273 (nI u) z (m_121 (nI u) z M)) := fun v hv => by
    have v16 := hR.1.u16 hv
    have e220 : r_220 (nI v) (m_273 (nI u) z (m_121 (nI u) z M)) = r_220 (nI v) M := by
      refine b_ext (fun w hw => ?_)
      rw [z_r220 hS.1 hv hw, z_r220 hR.1 hv hw, hY 29 _ (by omega) (by omega), hY 29 _ (by omega) (by omega)]
      unfold z_pc; rw [hY 27 _ (by omega) (by omega), hY 27 _ (by omega) (by omega)]
    unfold z_sb
    rw [hY 29 _ (by omega) (by omega), hY 30 _ (by omega) (by omega)]
    have e : r_219 (nI v) (m_273 (nI u) z (m_121 (nI u) z M)) = r_219 (nI v) M := by
      unfold r_219 r_219_24; rw [of29 _ v16, of29 _ v16, of28 _ v16, of28 _ v16, hY 29 _ (by omega) (by omega), hY 28 _ (by omega) (by omega), e220]
    rw [e]; exact hs v hv
  have fb : z_fB (z_th (m_121 (nI u) z M) 0) (m_273 (nI u) z (m_121 (nI u) z M)) := by
    rw [mr, ← pu31 _ _ h16]; exact z_fB.pt z_fB.rf
  obtain ⟨a1, a2⟩ := h.act fa fb ⟨c, t, B, ht, by omega, hS, hst⟩
  refine ⟨?_, ?_, ?_, a1, a2⟩
  · unfold p_121 p_121_24
    exact ⟨z_p93 hx, fun _ => ⟨fun _ _ _ => .inl rfl, fun _ _ _ => .inl rfl⟩, fun _ => ⟨fun _ _ _ => .inr rfl, fun _ _ _ => .inr rfl⟩⟩
  · unfold p_273 p_273_26; rw [e3]
    exact ⟨e1, fun _ => ⟨uu31 h16, fun _ => ⟨fun _ => ⟨uu31 h16, fun _ _ => .inl rfl⟩, fun _ => ⟨uu31 h16, fun _ _ => .inl rfl⟩⟩, fun _ => ⟨fun _ => ⟨uu31 h16, fun _ _ => .inr rfl⟩, fun _ => ⟨uu31 h16, fun _ _ => .inr rfl⟩⟩⟩, fun _ => trivial⟩
  · unfold r_121 r_273 r_121_24 r_273_26; rw [if_pos e2, e3]
    simp only [ite_self, of31 _ h16, z_shr _ (show u < 32 by omega)]
    have e := hR0.1.jk (show u < 32 by omega)
    have e' : z_Y (z_th (m_121 (nI u) z M) 0) 31 u = z_Y M 31 u := row _
    have e0 := hR.1.jk (show u < 32 by omega)
    rw [e', e0]
    by_cases q : z_Y M 31 u = 1
    · rw [if_neg (by simp [q, hu]), if_pos q]
    · rw [if_pos (by simp [q]), if_neg q]
theorem z_g_273 (h : z_Q n M) (hx : ¬ z_iu M y) : z_thr n M (p_273 y z) (m_273 y z) 1 := by
  obtain ⟨e1, e2, e3⟩ := h.o hx
  have e0 : ¬ r_235 y M = 0 := by rw [e2]; decide
  refine .th h ?_ ?_
  · unfold p_273; exact ⟨e1, fun q => absurd q e0, fun _ => trivial⟩
  · unfold m_273; rw [if_neg e0, e3]
/-- what a kill does, on both sides -/
theorem z_R.kll (h : z_R 99 b k c t B M m) (hB : B + 800 < 1999999999) (hu : u < c) (hst : z_Y m 28 u = 1 ∨ z_Y m 28 u = 2) (code : Int32) :
    p_91 k (nI u) code M ∧ p_78 k (m_91 k (nI u) code M) ∧ p_271 (nI u) code m ∧ z_R 99 b k c t (B + 800) (m_78 k (m_91 k (nI u) code M)) (m_271 (nI u) code m) ∧ z_stable c (m_271 (nI u) code m) := by
  have h16 := h.1.u16 hu
  have hc := h.1.le
  have d28 := h.1.d28 hu
  have ty := h.1.ty h.2 hu
  unfold p_91 m_91 p_271 m_271
  rw [z_cl h16, of28 _ h16, of29 _ h16, d28, ty]
  rcases hst with q | q
  · rw [if_neg (show ¬ z_Y m 28 u = 2 by rw [q]; decide), if_pos q]
    by_cases q2 : z_Y m 29 u = 1
    · obtain ⟨a1, a2, a3, a4⟩ := h.br hu (.inl q2) 1 (by decide)
      have s1 : z_Y (m_182 (nI u) 1 m) 28 u = 1 := by
        have e0 : z_Y (z_en m u 1) 28 u = z_Y m 28 u := by unfold z_en; rw [z_YP _ _ _ _ (by omega) (by omega), if_neg (by omega), z_YP _ _ _ _ (by omega) (by omega), if_neg (by omega), z_YP _ _ _ _ (by omega) (by omega), if_neg (by omega)]
        rcases (a4 u).2.1 with e | ⟨e, _⟩
        · rw [e, e0, q]
        · rw [e0, q] at e; exact absurd e (by decide)
      obtain ⟨b1, b2, _, b4, _⟩ := a3.ext (.inr (by omega)) hu (.inl s1) code
      obtain ⟨b5, b6⟩ := b4 (by rw [s1]; decide)
      rw [← b6] at b2
      obtain ⟨j1, j2, j3, j4⟩ := z_R.jobs b2 hB
      rw [if_pos q2, if_pos q2]
      exact ⟨⟨z_i16 h16, fun _ => ⟨trivial, fun y => absurd q2 y, fun _ => ⟨a1, b1⟩⟩, fun y => absurd y (by rw [q]; decide)⟩, j1, ⟨uu28 h16, fun y => absurd q y, fun _ => ⟨uu29 h16, fun y => absurd q2 y, fun _ => ⟨a2, b5, j2⟩⟩⟩, j3, j4⟩
    · obtain ⟨b1, b2, _, b4, _⟩ := h.ext (.inr (by omega)) hu (.inl q) code
      obtain ⟨b5, b6⟩ := b4 (by rw [q]; decide)
      rw [← b6] at b2
      obtain ⟨j1, j2, j3, j4⟩ := z_R.jobs b2 hB
      rw [if_neg q2, if_neg q2]
      exact ⟨⟨z_i16 h16, fun _ => ⟨trivial, fun _ => b1, fun y => absurd y q2⟩, fun y => absurd y (by rw [q]; decide)⟩, j1, ⟨uu28 h16, fun y => absurd q y, fun _ => ⟨uu29 h16, fun _ => ⟨b5, j2⟩, fun y => absurd y q2⟩⟩, j3, j4⟩
  · obtain ⟨b1, b2, _, _, b4⟩ := h.ext (.inr (by omega)) hu (.inr q) code
    obtain ⟨b5, b6⟩ := b4 q
    obtain ⟨s1, s2, s3⟩ := z_R.sb (z_TX_t k c) z_bc b2 hu
    rw [← b6] at s3
    obtain ⟨j1, j2, j3, j4⟩ := z_R.jobs s3 hB
    have n1 : ¬ z_Y m 28 u = 1 := by rw [q]; decide
    rw [if_pos q, if_neg n1]
    exact ⟨⟨z_i16 h16, fun y => absurd q y, fun _ => ⟨b1, s1⟩⟩, j1, ⟨uu28 h16, fun _ => ⟨b5 s2, j2⟩, fun y => absurd y n1⟩, j3, j4⟩
theorem fb_271 (x1 x2 : Int32) (M : ux_M) : z_fB M (m_271 x1 x2 M) := by
  unfold m_271
  exact z_fB.ite (z_fB.ite (((fb_182 _ _ _).tr (fb_193 _ _ _)).tr (fb_218 _)) ((fb_193 _ _ _).tr (fb_218 _))) ((fb_193 _ _ _).tr (fb_218 _))
/-- whether a unit can be killed -/
theorem z_270 (h : z_R 99 b k c t B M m) (hu : u < c) : p_270 (nI u) m ∧ (r_270 (nI u) m = 0 ↔ ¬ (z_Y m 0 u = 0 ∧ (z_Y m 28 u = 1 ∨ z_Y m 28 u = 2))) := by
  have h16 := h.1.u16 hu
  unfold p_270 r_270
  rw [of0 _ h16, of28 _ h16]
  refine ⟨⟨uu0 h16, fun _ => trivial, fun _ => ⟨uu28 h16, fun _ => trivial, fun _ => uu28 h16⟩⟩, ?_⟩
  by_cases q : z_Y m 0 u = 0
  · by_cases q1 : z_Y m 28 u = 1
    · rw [if_pos q, if_pos q1]; simp [q, q1]
    · by_cases q2 : z_Y m 28 u = 2
      · rw [if_pos q, if_neg q1, if_pos q2]; simp [q, q2]
      · rw [if_pos q, if_neg q1, if_neg q2]; simp [q1, q2]
  · rw [if_neg q]; simp [q]
/-- kill -/
theorem z_f_118 (h : z_Q n M) (hn : n ≤ 600) (hx : z_iu M y) (hz : z_rg z 0 255) : z_op n M (p_118 y z) (r_118 y z) (m_118 y z) (p_269 y z) (r_269 y z) (m_269 y z) := by
  obtain ⟨c, t, B, u, ht, hB, hR, hs, hc, hu, h16, rfl⟩ := h.un hx
  have g := (z_i64g z 0 255 (L := Int64.ofNat 255) (by decide)).mpr hz
  have fa : z_fA 0 M (m_118 (nI u) z M) := by
    unfold m_118; exact z_fA.ite ((fa_91 _ _ _ _).tr (fa_78 _ _)) z_fA.rf
  have row : ∀ i, z_th (m_118 (nI u) z M) 0 5 844257 0 i = M 5 844257 0 i := fun i => (z_thI i).trans (fa 5 844257 0 i (by omega))
  obtain ⟨e1, e2, e3⟩ := z_235i hc ((fa 5 844257 0 1 (by omega)).trans hR.1.cn) hu
  have hR0 : z_R 99 16 0 c t B M (z_th (m_118 (nI u) z M) 0) := hR.cg (fun _ _ _ _ => rfl) row
  have hs0 := z_219c hR.1 hR0.1 row hs
  obtain ⟨a1, a2, a3⟩ := z_176a (M := z_th (m_118 (nI u) z M) 0) z_th6 2
  obtain ⟨b1, b2⟩ := z_270 hR0 hu
  have cond : ((M 0 360577 0 u = 0) ∧ ((M 0 65665 0 u = 1) ∨ (M 0 65665 0 u = 2))) ↔ (z_Y (z_th (m_118 (nI u) z M) 0) 0 u = 0 ∧ (z_Y (z_th (m_118 (nI u) z M) 0) 28 u = 1 ∨ z_Y (z_th (m_118 (nI u) z M) 0) 28 u = 2)) := by
    rw [hR0.1.kd hu, hR0.1.d28 hu]
  have mr : m_269 (nI u) z (m_118 (nI u) z M) = if r_270 (nI u) (z_th (m_118 (nI u) z M) 0) = 0 then z_th (m_118 (nI u) z M) 0 else m_271 (nI u) z (z_th (m_118 (nI u) z M) 0) := by
    unfold m_269 m_269_26; rw [if_pos e2, if_pos g, e3, if_pos a2, a3]
  have fb : z_fB (z_th (m_118 (nI u) z M) 0) (m_269 (nI u) z (m_118 (nI u) z M)) := by
    rw [mr]; exact z_fB.ite z_fB.rf (fb_271 _ _ _)
  by_cases q : (M 0 360577 0 u = 0) ∧ ((M 0 65665 0 u = 1) ∨ (M 0 65665 0 u = 2))
  · have q' := cond.mp q
    obtain ⟨k1, k2, k3, k4, k5⟩ := hR0.kll (by omega) hu q'.2 z
    have nz : ¬ r_270 (nI u) (z_th (m_118 (nI u) z M) 0) = 0 := fun z' => (b2.mp z') q'
    have mc : m_118 (nI u) z M = m_78 0 (m_91 0 (nI u) z M) := by unfold m_118; rw [z_cl h16, if_pos q]
    rw [if_neg nz] at mr
    have k4' : z_R 99 16 0 c t (B + 800) (m_118 (nI u) z M) (m_269 (nI u) z (m_118 (nI u) z M)) := by rw [mr]; exact mc ▸ k4
    have k5' : z_stable c (m_269 (nI u) z (m_118 (nI u) z M)) := by rw [mr]; exact k5
    obtain ⟨d1, d2⟩ := h.act fa fb ⟨c, t, B + 800, ht, by omega, k4', k5'⟩
    refine ⟨?_, ?_, ?_, d1, d2⟩
    · unfold p_118; rw [z_cl h16]; exact ⟨z_p93 hx, z_p96 hz, z_i16 h16, fun _ => ⟨k1, k2, z_i16 h16⟩, fun y => absurd q y⟩
    · unfold p_269 p_269_26; rw [e3, a2, a3]
      exact ⟨e1, fun y => absurd e2 y, fun _ => ⟨fun _ => ⟨a1, fun _ => ⟨b1, fun _ => ⟨k3, uu28 h16⟩, fun _ => trivial⟩, fun y => absurd rfl y⟩, fun y => absurd g y⟩⟩
    · unfold r_118 r_269 r_269_26; rw [z_cl h16, if_pos q, if_pos e2, if_pos g, e3, if_pos a2, a3, if_neg nz, of28 _ h16, ← mr]
      rw [mc] at k4' ⊢
      exact k4'.1.d28 hu
  · have q' := fun z' => q (cond.mpr z')
    have nz : r_270 (nI u) (z_th (m_118 (nI u) z M) 0) = 0 := b2.mpr q'
    have mc : m_118 (nI u) z M = M := by unfold m_118; rw [z_cl h16, if_neg q]
    rw [if_pos nz] at mr
    have k4' : z_R 99 16 0 c t B (m_118 (nI u) z M) (m_269 (nI u) z (m_118 (nI u) z M)) := by rw [mr]; exact mc.symm ▸ hR0
    have k5' : z_stable c (m_269 (nI u) z (m_118 (nI u) z M)) := by rw [mr]; exact hs0
    obtain ⟨d1, d2⟩ := h.act fa fb ⟨c, t, B, ht, by omega, k4', k5'⟩
    refine ⟨?_, ?_, ?_, d1, d2⟩
    · unfold p_118; rw [z_cl h16]; exact ⟨z_p93 hx, z_p96 hz, z_i16 h16, fun y => absurd y q, fun _ => trivial⟩
    · unfold p_269 p_269_26; rw [e3, a2, a3]
      exact ⟨e1, fun y => absurd e2 y, fun _ => ⟨fun _ => ⟨a1, fun _ => ⟨b1, fun y => absurd nz y, fun _ => trivial⟩, fun y => absurd rfl y⟩, fun y => absurd g y⟩⟩
    · unfold r_118 r_269 r_269_26; rw [z_cl h16, if_neg q, if_pos e2, if_pos g, e3, if_pos a2, a3, if_pos nz]
theorem z_g_269 (h : z_Q n M) (hx : ¬ z_iu M y) : z_thr n M (p_269 y z) (m_269 y z) 1 := by
  obtain ⟨e1, e2, e3⟩ := h.o hx
  have e0 : ¬ r_235 y M = 0 := by rw [e2]; decide
  refine .th h ?_ ?_
  · unfold p_269; exact ⟨e1, fun _ => trivial, fun q => absurd q e0⟩
  · unfold m_269; rw [if_neg e0, e3]
theorem z_g_269b (h : z_Q n M) (hx : z_iu M y) (hz : ¬ z_rg z 0 255) : z_thr n M (p_269 y z) (m_269 y z) 2 := by
  obtain ⟨c, t, B, u, ht, hB, hR, hs, hc, hu, h16, rfl⟩ := h.un hx
  obtain ⟨e1, e2, e3⟩ := z_235i hc hR.1.cn hu
  have g := fun q => hz ((z_i64g z 0 255 (L := Int64.ofNat 255) (by decide)).mp q)
  obtain ⟨a1, a2, a3⟩ := z_176b (M := z_th M 0) z_th6 (b := 2) (by decide)
  rw [z_thth] at a3
  have a0 : ¬ r_176 1 2 (z_th M 0) = 0 := by rw [a2]; decide
  refine .th h ?_ ?_
  · unfold p_269 p_269_26; rw [e3]; exact ⟨e1, fun q => absurd e2 q, fun _ => ⟨fun q => absurd q g, fun _ => ⟨a1, fun q => absurd q a0, fun _ => trivial⟩⟩⟩
  · unfold m_269 m_269_26; rw [if_pos e2, if_neg g, e3, if_neg a0, a3]
end ZX3
