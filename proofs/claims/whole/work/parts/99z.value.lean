/-! LOAD, 5: both sides read on -/
section ZL5
variable {C C' m m' : ux_M} {T : Nat → Int32} {N i j p p' q n u w c d e : Nat} {V a b : Int32}
/-- both read at p; the reference's point is at i -/
def z_RS (T : Nat → Int32) (N p i : Nat) (C m : ux_M) : Prop := z_rd4 C T N ∧ z_rd5 m T N ∧ C 4 671757 0 4 = nI p ∧ C 4 671757 0 5 = nI (z_xe T N p) ∧ C 4 671757 0 3 = z_xp T N p ∧ C 4 671757 0 6 = 0 ∧ m 5 819253 0 12 = 0 ∧ i ≤ N ∧ m 5 819253 0 9 = nI i ∧ p = z_xn (z_xB T N) N i
/-- both look at p -/
def z_RB (T : Nat → Int32) (N p : Nat) (C m : ux_M) : Prop := z_RS T N p p C m ∧ m 5 819253 0 10 = nI p
/-- both refuse -/
def z_NO (C m : ux_M) : Prop := ¬ C 4 671757 0 6 = 0 ∧ C 4 671757 0 6 = m 5 819253 0 12 ∧ C 4 671757 0 7 = m 5 819253 0 11
theorem z_xnn (hi : i ≤ N) : z_xn (z_xB T N) N (z_xn (z_xB T N) N i) = z_xn (z_xB T N) N i := by
  obtain ⟨h1, h2, h3, h4⟩ := z_xn_b (P := z_xB T N) (N := N) (N - i) i (by omega)
  by_cases q : z_xn (z_xB T N) N i < N
  · exact z_xn_f (h4 q)
  · exact z_xn_o (by omega)
theorem z_rd4.cg (h : z_rd4 C T N) (hC : ∀ s r i, ¬ (344085 ≤ s ∧ s < 600000) → C' 4 s r i = C 4 s r i) : z_rd4 C' T N := by
  obtain ⟨h0, h1, h2, h3⟩ := h
  exact ⟨h0, (hC _ _ _ (by omega)).trans h1, (hC _ _ _ (by omega)).trans h2, fun i hi => (hC _ _ _ (by omega)).trans (h3 i hi)⟩
theorem z_rd5.cg (h : z_rd5 m T N) (hm : ∀ s r i, ¬ s = 877025 → m' 5 s r i = m 5 s r i) : z_rd5 m' T N := by
  obtain ⟨h0, h1, h2⟩ := h
  exact ⟨h0, (hm _ _ _ (by decide)).trans h1, fun i hi => (hm _ _ _ (by decide)).trans (h2 i hi)⟩
theorem z_rd4.rm {x y z : Int32} (h : z_rd4 C T N) : z_rd4 (z_rm C x y z) T N := by
  obtain ⟨h0, h1, h2, h3⟩ := h
  exact ⟨h0, z_rm_1.trans h1, z_rm_2.trans h2, fun i hi => z_rm_t.trans (h3 i hi)⟩
theorem z_RS.cg (h : z_RS T N p i C m) (hC : ∀ s r i, ¬ (344085 ≤ s ∧ s < 600000) → C' 4 s r i = C 4 s r i) (hm : ∀ s r i, ¬ s = 877025 → m' 5 s r i = m 5 s r i) : z_RS T N p i C' m' := by
  obtain ⟨a1, a2, a3, a4, a5, a6, a7, a8, a9, a10⟩ := h
  exact ⟨a1.cg hC, a2.cg hm, (hC _ _ _ (by omega)).trans a3, (hC _ _ _ (by omega)).trans a4, (hC _ _ _ (by omega)).trans a5, (hC _ _ _ (by omega)).trans a6, (hm _ _ _ (by decide)).trans a7, a8, (hm _ _ _ (by decide)).trans a9, a10⟩
theorem z_RS.le (h : z_RS T N p i C m) : p ≤ N ∧ i ≤ p ∧ N ≤ 800 := by
  obtain ⟨a1, a2, a3, a4, a5, a6, a7, a8, a9, a10⟩ := h
  obtain ⟨h1, h2, h3, h4⟩ := z_xn_b (P := z_xB T N) (N := N) (N - i) i (by omega)
  rw [← a10] at h1 h2
  exact ⟨h2, h1, a1.1⟩
/-- on from e -/
theorem z_RS.on (h : z_RS T N p i C m) (he : e ≤ N) (hp : p' = z_xn (z_xB T N) N e) : z_RS T N p' e (z_rm C (nI p') (nI (z_xe T N p')) (z_xp T N p')) (z_pnt m (nI e) b) := by
  obtain ⟨a1, a2, a3, a4, a5, a6, a7, a8, a9, a10⟩ := h
  have r6 : ∀ x y z : Int32, z_rm C x y z 4 671757 0 6 = C 4 671757 0 6 := fun x y z => by unfold z_rm; rw [z_si (by decide), z_si (by decide), z_si (by decide)]
  exact ⟨a1.rm, a2.pnt, z_rm_4, z_rm_5, z_rm_3, (r6 _ _ _).trans a6, (z_pnt_i (by omega)).trans a7, he, z_pnt_9, hp⟩
theorem z_xe_le (hp : p ≤ N) : z_xe T N p ≤ N ∧ (p < N → p < z_xe T N p) := by
  unfold z_xe
  by_cases q : N ≤ p
  · rw [if_pos q]; exact ⟨hp, fun z => by omega⟩
  · rw [if_neg q]
    by_cases ql : z_xL T N p = true
    · rw [if_pos ql]
      have := (z_xn_b (P := z_xL T N) (N := N) (N - (p + 1)) (p + 1) (by omega))
      rw [z_xn_t (by omega) ql]; exact ⟨this.2.1, fun _ => by omega⟩
    · rw [if_neg ql]
      by_cases qd : z_xD T N p = true
      · rw [if_pos qd]
        have := (z_xn_b (P := z_xD T N) (N := N) (N - (p + 1)) (p + 1) (by omega))
        rw [z_xn_t (by omega) qd]; exact ⟨this.2.1, fun _ => by omega⟩
      · rw [if_neg qd]; exact ⟨by omega, fun _ => by omega⟩
/-- the class goes on -/
theorem z_RS.go (h : z_RS T N p i C m) (hp : p' = z_xn (z_xB T N) N (z_xe T N p)) : p_10 C ∧ m_10 C = z_rm C (nI p') (nI (z_xe T N p')) (z_xp T N p') ∧ z_xe T N p ≤ N ∧ z_xe T N p ≤ p' ∧ p' ≤ N := by
  have hl := h.le
  obtain ⟨a1, a2, a3, a4, a5, a6, a7, a8, a9, a10⟩ := h
  have he := (z_xe_le (T := T) (N := N) (p := p) hl.1).1
  obtain ⟨g1, g2⟩ := z_goOn a1 he a4
  obtain ⟨h1, h2, _, _⟩ := z_xn_b (P := z_xB T N) (N := N) (N - z_xe T N p) (z_xe T N p) (by omega)
  rw [← hp] at h1 h2 g2
  exact ⟨g1, g2, he, h1, h2⟩
theorem z_DR.rd {x y z : Int32} (h : z_DR c d C m) : z_DR c d (z_rm C x y z) (z_pnt m a b) :=
  h.cg (fun s r i _ _ => z_rm_o (by omega)) (fun i => z_pnt_o (by decide)) (z_pnt_i (by omega))
/-- the reference sees -/
theorem z_RS.see (h : z_RS T N p i C m) : p_152 m ∧ r_152 m = (if N ≤ p then -1 else T p) ∧ m_152 m = z_pnt m (nI p) (nI p) ∧ z_RB T N p C (m_152 m) := by
  have hl := h.le
  obtain ⟨a1, a2, a3, a4, a5, a6, a7, a8, a9, a10⟩ := h
  obtain ⟨s1, s2, s3⟩ := z_see a2 a8 a9
  rw [← a10] at s2 s3
  refine ⟨s1, s2, s3, ?_⟩
  rw [s3]
  exact ⟨⟨a1, a2.pnt, a3, a4, a5, a6, (z_pnt_i (by omega)).trans a7, hl.1, z_pnt_9, by rw [a10, z_xnn a8]⟩, z_pnt_10⟩
/-- a word is passed by both -/
theorem z_RB.pass (h : z_RB T N p C m) (hl : z_xL T N p = true) (hp : p' = z_xn (z_xB T N) N (z_xe T N p)) : p_10 C ∧ m_10 C = z_rm C (nI p') (nI (z_xe T N p')) (z_xp T N p') ∧ p_161 m ∧ r_161 m = 1 ∧ m_161 m = z_pnt m (nI (z_xe T N p)) (nI p) ∧ p < p' ∧ z_RS T N p' (z_xe T N p) (m_10 C) (m_161 m) ∧ ∀ c d, z_DR c d C m → z_DR c d (m_10 C) (m_161 m) := by
  obtain ⟨h, hb⟩ := h
  have hle := h.le
  obtain ⟨g1, g2, g3, g4, g5⟩ := h.go hp
  obtain ⟨x1, x2, x3⟩ := z_xpe (T := T) hle.1
  obtain ⟨y1, y2⟩ := x2 hl
  obtain ⟨b1, b2, b3⟩ := z_161 h.2.1 hle.1 hb
  rw [← y1] at b3
  have on := h.on (b := nI p) g3 hp
  refine ⟨g1, g2, b1, b2, b3, by omega, ?_, fun c d hD => ?_⟩
  · rw [g2, b3]; exact on
  · rw [g2, b3]; exact hD.rd
theorem z_er_NO {k x : Int32} (hk : ¬ k = 0) : z_NO (z_er C k x) (z_fw m k x) := by
  have e6 : z_er C k x 4 671757 0 6 = k := by unfold z_er; rw [z_si (by decide), z_ss]
  have e7 : z_er C k x 4 671757 0 7 = x := z_ss
  have f6 : z_fw m k x 5 819253 0 12 = k := by unfold z_fw; rw [z_si (by decide), z_ss]
  have f7 : z_fw m k x 5 819253 0 11 = x := z_ss
  unfold z_NO
  rw [e6, e7, f6, f7]
  exact ⟨hk, rfl, rfl⟩
theorem z_ro (hw : w < 10) : ux_ro 1310806 w = nI (z_lo w) ∧ ux_ro 1327190 w = nI (z_hi w) := by
  have : w = 0 ∨ w = 1 ∨ w = 2 ∨ w = 3 ∨ w = 4 ∨ w = 5 ∨ w = 6 ∨ w = 7 ∨ w = 8 ∨ w = 9 := by omega
  rcases this with rfl | rfl | rfl | rfl | rfl | rfl | rfl | rfl | rfl | rfl <;> decide +kernel
theorem z_lohi (hw : w < 10) : z_lo w ≤ 1000 ∧ z_hi w ≤ 1000 := by
  have : w = 0 ∨ w = 1 ∨ w = 2 ∨ w = 3 ∨ w = 4 ∨ w = 5 ∨ w = 6 ∨ w = 7 ∨ w = 8 ∨ w = 9 := by omega
  rcases this with rfl | rfl | rfl | rfl | rfl | rfl | rfl | rfl | rfl | rfl <;> decide +kernel
/-- a number: both have it, and go on; or both refuse -/
theorem z_num {lo hi : Nat} {x : Int32} (h : z_RS T N p i C m) (hx : vp_in x 1084) (hlo : lo ≤ 1000) (hhi : hi ≤ 1000) (hp : p' = z_xn (z_xB T N) N (z_xe T N p)) :
    p_25 (nI lo) (nI hi) C ∧ p_166 x (nI lo) (nI hi) m ∧
    ((∃ V : Nat, lo ≤ V ∧ V ≤ hi ∧ p < p' ∧ r_25 (nI lo) (nI hi) C = nI V ∧ m_25 (nI lo) (nI hi) C = z_rm C (nI p') (nI (z_xe T N p')) (z_xp T N p') ∧ r_166 x (nI lo) (nI hi) m = 1 ∧ m_166 x (nI lo) (nI hi) m = ux_set (z_pnt m (nI (z_xe T N p)) (nI p)) 5 877025 0 x.toNatClampNeg (nI V))
    ∨ (r_25 (nI lo) (nI hi) C = -1 ∧ r_166 x (nI lo) (nI hi) m = 0 ∧ z_NO (m_25 (nI lo) (nI hi) C) (m_166 x (nI lo) (nI hi) m))) := by
  have hle := h.le
  obtain ⟨g1, g2, g3, g4, g5⟩ := h.go hp
  obtain ⟨a1, a2, a3, a4, a5, a6, a7, a8, a9, a10⟩ := h
  obtain ⟨b1, b2, b3⟩ := z_25 (lo := lo) (hi := hi) a1 hle.1 hhi hlo a5 a3 a4 g1
  obtain ⟨c1, c2, c3⟩ := z_166 (lo := lo) (hi := hi) (x := x) a2 a8 a9 hx a7 hhi hlo a10
  refine ⟨b1, c1, ?_⟩
  by_cases q : z_xD T N p = true
  · obtain ⟨y1, y2⟩ := (z_xpd (T := T) hle.1).2 q
    obtain ⟨v1, v2⟩ := z_vnr (T := T) (lo := lo) (hi := hi) (n := z_xn (z_xD T N) N p - p) (i := p) hhi
    by_cases g : lo ≤ z_vn T 10000 (z_xn (z_xD T N) N p - p) p 0 ∧ z_vn T 10000 (z_xn (z_xD T N) N p - p) p 0 ≤ hi
    · obtain ⟨d1, d2⟩ := (b3 q).1 g
      obtain ⟨e1, e2⟩ := (c3 q).1 (v1.mp g)
      rw [v2 g.2] at e2
      exact .inl ⟨_, g.1, g.2, by omega, d1, d2.trans g2, e1, e2.trans (by rw [y1])⟩
    · obtain ⟨d1, d2⟩ := (b3 q).2 g
      obtain ⟨e1, e2⟩ := (c3 q).2 (fun z => g (v1.mpr z))
      rw [d2, e2]
      exact .inr ⟨d1, e1, z_er_NO (by decide)⟩
  · obtain ⟨d1, d2⟩ := b2 q
    obtain ⟨e1, e2⟩ := c2 q
    rw [d2, e2]
    exact .inr ⟨d1, e1, z_er_NO (by decide)⟩
/-- a value of a property -/
theorem z_value (h : z_RS T N p i C m) (hD : z_DR c (c + 1) C m) (hk : z_gf m 0 c = 0) (hw : w < 10) :
    p_24 (nI c) (nI w) C ∧ p_166 (nI (188 + 56 * c) + nI (10 + w)) (nI (z_lo w)) (nI (z_hi w)) m ∧
    ((r_166 (nI (188 + 56 * c) + nI (10 + w)) (nI (z_lo w)) (nI (z_hi w)) m = 1 ∧ ∃ p' i', p < p' ∧ z_RS T N p' i' (m_24 (nI c) (nI w) C) (m_166 (nI (188 + 56 * c) + nI (10 + w)) (nI (z_lo w)) (nI (z_hi w)) m) ∧ z_DR c (c + 1) (m_24 (nI c) (nI w) C) (m_166 (nI (188 + 56 * c) + nI (10 + w)) (nI (z_lo w)) (nI (z_hi w)) m) ∧ z_gf (m_166 (nI (188 + 56 * c) + nI (10 + w)) (nI (z_lo w)) (nI (z_hi w)) m) 0 c = 0)
    ∨ (r_166 (nI (188 + 56 * c) + nI (10 + w)) (nI (z_lo w)) (nI (z_hi w)) m = 0 ∧ z_NO (m_24 (nI c) (nI w) C) (m_166 (nI (188 + 56 * c) + nI (10 + w)) (nI (z_lo w)) (nI (z_hi w)) m))) := by
  have hc : c + 1 ≤ 16 := hD.1.2.2.1
  obtain ⟨r1, r2⟩ := z_ro hw
  obtain ⟨l1, l2⟩ := z_lohi hw
  rw [z_add]
  obtain ⟨p', hp⟩ : ∃ p', p' = z_xn (z_xB T N) N (z_xe T N p) := ⟨_, rfl⟩
  obtain ⟨a1, a2, a3⟩ := z_num (x := nI (188 + 56 * c + (10 + w))) h (vp_in_nI (by omega) (by omega)) l1 l2 hp
  obtain ⟨g1, g2, g3, g4, g5⟩ := h.go hp
  have vw : vp_in (nI w) 10 := vp_in_nI hw (by omega)
  have ix : (nI c * (10 : Int32) + nI w).toNatClampNeg = c * 10 + w := z_pr c w (by omega) hw
  have vx : vp_in (nI c * (10 : Int32) + nI w) 160 := z_pv c w (by omega) hw
  unfold p_24 m_24
  rw [z_cls (show w < 2000000000 by omega), r1, r2]
  refine ⟨⟨vw, vw, a1, fun _ => trivial, fun _ => vx⟩, a2, ?_⟩
  rcases a3 with ⟨V, v1, v2, v3, e1, e2, e3, e4⟩ | ⟨e1, e2, e3⟩
  · have nV : ¬ nI V = -1 := fun z => by
      have : (nI V).toInt = V := nI_toInt (by omega)
      rw [z] at this; have : (-1 : Int32).toInt = -1 := by decide
      omega
    rw [e1, if_neg nV, e2, e4, ix, z_cls (show 188 + 56 * c + (10 + w) < 2000000000 by omega)]
    refine .inl ⟨e3, p', z_xe T N p, v3, ?_, ?_, ?_⟩
    · exact (h.on (b := nI p) g3 hp).cg (fun s r i q => z_so (by omega)) (fun s r i q => z_so q)
    · exact (hD.rd).pw ((z_gf_cg (fun i => z_pnt_o (by decide)) 0 c).trans hk) hw ⟨V, v1, v2, rfl⟩
    · rw [z_gf_set (by omega) (by omega), if_neg (fun z => by omega)]
      exact (z_gf_cg (fun i => z_pnt_o (by decide)) 0 c).trans hk
  · rw [e1, if_pos rfl]; exact .inr ⟨e2, e3⟩
end ZL5
