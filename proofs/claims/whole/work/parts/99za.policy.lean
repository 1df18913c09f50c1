/-! LOAD, 6: the words seen by both; a policy (by wip/whole/gen99za.py) -/
section ZL6
variable {C C' m m' : ux_M} {T : Nat → Int32} {N i j p p' q n u w c d e L : Nat} {V a b : Int32}
theorem z_iwd_l (h : z_iwd T N p w L) (hL : 1 ≤ L) : z_xL T N p = true := by
  apply Classical.byContradiction; intro q
  have := h.1
  rw [z_xn_f q, Nat.sub_self] at this
  omega
theorem z_wb0 (h : z_RB T N p C m) : p_13w0 C ∧ p_154w0 m ∧ ((r_13w0 C = 1 ∧ r_154w0 m = 1 ∧ z_xL T N p = true) ∨ (r_13w0 C = 0 ∧ r_154w0 m = 0)) := by
  have hle := h.1.le
  obtain ⟨⟨a1, a2, a3, a4, a5, a6, a7, a8, a9, a10⟩, hb⟩ := h
  obtain ⟨b1, b2⟩ := z_13w0 a1 hle.1 a5 a3 a4
  obtain ⟨c1, c2⟩ := z_154w0 a2 hle.1 hb
  refine ⟨b1, c1, ?_⟩
  rcases b2 with ⟨b2, b3⟩ | ⟨b2, b3⟩
  · rcases c2 with ⟨c2, c3⟩ | ⟨c2, c3⟩
    · exact .inl ⟨b2, c2, z_iwd_l b3 (by omega)⟩
    · exact absurd b3 c3
  · rcases c2 with ⟨c2, c3⟩ | ⟨c2, c3⟩
    · exact absurd c3 b3
    · exact .inr ⟨b2, c2⟩
theorem z_wb1 (h : z_RB T N p C m) : p_13w1 C ∧ p_154w1 m ∧ ((r_13w1 C = 1 ∧ r_154w1 m = 1 ∧ z_xL T N p = true) ∨ (r_13w1 C = 0 ∧ r_154w1 m = 0)) := by
  have hle := h.1.le
  obtain ⟨⟨a1, a2, a3, a4, a5, a6, a7, a8, a9, a10⟩, hb⟩ := h
  obtain ⟨b1, b2⟩ := z_13w1 a1 hle.1 a5 a3 a4
  obtain ⟨c1, c2⟩ := z_154w1 a2 hle.1 hb
  refine ⟨b1, c1, ?_⟩
  rcases b2 with ⟨b2, b3⟩ | ⟨b2, b3⟩
  · rcases c2 with ⟨c2, c3⟩ | ⟨c2, c3⟩
    · exact .inl ⟨b2, c2, z_iwd_l b3 (by omega)⟩
    · exact absurd b3 c3
  · rcases c2 with ⟨c2, c3⟩ | ⟨c2, c3⟩
    · exact absurd c3 b3
    · exact .inr ⟨b2, c2⟩
theorem z_wb2 (h : z_RB T N p C m) : p_13w2 C ∧ p_154w2 m ∧ ((r_13w2 C = 1 ∧ r_154w2 m = 1 ∧ z_xL T N p = true) ∨ (r_13w2 C = 0 ∧ r_154w2 m = 0)) := by
  have hle := h.1.le
  obtain ⟨⟨a1, a2, a3, a4, a5, a6, a7, a8, a9, a10⟩, hb⟩ := h
  obtain ⟨b1, b2⟩ := z_13w2 a1 hle.1 a5 a3 a4
  obtain ⟨c1, c2⟩ := z_154w2 a2 hle.1 hb
  refine ⟨b1, c1, ?_⟩
  rcases b2 with ⟨b2, b3⟩ | ⟨b2, b3⟩
  · rcases c2 with ⟨c2, c3⟩ | ⟨c2, c3⟩
    · exact .inl ⟨b2, c2, z_iwd_l b3 (by omega)⟩
    · exact absurd b3 c3
  · rcases c2 with ⟨c2, c3⟩ | ⟨c2, c3⟩
    · exact absurd c3 b3
    · exact .inr ⟨b2, c2⟩
theorem z_wb3 (h : z_RB T N p C m) : p_13w3 C ∧ p_154w3 m ∧ ((r_13w3 C = 1 ∧ r_154w3 m = 1 ∧ z_xL T N p = true) ∨ (r_13w3 C = 0 ∧ r_154w3 m = 0)) := by
  have hle := h.1.le
  obtain ⟨⟨a1, a2, a3, a4, a5, a6, a7, a8, a9, a10⟩, hb⟩ := h
  obtain ⟨b1, b2⟩ := z_13w3 a1 hle.1 a5 a3 a4
  obtain ⟨c1, c2⟩ := z_154w3 a2 hle.1 hb
  refine ⟨b1, c1, ?_⟩
  rcases b2 with ⟨b2, b3⟩ | ⟨b2, b3⟩
  · rcases c2 with ⟨c2, c3⟩ | ⟨c2, c3⟩
    · exact .inl ⟨b2, c2, z_iwd_l b3 (by omega)⟩
    · exact absurd b3 c3
  · rcases c2 with ⟨c2, c3⟩ | ⟨c2, c3⟩
    · exact absurd c3 b3
    · exact .inr ⟨b2, c2⟩
theorem z_wb4 (h : z_RB T N p C m) : p_13w4 C ∧ p_154w4 m ∧ ((r_13w4 C = 1 ∧ r_154w4 m = 1 ∧ z_xL T N p = true) ∨ (r_13w4 C = 0 ∧ r_154w4 m = 0)) := by
  have hle := h.1.le
  obtain ⟨⟨a1, a2, a3, a4, a5, a6, a7, a8, a9, a10⟩, hb⟩ := h
  obtain ⟨b1, b2⟩ := z_13w4 a1 hle.1 a5 a3 a4
  obtain ⟨c1, c2⟩ := z_154w4 a2 hle.1 hb
  refine ⟨b1, c1, ?_⟩
  rcases b2 with ⟨b2, b3⟩ | ⟨b2, b3⟩
  · rcases c2 with ⟨c2, c3⟩ | ⟨c2, c3⟩
    · exact .inl ⟨b2, c2, z_iwd_l b3 (by omega)⟩
    · exact absurd b3 c3
  · rcases c2 with ⟨c2, c3⟩ | ⟨c2, c3⟩
    · exact absurd c3 b3
    · exact .inr ⟨b2, c2⟩
theorem z_wb5 (h : z_RB T N p C m) : p_13w5 C ∧ p_154w5 m ∧ ((r_13w5 C = 1 ∧ r_154w5 m = 1 ∧ z_xL T N p = true) ∨ (r_13w5 C = 0 ∧ r_154w5 m = 0)) := by
  have hle := h.1.le
  obtain ⟨⟨a1, a2, a3, a4, a5, a6, a7, a8, a9, a10⟩, hb⟩ := h
  obtain ⟨b1, b2⟩ := z_13w5 a1 hle.1 a5 a3 a4
  obtain ⟨c1, c2⟩ := z_154w5 a2 hle.1 hb
  refine ⟨b1, c1, ?_⟩
  rcases b2 with ⟨b2, b3⟩ | ⟨b2, b3⟩
  · rcases c2 with ⟨c2, c3⟩ | ⟨c2, c3⟩
    · exact .inl ⟨b2, c2, z_iwd_l b3 (by omega)⟩
    · exact absurd b3 c3
  · rcases c2 with ⟨c2, c3⟩ | ⟨c2, c3⟩
    · exact absurd c3 b3
    · exact .inr ⟨b2, c2⟩
theorem z_wb6 (h : z_RB T N p C m) : p_13w6 C ∧ p_154w6 m ∧ ((r_13w6 C = 1 ∧ r_154w6 m = 1 ∧ z_xL T N p = true) ∨ (r_13w6 C = 0 ∧ r_154w6 m = 0)) := by
  have hle := h.1.le
  obtain ⟨⟨a1, a2, a3, a4, a5, a6, a7, a8, a9, a10⟩, hb⟩ := h
  obtain ⟨b1, b2⟩ := z_13w6 a1 hle.1 a5 a3 a4
  obtain ⟨c1, c2⟩ := z_154w6 a2 hle.1 hb
  refine ⟨b1, c1, ?_⟩
  rcases b2 with ⟨b2, b3⟩ | ⟨b2, b3⟩
  · rcases c2 with ⟨c2, c3⟩ | ⟨c2, c3⟩
    · exact .inl ⟨b2, c2, z_iwd_l b3 (by omega)⟩
    · exact absurd b3 c3
  · rcases c2 with ⟨c2, c3⟩ | ⟨c2, c3⟩
    · exact absurd c3 b3
    · exact .inr ⟨b2, c2⟩
theorem z_wb7 (h : z_RB T N p C m) : p_13w7 C ∧ p_154w7 m ∧ ((r_13w7 C = 1 ∧ r_154w7 m = 1 ∧ z_xL T N p = true) ∨ (r_13w7 C = 0 ∧ r_154w7 m = 0)) := by
  have hle := h.1.le
  obtain ⟨⟨a1, a2, a3, a4, a5, a6, a7, a8, a9, a10⟩, hb⟩ := h
  obtain ⟨b1, b2⟩ := z_13w7 a1 hle.1 a5 a3 a4
  obtain ⟨c1, c2⟩ := z_154w7 a2 hle.1 hb
  refine ⟨b1, c1, ?_⟩
  rcases b2 with ⟨b2, b3⟩ | ⟨b2, b3⟩
  · rcases c2 with ⟨c2, c3⟩ | ⟨c2, c3⟩
    · exact .inl ⟨b2, c2, z_iwd_l b3 (by omega)⟩
    · exact absurd b3 c3
  · rcases c2 with ⟨c2, c3⟩ | ⟨c2, c3⟩
    · exact absurd c3 b3
    · exact .inr ⟨b2, c2⟩
theorem z_wb8 (h : z_RB T N p C m) : p_13w8 C ∧ p_154w8 m ∧ ((r_13w8 C = 1 ∧ r_154w8 m = 1 ∧ z_xL T N p = true) ∨ (r_13w8 C = 0 ∧ r_154w8 m = 0)) := by
  have hle := h.1.le
  obtain ⟨⟨a1, a2, a3, a4, a5, a6, a7, a8, a9, a10⟩, hb⟩ := h
  obtain ⟨b1, b2⟩ := z_13w8 a1 hle.1 a5 a3 a4
  obtain ⟨c1, c2⟩ := z_154w8 a2 hle.1 hb
  refine ⟨b1, c1, ?_⟩
  rcases b2 with ⟨b2, b3⟩ | ⟨b2, b3⟩
  · rcases c2 with ⟨c2, c3⟩ | ⟨c2, c3⟩
    · exact .inl ⟨b2, c2, z_iwd_l b3 (by omega)⟩
    · exact absurd b3 c3
  · rcases c2 with ⟨c2, c3⟩ | ⟨c2, c3⟩
    · exact absurd c3 b3
    · exact .inr ⟨b2, c2⟩
theorem z_wb9 (h : z_RB T N p C m) : p_13w9 C ∧ p_154w9 m ∧ ((r_13w9 C = 1 ∧ r_154w9 m = 1 ∧ z_xL T N p = true) ∨ (r_13w9 C = 0 ∧ r_154w9 m = 0)) := by
  have hle := h.1.le
  obtain ⟨⟨a1, a2, a3, a4, a5, a6, a7, a8, a9, a10⟩, hb⟩ := h
  obtain ⟨b1, b2⟩ := z_13w9 a1 hle.1 a5 a3 a4
  obtain ⟨c1, c2⟩ := z_154w9 a2 hle.1 hb
  refine ⟨b1, c1, ?_⟩
  rcases b2 with ⟨b2, b3⟩ | ⟨b2, b3⟩
  · rcases c2 with ⟨c2, c3⟩ | ⟨c2, c3⟩
    · exact .inl ⟨b2, c2, z_iwd_l b3 (by omega)⟩
    · exact absurd b3 c3
  · rcases c2 with ⟨c2, c3⟩ | ⟨c2, c3⟩
    · exact absurd c3 b3
    · exact .inr ⟨b2, c2⟩
theorem z_wb10 (h : z_RB T N p C m) : p_13w10 C ∧ p_154w10 m ∧ ((r_13w10 C = 1 ∧ r_154w10 m = 1 ∧ z_xL T N p = true) ∨ (r_13w10 C = 0 ∧ r_154w10 m = 0)) := by
  have hle := h.1.le
  obtain ⟨⟨a1, a2, a3, a4, a5, a6, a7, a8, a9, a10⟩, hb⟩ := h
  obtain ⟨b1, b2⟩ := z_13w10 a1 hle.1 a5 a3 a4
  obtain ⟨c1, c2⟩ := z_154w10 a2 hle.1 hb
  refine ⟨b1, c1, ?_⟩
  rcases b2 with ⟨b2, b3⟩ | ⟨b2, b3⟩
  · rcases c2 with ⟨c2, c3⟩ | ⟨c2, c3⟩
    · exact .inl ⟨b2, c2, z_iwd_l b3 (by omega)⟩
    · exact absurd b3 c3
  · rcases c2 with ⟨c2, c3⟩ | ⟨c2, c3⟩
    · exact absurd c3 b3
    · exact .inr ⟨b2, c2⟩
theorem z_wb11 (h : z_RB T N p C m) : p_13w11 C ∧ p_154w11 m ∧ ((r_13w11 C = 1 ∧ r_154w11 m = 1 ∧ z_xL T N p = true) ∨ (r_13w11 C = 0 ∧ r_154w11 m = 0)) := by
  have hle := h.1.le
  obtain ⟨⟨a1, a2, a3, a4, a5, a6, a7, a8, a9, a10⟩, hb⟩ := h
  obtain ⟨b1, b2⟩ := z_13w11 a1 hle.1 a5 a3 a4
  obtain ⟨c1, c2⟩ := z_154w11 a2 hle.1 hb
  refine ⟨b1, c1, ?_⟩
  rcases b2 with ⟨b2, b3⟩ | ⟨b2, b3⟩
  · rcases c2 with ⟨c2, c3⟩ | ⟨c2, c3⟩
    · exact .inl ⟨b2, c2, z_iwd_l b3 (by omega)⟩
    · exact absurd b3 c3
  · rcases c2 with ⟨c2, c3⟩ | ⟨c2, c3⟩
    · exact absurd c3 b3
    · exact .inr ⟨b2, c2⟩
theorem z_wb12 (h : z_RB T N p C m) : p_13w12 C ∧ p_154w12 m ∧ ((r_13w12 C = 1 ∧ r_154w12 m = 1 ∧ z_xL T N p = true) ∨ (r_13w12 C = 0 ∧ r_154w12 m = 0)) := by
  have hle := h.1.le
  obtain ⟨⟨a1, a2, a3, a4, a5, a6, a7, a8, a9, a10⟩, hb⟩ := h
  obtain ⟨b1, b2⟩ := z_13w12 a1 hle.1 a5 a3 a4
  obtain ⟨c1, c2⟩ := z_154w12 a2 hle.1 hb
  refine ⟨b1, c1, ?_⟩
  rcases b2 with ⟨b2, b3⟩ | ⟨b2, b3⟩
  · rcases c2 with ⟨c2, c3⟩ | ⟨c2, c3⟩
    · exact .inl ⟨b2, c2, z_iwd_l b3 (by omega)⟩
    · exact absurd b3 c3
  · rcases c2 with ⟨c2, c3⟩ | ⟨c2, c3⟩
    · exact absurd c3 b3
    · exact .inr ⟨b2, c2⟩
theorem z_wb13 (h : z_RB T N p C m) : p_13w13 C ∧ p_154w13 m ∧ ((r_13w13 C = 1 ∧ r_154w13 m = 1 ∧ z_xL T N p = true) ∨ (r_13w13 C = 0 ∧ r_154w13 m = 0)) := by
  have hle := h.1.le
  obtain ⟨⟨a1, a2, a3, a4, a5, a6, a7, a8, a9, a10⟩, hb⟩ := h
  obtain ⟨b1, b2⟩ := z_13w13 a1 hle.1 a5 a3 a4
  obtain ⟨c1, c2⟩ := z_154w13 a2 hle.1 hb
  refine ⟨b1, c1, ?_⟩
  rcases b2 with ⟨b2, b3⟩ | ⟨b2, b3⟩
  · rcases c2 with ⟨c2, c3⟩ | ⟨c2, c3⟩
    · exact .inl ⟨b2, c2, z_iwd_l b3 (by omega)⟩
    · exact absurd b3 c3
  · rcases c2 with ⟨c2, c3⟩ | ⟨c2, c3⟩
    · exact absurd c3 b3
    · exact .inr ⟨b2, c2⟩
theorem z_wb14 (h : z_RB T N p C m) : p_13w14 C ∧ p_154w14 m ∧ ((r_13w14 C = 1 ∧ r_154w14 m = 1 ∧ z_xL T N p = true) ∨ (r_13w14 C = 0 ∧ r_154w14 m = 0)) := by
  have hle := h.1.le
  obtain ⟨⟨a1, a2, a3, a4, a5, a6, a7, a8, a9, a10⟩, hb⟩ := h
  obtain ⟨b1, b2⟩ := z_13w14 a1 hle.1 a5 a3 a4
  obtain ⟨c1, c2⟩ := z_154w14 a2 hle.1 hb
  refine ⟨b1, c1, ?_⟩
  rcases b2 with ⟨b2, b3⟩ | ⟨b2, b3⟩
  · rcases c2 with ⟨c2, c3⟩ | ⟨c2, c3⟩
    · exact .inl ⟨b2, c2, z_iwd_l b3 (by omega)⟩
    · exact absurd b3 c3
  · rcases c2 with ⟨c2, c3⟩ | ⟨c2, c3⟩
    · exact absurd c3 b3
    · exact .inr ⟨b2, c2⟩
theorem z_wb15 (h : z_RB T N p C m) : p_13w15 C ∧ p_154w15 m ∧ ((r_13w15 C = 1 ∧ r_154w15 m = 1 ∧ z_xL T N p = true) ∨ (r_13w15 C = 0 ∧ r_154w15 m = 0)) := by
  have hle := h.1.le
  obtain ⟨⟨a1, a2, a3, a4, a5, a6, a7, a8, a9, a10⟩, hb⟩ := h
  obtain ⟨b1, b2⟩ := z_13w15 a1 hle.1 a5 a3 a4
  obtain ⟨c1, c2⟩ := z_154w15 a2 hle.1 hb
  refine ⟨b1, c1, ?_⟩
  rcases b2 with ⟨b2, b3⟩ | ⟨b2, b3⟩
  · rcases c2 with ⟨c2, c3⟩ | ⟨c2, c3⟩
    · exact .inl ⟨b2, c2, z_iwd_l b3 (by omega)⟩
    · exact absurd b3 c3
  · rcases c2 with ⟨c2, c3⟩ | ⟨c2, c3⟩
    · exact absurd c3 b3
    · exact .inr ⟨b2, c2⟩
theorem z_wb16 (h : z_RB T N p C m) : p_13w16 C ∧ p_154w16 m ∧ ((r_13w16 C = 1 ∧ r_154w16 m = 1 ∧ z_xL T N p = true) ∨ (r_13w16 C = 0 ∧ r_154w16 m = 0)) := by
  have hle := h.1.le
  obtain ⟨⟨a1, a2, a3, a4, a5, a6, a7, a8, a9, a10⟩, hb⟩ := h
  obtain ⟨b1, b2⟩ := z_13w16 a1 hle.1 a5 a3 a4
  obtain ⟨c1, c2⟩ := z_154w16 a2 hle.1 hb
  refine ⟨b1, c1, ?_⟩
  rcases b2 with ⟨b2, b3⟩ | ⟨b2, b3⟩
  · rcases c2 with ⟨c2, c3⟩ | ⟨c2, c3⟩
    · exact .inl ⟨b2, c2, z_iwd_l b3 (by omega)⟩
    · exact absurd b3 c3
  · rcases c2 with ⟨c2, c3⟩ | ⟨c2, c3⟩
    · exact absurd c3 b3
    · exact .inr ⟨b2, c2⟩
theorem z_wb17 (h : z_RB T N p C m) : p_13w17 C ∧ p_154w17 m ∧ ((r_13w17 C = 1 ∧ r_154w17 m = 1 ∧ z_xL T N p = true) ∨ (r_13w17 C = 0 ∧ r_154w17 m = 0)) := by
  have hle := h.1.le
  obtain ⟨⟨a1, a2, a3, a4, a5, a6, a7, a8, a9, a10⟩, hb⟩ := h
  obtain ⟨b1, b2⟩ := z_13w17 a1 hle.1 a5 a3 a4
  obtain ⟨c1, c2⟩ := z_154w17 a2 hle.1 hb
  refine ⟨b1, c1, ?_⟩
  rcases b2 with ⟨b2, b3⟩ | ⟨b2, b3⟩
  · rcases c2 with ⟨c2, c3⟩ | ⟨c2, c3⟩
    · exact .inl ⟨b2, c2, z_iwd_l b3 (by omega)⟩
    · exact absurd b3 c3
  · rcases c2 with ⟨c2, c3⟩ | ⟨c2, c3⟩
    · exact absurd c3 b3
    · exact .inr ⟨b2, c2⟩
theorem z_wb18 (h : z_RB T N p C m) : p_13w18 C ∧ p_154w18 m ∧ ((r_13w18 C = 1 ∧ r_154w18 m = 1 ∧ z_xL T N p = true) ∨ (r_13w18 C = 0 ∧ r_154w18 m = 0)) := by
  have hle := h.1.le
  obtain ⟨⟨a1, a2, a3, a4, a5, a6, a7, a8, a9, a10⟩, hb⟩ := h
  obtain ⟨b1, b2⟩ := z_13w18 a1 hle.1 a5 a3 a4
  obtain ⟨c1, c2⟩ := z_154w18 a2 hle.1 hb
  refine ⟨b1, c1, ?_⟩
  rcases b2 with ⟨b2, b3⟩ | ⟨b2, b3⟩
  · rcases c2 with ⟨c2, c3⟩ | ⟨c2, c3⟩
    · exact .inl ⟨b2, c2, z_iwd_l b3 (by omega)⟩
    · exact absurd b3 c3
  · rcases c2 with ⟨c2, c3⟩ | ⟨c2, c3⟩
    · exact absurd c3 b3
    · exact .inr ⟨b2, c2⟩
theorem z_wb19 (h : z_RB T N p C m) : p_13w19 C ∧ p_154w19 m ∧ ((r_13w19 C = 1 ∧ r_154w19 m = 1 ∧ z_xL T N p = true) ∨ (r_13w19 C = 0 ∧ r_154w19 m = 0)) := by
  have hle := h.1.le
  obtain ⟨⟨a1, a2, a3, a4, a5, a6, a7, a8, a9, a10⟩, hb⟩ := h
  obtain ⟨b1, b2⟩ := z_13w19 a1 hle.1 a5 a3 a4
  obtain ⟨c1, c2⟩ := z_154w19 a2 hle.1 hb
  refine ⟨b1, c1, ?_⟩
  rcases b2 with ⟨b2, b3⟩ | ⟨b2, b3⟩
  · rcases c2 with ⟨c2, c3⟩ | ⟨c2, c3⟩
    · exact .inl ⟨b2, c2, z_iwd_l b3 (by omega)⟩
    · exact absurd b3 c3
  · rcases c2 with ⟨c2, c3⟩ | ⟨c2, c3⟩
    · exact absurd c3 b3
    · exact .inr ⟨b2, c2⟩
theorem z_wb20 (h : z_RB T N p C m) : p_13w20 C ∧ p_154w20 m ∧ ((r_13w20 C = 1 ∧ r_154w20 m = 1 ∧ z_xL T N p = true) ∨ (r_13w20 C = 0 ∧ r_154w20 m = 0)) := by
  have hle := h.1.le
  obtain ⟨⟨a1, a2, a3, a4, a5, a6, a7, a8, a9, a10⟩, hb⟩ := h
  obtain ⟨b1, b2⟩ := z_13w20 a1 hle.1 a5 a3 a4
  obtain ⟨c1, c2⟩ := z_154w20 a2 hle.1 hb
  refine ⟨b1, c1, ?_⟩
  rcases b2 with ⟨b2, b3⟩ | ⟨b2, b3⟩
  · rcases c2 with ⟨c2, c3⟩ | ⟨c2, c3⟩
    · exact .inl ⟨b2, c2, z_iwd_l b3 (by omega)⟩
    · exact absurd b3 c3
  · rcases c2 with ⟨c2, c3⟩ | ⟨c2, c3⟩
    · exact absurd c3 b3
    · exact .inr ⟨b2, c2⟩
theorem z_wb21 (h : z_RB T N p C m) : p_13w21 C ∧ p_154w21 m ∧ ((r_13w21 C = 1 ∧ r_154w21 m = 1 ∧ z_xL T N p = true) ∨ (r_13w21 C = 0 ∧ r_154w21 m = 0)) := by
  have hle := h.1.le
  obtain ⟨⟨a1, a2, a3, a4, a5, a6, a7, a8, a9, a10⟩, hb⟩ := h
  obtain ⟨b1, b2⟩ := z_13w21 a1 hle.1 a5 a3 a4
  obtain ⟨c1, c2⟩ := z_154w21 a2 hle.1 hb
  refine ⟨b1, c1, ?_⟩
  rcases b2 with ⟨b2, b3⟩ | ⟨b2, b3⟩
  · rcases c2 with ⟨c2, c3⟩ | ⟨c2, c3⟩
    · exact .inl ⟨b2, c2, z_iwd_l b3 (by omega)⟩
    · exact absurd b3 c3
  · rcases c2 with ⟨c2, c3⟩ | ⟨c2, c3⟩
    · exact absurd c3 b3
    · exact .inr ⟨b2, c2⟩
theorem z_RB.cg (h : z_RB T N p C m) (hC : ∀ s r i, ¬ (344085 ≤ s ∧ s < 600000) → C' 4 s r i = C 4 s r i) (hm : ∀ s r i, ¬ s = 877025 → m' 5 s r i = m 5 s r i) : z_RB T N p C' m' :=
  ⟨h.1.cg hC hm, (hm _ _ _ (by decide)).trans h.2⟩
/-- what one step of reading comes to -/
def z_stp (T : Nat → Int32) (N p c : Nat) (r : Int32) (C m : ux_M) : Prop := (r = 1 ∧ ∃ p' i', p < p' ∧ z_RS T N p' i' C m ∧ z_DR c (c + 1) C m ∧ z_gf m 0 c = 0) ∨ (r = 0 ∧ z_NO C m)
theorem z_pol1 (h : z_RB T N p C m) (hD : z_DR c (c + 1) C m) (hk : z_gf m 0 c = 0) (hl : z_xL T N p = true) (hn : n ≤ 2) : p_23_41 (nI c) (nI n) C ∧ p_168_45 (nI n) m ∧ z_stp T N p c (r_168_45 (nI n) m) (m_23_41 (nI c) (nI n) C) (m_168_45 (nI n) m) := by
  have hc : c + 1 ≤ 16 := hD.1.2.2.1
  have n1 : ¬ nI n = -1 := fun z => by
    have : (nI n).toInt = n := nI_toInt (by omega)
    rw [z] at this; have : (-1 : Int32).toInt = -1 := by decide
    omega
  have ix : (nI c * (10 : Int32) + (5 : Int32)).toNatClampNeg = c * 10 + 5 := z_pr c 5 (by omega) (by omega)
  have vx : vp_in (nI c * (10 : Int32) + (5 : Int32)) 160 := z_pv c 5 (by omega) (by omega)
  have e14 : m 5 819253 0 14 + (15 : Int32) = nI (188 + 56 * c + (10 + 5)) := by rw [(hD.2.2.2.2.2.1 rfl).1]; exact z_add _ 15
  have v15 : vp_in (m 5 819253 0 14 + (15 : Int32)) 1084 := by rw [e14]; exact vp_in_nI (by omega) (by omega)
  obtain ⟨p', hp⟩ : ∃ p', p' = z_xn (z_xB T N) N (z_xe T N p) := ⟨_, rfl⟩
  have h' : z_RB T N p (ux_set C 4 410881 0 (c * 10 + 5) (nI n)) (ux_set m 5 877025 0 (188 + 56 * c + (10 + 5)) (nI n)) := h.cg (fun s r i q => z_so (by omega)) (fun s r i q => z_so q)
  have hD' := hD.pw hk (w := 5) (V := nI n) (by omega) ⟨n, by rw [show z_lo 5 = 0 by decide]; omega, hn, rfl⟩
  have hk' : z_gf (ux_set m 5 877025 0 (188 + 56 * c + (10 + 5)) (nI n)) 0 c = 0 := by rw [z_gf_set (by omega) (by omega), if_neg (fun z => by omega)]; exact hk
  obtain ⟨a1, a2, a3, a4, a5, a6, a7, a8⟩ := h'.pass hl hp
  unfold p_23_41 p_168_45 r_168_45 m_23_41 m_168_45
  rw [if_neg n1, if_neg n1, if_neg n1, ix, e14, z_cls (show 188 + 56 * c + (10 + 5) < 2000000000 by omega)]
  refine ⟨⟨fun _ => ⟨vx, fun M2 e => by subst e; exact a1⟩, fun z => absurd z n1⟩, ⟨fun _ => ⟨by rw [← e14]; exact v15, fun M2 e => by subst e; exact ⟨a3, .inr a4⟩⟩, fun z => absurd z n1⟩, .inl ⟨a4, p', z_xe T N p, a6, a7, a8 c (c + 1) hD', ?_⟩⟩
  show z_gf (m_161 (ux_set m 5 877025 0 (188 + 56 * c + (10 + 5)) (nI n))) 0 c = 0
  rw [a5]
  exact (z_gf_cg (fun i => z_pnt_o (by decide)) 0 c).trans hk'
theorem z_polN (h : z_RB T N p C m) : p_23_41 (nI c) (-1) C ∧ p_168_45 (-1) m ∧ r_168_45 (-1) m = 0 ∧ z_NO (m_23_41 (nI c) (-1) C) (m_168_45 (-1) m) := by
  obtain ⟨⟨a1, a2, a3, a4, a5, a6, a7, a8, a9, a10⟩, hb⟩ := h
  obtain ⟨b1, b2, b3⟩ := z_160 (m := m) (a := 1) a7
  unfold p_23_41 p_168_45 r_168_45 m_23_41 m_168_45
  rw [if_pos rfl, if_pos rfl, if_pos rfl, b3, hb]
  refine ⟨⟨fun z => absurd rfl z, fun _ => trivial⟩, ⟨fun z => absurd rfl z, fun _ => ⟨b1, .inl b2⟩⟩, b2, ?_⟩
  show z_NO (z_er C 1 (C 4 671757 0 4)) _
  rw [a3]; exact z_er_NO (by decide)
/-- readPolicy -/
theorem z_policy (h : z_RS T N p i C m) (hD : z_DR c (c + 1) C m) (hk : z_gf m 0 c = 0) : p_23 (nI c) C ∧ p_168 m ∧ z_stp T N p c (r_168 m) (m_23 (nI c) C) (m_168 m) := by
  have h10 : ¬ (1 : Int32) = 0 := by decide
  obtain ⟨s1, _, s3, hB⟩ := h.see
  have hD1 : z_DR c (c + 1) C (m_152 m) := by rw [s3]; exact hD.cg (fun _ _ _ _ _ => rfl) (fun i => z_pnt_o (by decide)) (z_pnt_i (by omega))
  have hk1 : z_gf (m_152 m) 0 c = 0 := by rw [s3]; exact (z_gf_cg (fun i => z_pnt_o (by decide)) 0 c).trans hk
  obtain ⟨a1, a2, a3⟩ := z_wb12 hB
  obtain ⟨b1, b2, b3⟩ := z_wb13 hB
  obtain ⟨c1, c2, c3⟩ := z_wb14 hB
  unfold p_23 p_168 r_168 m_23 m_168
  rcases a3 with ⟨x1, x2, x3⟩ | ⟨x1, x2⟩
  · obtain ⟨d1, d2, d3⟩ := z_pol1 hB hD1 hk1 x3 (n := 0) (by omega)
    rw [x1, x2, if_neg h10, if_neg h10, if_neg h10]
    exact ⟨⟨a1, fun z => absurd z h10, fun _ => d1⟩, ⟨s1, a2, fun z => absurd z h10, fun _ => d2⟩, d3⟩
  · rw [x1, x2, if_pos rfl, if_pos rfl, if_pos rfl]
    rcases b3 with ⟨y1, y2, y3⟩ | ⟨y1, y2⟩
    · obtain ⟨d1, d2, d3⟩ := z_pol1 hB hD1 hk1 y3 (n := 1) (by omega)
      rw [y1, y2, if_neg h10, if_neg h10, if_neg h10]
      exact ⟨⟨a1, fun _ => ⟨b1, fun z => absurd z h10, fun _ => d1⟩, fun z => absurd rfl z⟩, ⟨s1, a2, fun _ => ⟨b2, fun z => absurd z h10, fun _ => d2⟩, fun z => absurd rfl z⟩, d3⟩
    · rw [y1, y2, if_pos rfl, if_pos rfl, if_pos rfl]
      rcases c3 with ⟨z1, z2, z3⟩ | ⟨z1, z2⟩
      · obtain ⟨d1, d2, d3⟩ := z_pol1 hB hD1 hk1 z3 (n := 2) (by omega)
        rw [z1, z2, if_neg h10, if_neg h10, if_neg h10]
        exact ⟨⟨a1, fun _ => ⟨b1, fun _ => ⟨c1, fun z => absurd z h10, fun _ => d1⟩, fun z => absurd rfl z⟩, fun z => absurd rfl z⟩, ⟨s1, a2, fun _ => ⟨b2, fun _ => ⟨c2, fun z => absurd z h10, fun _ => d2⟩, fun z => absurd rfl z⟩, fun z => absurd rfl z⟩, d3⟩
      · obtain ⟨d1, d2, d3, d4⟩ := z_polN (c := c) hB
        rw [z1, z2, if_pos rfl, if_pos rfl, if_pos rfl]
        exact ⟨⟨a1, fun _ => ⟨b1, fun _ => ⟨c1, fun _ => d1, fun z => absurd rfl z⟩, fun z => absurd rfl z⟩, fun z => absurd rfl z⟩, ⟨s1, a2, fun _ => ⟨b2, fun _ => ⟨c2, fun _ => d2, fun z => absurd rfl z⟩, fun z => absurd rfl z⟩, fun z => absurd rfl z⟩, .inr ⟨d3, d4⟩⟩
end ZL6
