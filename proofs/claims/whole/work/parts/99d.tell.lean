/-! THE CALLS THAT ONLY TELL (by wip/whole/gen99d.py) -/
section ZU1
variable {k c t B b u n s : Nat} {M M' m m' : ux_M} {x y v : Int32}
theorem z_f_92 (h : z_Q n M) (hx : z_iu M x) : z_op n M (p_92 x) (r_92 x) (fun M => M) (p_233 x) (r_233 x) (m_233 x) := by
  obtain ⟨c, t, B, u, ht, hB, hR, hs, hc, hu, h16, rfl⟩ := h.un hx
  obtain ⟨e1, e2, e3⟩ := z_235i hc hR.1.cn hu
  refine .th h ?_ ?_ ?_ ?_
  · unfold p_92; exact ⟨z_p93 hx, z_i16 h16⟩
  · unfold p_233 p_234; exact ⟨e1, fun _ => uu0 h16, fun _ => trivial⟩
  · unfold r_92 r_233 r_234; rw [if_pos e2, e3, of0 _ h16, z_thY, z_cl h16]; exact hR.1.kd hu
  · unfold m_233 m_234; rw [if_pos e2, e3]
theorem z_g_233 (h : z_Q n M) (hx : ¬ z_iu M x) : z_thr n M (p_233 x) (m_233 x) 1 := by
  obtain ⟨e1, e2, e3⟩ := h.o hx
  have e0 : ¬ r_235 x M = 0 := by rw [e2]; decide
  refine .th h ?_ ?_
  · unfold p_233 p_234; exact ⟨e1, fun z => absurd z e0, fun _ => trivial⟩
  · unfold m_233 m_234; rw [if_neg e0, e3]
theorem z_f_98 (h : z_Q n M) (hx : z_iu M x) : z_op n M (p_98 x) (r_98 x) (fun M => M) (p_240 x) (r_240 x) (m_240 x) := by
  obtain ⟨c, t, B, u, ht, hB, hR, hs, hc, hu, h16, rfl⟩ := h.un hx
  obtain ⟨e1, e2, e3⟩ := z_235i hc hR.1.cn hu
  refine .th h ?_ ?_ ?_ ?_
  · unfold p_98; exact ⟨z_p93 hx, z_i16 h16⟩
  · unfold p_240 p_234; exact ⟨e1, fun _ => uu20 h16, fun _ => trivial⟩
  · unfold r_98 r_240 r_234; rw [if_pos e2, e3, of20 _ h16, z_thY, z_cl h16]; exact hR.1.sv hu
  · unfold m_240 m_234; rw [if_pos e2, e3]
theorem z_g_240 (h : z_Q n M) (hx : ¬ z_iu M x) : z_thr n M (p_240 x) (m_240 x) 1 := by
  obtain ⟨e1, e2, e3⟩ := h.o hx
  have e0 : ¬ r_235 x M = 0 := by rw [e2]; decide
  refine .th h ?_ ?_
  · unfold p_240 p_234; exact ⟨e1, fun z => absurd z e0, fun _ => trivial⟩
  · unfold m_240 m_234; rw [if_neg e0, e3]
theorem z_f_122 (h : z_Q n M) (hx : z_iu M x) : z_op n M (p_122 x) (r_122 x) (fun M => M) (p_241 x) (r_241 x) (m_241 x) := by
  obtain ⟨c, t, B, u, ht, hB, hR, hs, hc, hu, h16, rfl⟩ := h.un hx
  obtain ⟨e1, e2, e3⟩ := z_235i hc hR.1.cn hu
  refine .th h ?_ ?_ ?_ ?_
  · unfold p_122; exact ⟨z_p93 hx, z_i16 h16⟩
  · unfold p_241 p_234; exact ⟨e1, fun _ => uu28 h16, fun _ => trivial⟩
  · unfold r_122 r_241 r_234; rw [if_pos e2, e3, of28 _ h16, z_thY, z_cl h16]; exact hR.1.d28 hu
  · unfold m_241 m_234; rw [if_pos e2, e3]
theorem z_g_241 (h : z_Q n M) (hx : ¬ z_iu M x) : z_thr n M (p_241 x) (m_241 x) 1 := by
  obtain ⟨e1, e2, e3⟩ := h.o hx
  have e0 : ¬ r_235 x M = 0 := by rw [e2]; decide
  refine .th h ?_ ?_
  · unfold p_241 p_234; exact ⟨e1, fun z => absurd z e0, fun _ => trivial⟩
  · unfold m_241 m_234; rw [if_neg e0, e3]
theorem z_f_124 (h : z_Q n M) (hx : z_iu M x) : z_op n M (p_124 x) (r_124 x) (fun M => M) (p_242 x) (r_242 x) (m_242 x) := by
  obtain ⟨c, t, B, u, ht, hB, hR, hs, hc, hu, h16, rfl⟩ := h.un hx
  obtain ⟨e1, e2, e3⟩ := z_235i hc hR.1.cn hu
  refine .th h ?_ ?_ ?_ ?_
  · unfold p_124; exact ⟨z_p93 hx, z_i16 h16⟩
  · unfold p_242 p_234; exact ⟨e1, fun _ => uu32 h16, fun _ => trivial⟩
  · unfold r_124 r_242 r_234; rw [if_pos e2, e3, of32 _ h16, z_thY, z_cl h16]; exact hR.1.d32 hu
  · unfold m_242 m_234; rw [if_pos e2, e3]
theorem z_g_242 (h : z_Q n M) (hx : ¬ z_iu M x) : z_thr n M (p_242 x) (m_242 x) 1 := by
  obtain ⟨e1, e2, e3⟩ := h.o hx
  have e0 : ¬ r_235 x M = 0 := by rw [e2]; decide
  refine .th h ?_ ?_
  · unfold p_242 p_234; exact ⟨e1, fun z => absurd z e0, fun _ => trivial⟩
  · unfold m_242 m_234; rw [if_neg e0, e3]
theorem z_f_125 (h : z_Q n M) (hx : z_iu M x) : z_op n M (p_125 x) (r_125 x) (fun M => M) (p_243 x) (r_243 x) (m_243 x) := by
  obtain ⟨c, t, B, u, ht, hB, hR, hs, hc, hu, h16, rfl⟩ := h.un hx
  obtain ⟨e1, e2, e3⟩ := z_235i hc hR.1.cn hu
  refine .th h ?_ ?_ ?_ ?_
  · unfold p_125; exact ⟨z_p93 hx, z_i16 h16⟩
  · unfold p_243 p_234; exact ⟨e1, fun _ => uu33 h16, fun _ => trivial⟩
  · unfold r_125 r_243 r_234; rw [if_pos e2, e3, of33 _ h16, z_thY, z_cl h16]; exact hR.1.d33 hu
  · unfold m_243 m_234; rw [if_pos e2, e3]
theorem z_g_243 (h : z_Q n M) (hx : ¬ z_iu M x) : z_thr n M (p_243 x) (m_243 x) 1 := by
  obtain ⟨e1, e2, e3⟩ := h.o hx
  have e0 : ¬ r_235 x M = 0 := by rw [e2]; decide
  refine .th h ?_ ?_
  · unfold p_243 p_234; exact ⟨e1, fun z => absurd z e0, fun _ => trivial⟩
  · unfold m_243 m_234; rw [if_neg e0, e3]
theorem z_f_126 (h : z_Q n M) (hx : z_iu M x) : z_op n M (p_126 x) (r_126 x) (fun M => M) (p_244 x) (r_244 x) (m_244 x) := by
  obtain ⟨c, t, B, u, ht, hB, hR, hs, hc, hu, h16, rfl⟩ := h.un hx
  obtain ⟨e1, e2, e3⟩ := z_235i hc hR.1.cn hu
  refine .th h ?_ ?_ ?_ ?_
  · unfold p_126; exact ⟨z_p93 hx, z_i16 h16⟩
  · unfold p_244 p_234; exact ⟨e1, fun _ => uu34 h16, fun _ => trivial⟩
  · unfold r_126 r_244 r_234; rw [if_pos e2, e3, of34 _ h16, z_thY, z_cl h16]; exact hR.1.d34 hu
  · unfold m_244 m_234; rw [if_pos e2, e3]
theorem z_g_244 (h : z_Q n M) (hx : ¬ z_iu M x) : z_thr n M (p_244 x) (m_244 x) 1 := by
  obtain ⟨e1, e2, e3⟩ := h.o hx
  have e0 : ¬ r_235 x M = 0 := by rw [e2]; decide
  refine .th h ?_ ?_
  · unfold p_244 p_234; exact ⟨e1, fun z => absurd z e0, fun _ => trivial⟩
  · unfold m_244 m_234; rw [if_neg e0, e3]
theorem z_f_128 (h : z_Q n M) (hx : z_iu M x) : z_op n M (p_128 x) (r_128 x) (fun M => M) (p_246 x) (r_246 x) (m_246 x) := by
  obtain ⟨c, t, B, u, ht, hB, hR, hs, hc, hu, h16, rfl⟩ := h.un hx
  obtain ⟨e1, e2, e3⟩ := z_235i hc hR.1.cn hu
  refine .th h ?_ ?_ ?_ ?_
  · unfold p_128; exact ⟨z_p93 hx, z_i16 h16⟩
  · unfold p_246 p_234; exact ⟨e1, fun _ => uu40 h16, fun _ => trivial⟩
  · unfold r_128 r_246 r_234; rw [if_pos e2, e3, of40 _ h16, z_thY, z_cl h16]; exact hR.1.d40 hu
  · unfold m_246 m_234; rw [if_pos e2, e3]
theorem z_g_246 (h : z_Q n M) (hx : ¬ z_iu M x) : z_thr n M (p_246 x) (m_246 x) 1 := by
  obtain ⟨e1, e2, e3⟩ := h.o hx
  have e0 : ¬ r_235 x M = 0 := by rw [e2]; decide
  refine .th h ?_ ?_
  · unfold p_246 p_234; exact ⟨e1, fun z => absurd z e0, fun _ => trivial⟩
  · unfold m_246 m_234; rw [if_neg e0, e3]
theorem z_f_129 (h : z_Q n M) (hx : z_iu M x) : z_op n M (p_129 x) (r_129 x) (fun M => M) (p_247 x) (r_247 x) (m_247 x) := by
  obtain ⟨c, t, B, u, ht, hB, hR, hs, hc, hu, h16, rfl⟩ := h.un hx
  obtain ⟨e1, e2, e3⟩ := z_235i hc hR.1.cn hu
  refine .th h ?_ ?_ ?_ ?_
  · unfold p_129; exact ⟨z_p93 hx, z_i16 h16⟩
  · unfold p_247 p_234; exact ⟨e1, fun _ => uu39 h16, fun _ => trivial⟩
  · unfold r_129 r_247 r_234; rw [if_pos e2, e3, of39 _ h16, z_thY, z_cl h16]; exact hR.1.d39 hu
  · unfold m_247 m_234; rw [if_pos e2, e3]
theorem z_g_247 (h : z_Q n M) (hx : ¬ z_iu M x) : z_thr n M (p_247 x) (m_247 x) 1 := by
  obtain ⟨e1, e2, e3⟩ := h.o hx
  have e0 : ¬ r_235 x M = 0 := by rw [e2]; decide
  refine .th h ?_ ?_
  · unfold p_247 p_234; exact ⟨e1, fun z => absurd z e0, fun _ => trivial⟩
  · unfold m_247 m_234; rw [if_neg e0, e3]
theorem z_f_113 (h : z_Q n M) (hx : z_iu M x) : z_op n M (p_113 x) (r_113 x) (fun M => M) (p_254 x) (r_254 x) (m_254 x) := by
  obtain ⟨c, t, B, u, ht, hB, hR, hs, hc, hu, h16, rfl⟩ := h.un hx
  obtain ⟨e1, e2, e3⟩ := z_235i hc hR.1.cn hu
  refine .th h ?_ ?_ ?_ ?_
  · unfold p_113; exact ⟨z_p93 hx, z_i16 h16⟩
  · unfold p_254 p_234; exact ⟨e1, fun _ => uu41 h16, fun _ => trivial⟩
  · unfold r_113 r_254 r_234; rw [if_pos e2, e3, of41 _ h16, z_thY, z_cl h16]; exact hR.1.d41 hu
  · unfold m_254 m_234; rw [if_pos e2, e3]
theorem z_g_254 (h : z_Q n M) (hx : ¬ z_iu M x) : z_thr n M (p_254 x) (m_254 x) 1 := by
  obtain ⟨e1, e2, e3⟩ := h.o hx
  have e0 : ¬ r_235 x M = 0 := by rw [e2]; decide
  refine .th h ?_ ?_
  · unfold p_254 p_234; exact ⟨e1, fun z => absurd z e0, fun _ => trivial⟩
  · unfold m_254 m_234; rw [if_neg e0, e3]
theorem z_f_131 (h : z_Q n M) (hx : z_iu M x) : z_op n M (p_131 x) (r_131 x) (fun M => M) (p_249 x) (r_249 x) (m_249 x) := by
  obtain ⟨c, t, B, u, ht, hB, hR, hs, hc, hu, h16, rfl⟩ := h.un hx
  obtain ⟨e1, e2, e3⟩ := z_235i hc hR.1.cn hu
  refine .th h ?_ ?_ ?_ ?_
  · unfold p_131; exact ⟨z_p93 hx, z_i16 h16, fun _ => trivial, fun _ => z_i16 h16⟩
  · unfold p_249 p_238; exact ⟨e1, fun _ => ⟨uu0 h16, fun _ => trivial, fun _ => uu42 h16⟩, fun _ => trivial⟩
  · unfold r_131 r_249 r_238; rw [if_pos e2, e3, of42 _ h16, of0 _ h16, z_thY, z_thY, z_cl h16, hR.1.kd hu, hR.1.d42 hu]
  · unfold m_249 m_238; rw [if_pos e2, e3, ite_self]
theorem z_g_249 (h : z_Q n M) (hx : ¬ z_iu M x) : z_thr n M (p_249 x) (m_249 x) 1 := by
  obtain ⟨e1, e2, e3⟩ := h.o hx
  have e0 : ¬ r_235 x M = 0 := by rw [e2]; decide
  refine .th h ?_ ?_
  · unfold p_249 p_238; exact ⟨e1, fun z => absurd z e0, fun _ => trivial⟩
  · unfold m_249 m_238; rw [if_neg e0, e3]
theorem z_f_132 (h : z_Q n M) (hx : z_iu M x) : z_op n M (p_132 x) (r_132 x) (fun M => M) (p_250 x) (r_250 x) (m_250 x) := by
  obtain ⟨c, t, B, u, ht, hB, hR, hs, hc, hu, h16, rfl⟩ := h.un hx
  obtain ⟨e1, e2, e3⟩ := z_235i hc hR.1.cn hu
  refine .th h ?_ ?_ ?_ ?_
  · unfold p_132; exact ⟨z_p93 hx, z_i16 h16, fun _ => trivial, fun _ => z_i16 h16⟩
  · unfold p_250 p_238; exact ⟨e1, fun _ => ⟨uu0 h16, fun _ => trivial, fun _ => uu43 h16⟩, fun _ => trivial⟩
  · unfold r_132 r_250 r_238; rw [if_pos e2, e3, of43 _ h16, of0 _ h16, z_thY, z_thY, z_cl h16, hR.1.kd hu, hR.1.d43 hu]
  · unfold m_250 m_238; rw [if_pos e2, e3, ite_self]
theorem z_g_250 (h : z_Q n M) (hx : ¬ z_iu M x) : z_thr n M (p_250 x) (m_250 x) 1 := by
  obtain ⟨e1, e2, e3⟩ := h.o hx
  have e0 : ¬ r_235 x M = 0 := by rw [e2]; decide
  refine .th h ?_ ?_
  · unfold p_250 p_238; exact ⟨e1, fun z => absurd z e0, fun _ => trivial⟩
  · unfold m_250 m_238; rw [if_neg e0, e3]
theorem z_f_133 (h : z_Q n M) (hx : z_iu M x) : z_op n M (p_133 x) (r_133 x) (fun M => M) (p_251 x) (r_251 x) (m_251 x) := by
  obtain ⟨c, t, B, u, ht, hB, hR, hs, hc, hu, h16, rfl⟩ := h.un hx
  obtain ⟨e1, e2, e3⟩ := z_235i hc hR.1.cn hu
  refine .th h ?_ ?_ ?_ ?_
  · unfold p_133; exact ⟨z_p93 hx, z_i16 h16, fun _ => trivial, fun _ => z_i16 h16⟩
  · unfold p_251 p_238; exact ⟨e1, fun _ => ⟨uu0 h16, fun _ => trivial, fun _ => uu44 h16⟩, fun _ => trivial⟩
  · unfold r_133 r_251 r_238; rw [if_pos e2, e3, of44 _ h16, of0 _ h16, z_thY, z_thY, z_cl h16, hR.1.kd hu, hR.1.d44 hu]
  · unfold m_251 m_238; rw [if_pos e2, e3, ite_self]
theorem z_g_251 (h : z_Q n M) (hx : ¬ z_iu M x) : z_thr n M (p_251 x) (m_251 x) 1 := by
  obtain ⟨e1, e2, e3⟩ := h.o hx
  have e0 : ¬ r_235 x M = 0 := by rw [e2]; decide
  refine .th h ?_ ?_
  · unfold p_251 p_238; exact ⟨e1, fun z => absurd z e0, fun _ => trivial⟩
  · unfold m_251 m_238; rw [if_neg e0, e3]
theorem z_f_110 (h : z_Q n M) (hx : z_iu M x) : z_op n M (p_110 x) (r_110 x) (fun M => M) (p_252 x) (r_252 x) (m_252 x) := by
  obtain ⟨c, t, B, u, ht, hB, hR, hs, hc, hu, h16, rfl⟩ := h.un hx
  obtain ⟨e1, e2, e3⟩ := z_235i hc hR.1.cn hu
  refine .th h ?_ ?_ ?_ ?_
  · unfold p_110 p_53 p_54; exact ⟨z_p93 hx, trivial⟩
  · unfold p_252 p_234; exact ⟨e1, fun _ => uu29 h16, fun _ => trivial⟩
  · unfold r_110 r_252 r_234; rw [if_pos e2, e3, of29 _ h16, z_thY]; exact hR.1.ty hR.2 hu
  · unfold m_252 m_234; rw [if_pos e2, e3]
theorem z_g_252 (h : z_Q n M) (hx : ¬ z_iu M x) : z_thr n M (p_252 x) (m_252 x) 1 := by
  obtain ⟨e1, e2, e3⟩ := h.o hx
  have e0 : ¬ r_235 x M = 0 := by rw [e2]; decide
  refine .th h ?_ ?_
  · unfold p_252 p_234; exact ⟨e1, fun z => absurd z e0, fun _ => trivial⟩
  · unfold m_252 m_234; rw [if_neg e0, e3]
theorem z_f_111 (h : z_Q n M) (hx : z_iu M x) : z_op n M (p_111 x) (r_111 x) (fun M => M) (p_253 x) (r_253 x) (m_253 x) := by
  obtain ⟨c, t, B, u, ht, hB, hR, hs, hc, hu, h16, rfl⟩ := h.un hx
  obtain ⟨e1, e2, e3⟩ := z_235i hc hR.1.cn hu
  refine .th h ?_ ?_ ?_ ?_
  · unfold p_111; exact z_p93 hx
  · unfold p_253 p_234; exact ⟨e1, fun _ => uu30 h16, fun _ => trivial⟩
  · have e := hR.1.jn (show u < 32 by omega)
    unfold r_111 r_253 r_234; rw [if_pos e2, e3, of30 _ h16, z_thY]
    simp only [z_shr _ (show u < 32 by omega), e, hu, decide_true, Bool.true_and]
    by_cases q : z_Y M 30 u = 1
    · rw [if_neg (by simp [q]), if_pos q]
    · rw [if_pos (by simp [q]), if_neg q]
  · unfold m_253 m_234; rw [ite_self, if_pos e2, e3]
theorem z_g_253 (h : z_Q n M) (hx : ¬ z_iu M x) : z_thr n M (p_253 x) (m_253 x) 1 := by
  obtain ⟨e1, e2, e3⟩ := h.o hx
  have e0 : ¬ r_235 x M = 0 := by rw [e2]; decide
  refine .th h ?_ ?_
  · unfold p_253 p_234; exact ⟨e1, fun z => absurd z e0, fun _ => trivial⟩
  · unfold m_253 m_234; rw [ite_self, if_neg e0, e3]
theorem z_f_112 (h : z_Q n M) (hx : z_iu M x) : z_op n M (p_112 x) (r_112 x) (fun M => M) (p_255 x) (r_255 x) (m_255 x) := by
  obtain ⟨c, t, B, u, ht, hB, hR, hs, hc, hu, h16, rfl⟩ := h.un hx
  obtain ⟨e1, e2, e3⟩ := z_235i hc hR.1.cn hu
  have hRt := hR.th 0
  refine .th h ?_ ?_ ?_ ?_
  · unfold p_112; exact ⟨z_p93 hx, z_p70 h16 _ _ _⟩
  · unfold p_255; rw [e3]; exact ⟨e1, fun _ => ⟨uu29 h16, fun _ => z_p220 hRt.1 hu, fun _ => trivial⟩, fun _ => trivial⟩
  · unfold r_112 r_255; rw [if_pos e2, e3, of29 _ h16, z_thY]
    by_cases q : z_Y M 29 u = 0
    · rw [if_pos q]
      refine z_nz.mpr (fun w hw => ?_)
      have j1 := hR.1.js (show u < 32 by omega)
      have j2 := hR.1.jt (show u < 32 by omega)
      rw [q] at j1 j2
      rw [(z_70 hR.1 hu _ _).2 w hw, j1, j2]
      simp
    · rw [if_neg q]
      have := (z_prec hRt.1 hRt.2 hu (by rw [z_thY]; exact q)).2.2
      exact this
  · unfold m_255; rw [if_pos e2, e3, ite_self]
theorem z_g_255 (h : z_Q n M) (hx : ¬ z_iu M x) : z_thr n M (p_255 x) (m_255 x) 1 := by
  obtain ⟨e1, e2, e3⟩ := h.o hx
  have e0 : ¬ r_235 x M = 0 := by rw [e2]; decide
  refine .th h ?_ ?_
  · unfold p_255; exact ⟨e1, fun z => absurd z e0, fun _ => trivial⟩
  · unfold m_255; rw [if_neg e0, e3]
theorem z_f_127 (h : z_Q n M) (hx : z_iu M x) : z_op n M (p_127 x) (r_127 x) (fun M => M) (p_245 x) (r_245 x) (m_245 x) := by
  obtain ⟨c, t, B, u, ht, hB, hR, hs, hc, hu, h16, rfl⟩ := h.un hx
  obtain ⟨e1, e2, e3⟩ := z_235i hc hR.1.cn hu
  obtain ⟨d1, d2, d3, d4⟩ := z_due (hR.th 0) hu
  refine .th h ?_ ?_ ?_ ?_
  · unfold p_127; exact ⟨z_p93 hx, d1⟩
  · unfold p_245; rw [e3]; exact ⟨e1, fun _ => d2, fun _ => trivial⟩
  · unfold r_127 r_245; rw [if_pos e2, e3, hR.1.nw]
    rcases d3 with d3 | ⟨_, d5, y, d6, d7, d8⟩
    · rw [d3]
      rcases d4 with d4 | ⟨y, d4, d5, d6⟩
      · rw [d4, ite_self]
      · rw [d4, if_neg]
        intro z
        have := (z_le (by omega) (by omega)).mp z
        unfold z_dl at d5; omega
    · rw [d6, d5, if_pos]
      refine (z_le (by omega) (by omega)).mpr ?_
      unfold z_dl at d7; omega
  · unfold m_245; rw [if_pos e2, e3]
theorem z_g_245 (h : z_Q n M) (hx : ¬ z_iu M x) : z_thr n M (p_245 x) (m_245 x) 1 := by
  obtain ⟨e1, e2, e3⟩ := h.o hx
  have e0 : ¬ r_235 x M = 0 := by rw [e2]; decide
  refine .th h ?_ ?_
  · unfold p_245; exact ⟨e1, fun z => absurd z e0, fun _ => trivial⟩
  · unfold m_245; rw [if_neg e0, e3]
theorem z_f_130 (h : z_Q n M) (hn : n ≤ 600) (hx : z_iu M x) : z_op n M (p_130 x) (r_130 x) (fun M => M) (p_248 x) (r_248 x) (m_248 x) := by
  obtain ⟨c, t, B, u, ht, hB, hR, hs, hc, hu, h16, rfl⟩ := h.un hx
  obtain ⟨e1, e2, e3⟩ := z_235i hc hR.1.cn hu
  have hRt := hR.th 0
  have rc : z_Y M 0 u = 0 → _ := fun q => z_rec hRt.1 (by omega) hu ((z_thY 0 u).trans q)
  refine .th h ?_ ?_ ?_ ?_
  · unfold p_130; rw [z_cl h16, hR.1.kd hu]; exact ⟨z_p93 hx, z_i16 h16, fun _ => trivial, fun q => (rc q).1⟩
  · unfold p_248; rw [e3, of0 _ h16, z_thY]; exact ⟨e1, fun _ => ⟨uu0 h16, fun _ => trivial, fun q => (rc q).2.1⟩, fun _ => trivial⟩
  · unfold r_130 r_248; rw [if_pos e2, e3, of0 _ h16, z_thY, z_cl h16, hR.1.kd hu]
    by_cases q : z_Y M 0 u = 0
    · rw [if_pos q, if_pos q]; exact (rc q).2.2
    · rw [if_neg q, if_neg q]
  · unfold m_248; rw [if_pos e2, e3, ite_self]
theorem z_g_248 (h : z_Q n M) (hx : ¬ z_iu M x) : z_thr n M (p_248 x) (m_248 x) 1 := by
  obtain ⟨e1, e2, e3⟩ := h.o hx
  have e0 : ¬ r_235 x M = 0 := by rw [e2]; decide
  refine .th h ?_ ?_
  · unfold p_248; exact ⟨e1, fun z => absurd z e0, fun _ => trivial⟩
  · unfold m_248; rw [if_neg e0, e3]
theorem z_f_36 (h : z_Q n M) : z_op n M p_36 r_36 (fun M => M) p_230 r_230 m_230 := by
  obtain ⟨c, t, B, ht, hB, hR, hs⟩ := h.w
  refine .th h ?_ ?_ ?_ ?_
  · unfold p_36; trivial
  · unfold p_230; exact fun _ _ => z_v0
  · unfold r_36 r_230; show _ = z_th M 0 5 844257 0 (0 : Int32).toNatClampNeg; rw [z_c0, z_thI]; exact hR.1.nw.trans hR.1.now.symm
  · rfl
theorem z_f_33 (h : z_Q n M) : z_op n M p_33 r_33 (fun M => M) p_232 r_232 m_232 := by
  obtain ⟨c, t, B, ht, hB, hR, hs⟩ := h.w
  refine .th h ?_ ?_ ?_ ?_
  · unfold p_33; trivial
  · unfold p_232; exact fun _ _ => z_v1
  · unfold r_33 r_232; show _ = z_th M 0 5 844257 0 (1 : Int32).toNatClampNeg; rw [z_c1, z_thI]; exact hR.1.cnt.trans hR.1.cn.symm
  · rfl
theorem z_f_37 (h : z_Q n M) : z_op n M p_37 r_37 (fun M => M) p_260 r_260 m_260 := by
  obtain ⟨c, t, B, ht, hB, hR, hs⟩ := h.w
  obtain ⟨L, l1, l2, l3⟩ := hR.1.lo
  refine .th h ?_ ?_ ?_ ?_
  · unfold p_37; trivial
  · unfold p_260; exact fun _ _ => z_v2
  · unfold r_37 r_260; show _ = z_th M 0 5 844257 0 (2 : Int32).toNatClampNeg; rw [z_c2, z_thI, l3, l2]
    by_cases q : L < 60
    · have q' : nI L < 60 := (z_lt (b := 60) (by omega) (by omega)).mpr q
      rw [if_pos q', show min L 60 = L by omega]
    · have q' : ¬ nI L < 60 := fun z => q ((z_lt (b := 60) (by omega) (by omega)).mp z)
      rw [if_neg q', show min L 60 = 60 by omega]; rfl
  · rfl
theorem z_f_31 (h : z_Q n M) : z_op n M p_31 r_31 (fun M => M) p_148 r_148 m_148 := by
  refine .th h ?_ ?_ ?_ ?_
  · unfold p_31; trivial
  · unfold p_148; trivial
  · unfold r_31 r_148; show _ = z_th M 0 5 819253 0 13; unfold z_th; rw [z_si (by decide)]; exact h.2.2.1.1
  · rfl
/-- the number of jobs -/
theorem z_257l (h : z_W k c t B M m) : ∀ (n f i acc : Nat), i + n = c → n < f → acc ≤ i → p_257_4 f (nI acc) (nI i) m ∧ ∃ N, r_257_4 f (nI acc) (nI i) m = nI N ∧ N + z_cn (fun v => decide (¬ z_Y m 29 v = 0)) i = acc + z_cn (fun v => decide (¬ z_Y m 29 v = 0)) c := by
  have hc := h.le
  intro n
  induction n with
  | zero =>
    intro f i acc hi hf ha
    obtain ⟨f, rfl⟩ : ∃ g, f = g + 1 := ⟨f - 1, by omega⟩
    have hle := z_yle (show c ≤ i by omega) (by omega)
    rw [p_257_4, r_257_4, z_c1, h.cn, if_pos hle]
    exact ⟨⟨z_v1, fun _ => trivial, fun q => absurd hle q⟩, acc, rfl, by rw [show i = c by omega]⟩
  | succ n ih =>
    intro f i acc hi hf ha
    obtain ⟨f, rfl⟩ : ∃ g, f = g + 1 := ⟨f - 1, by omega⟩
    have ic : i < c := by omega
    have i16 : i < 16 := by omega
    have hle := z_nle ic hc
    have e0 : nI acc + (0 : Int32) = nI acc := z_add acc 0
    rw [p_257_4, r_257_4, z_c1, h.cn, if_neg hle, of29 _ i16, z_nx, z_nx, e0]
    by_cases q : z_Y m 29 i = 0
    · obtain ⟨r1, N, r2, r3⟩ := ih f (i + 1) acc (by omega) (by omega) (by omega)
      rw [if_pos q]
      refine ⟨⟨z_v1, fun y => absurd y hle, fun _ => ⟨uu29 i16, fun y => absurd q y, fun _ => r1⟩⟩, N, r2, ?_⟩
      rw [z_cn] at r3
      simpa [q] using r3
    · obtain ⟨r1, N, r2, r3⟩ := ih f (i + 1) (acc + 1) (by omega) (by omega) (by omega)
      rw [if_neg q]
      refine ⟨⟨z_v1, fun y => absurd y hle, fun _ => ⟨uu29 i16, fun _ => r1, fun y => absurd y q⟩⟩, N, r2, ?_⟩
      rw [z_cn] at r3
      simp [q] at r3 ⊢
      omega
end ZU1
