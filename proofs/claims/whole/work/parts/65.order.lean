/-! TRANSACTIONS MERGED (what a transaction builds is asked as z_TX, closed in a later part) -/
/-- what the class's transaction and the reference's hold -/
def z_tr (k c : Nat) (M m : ux_M) : Prop := ∀ w, w < 32 →
  bt (M k 32805 0 0) w = (decide (w < c) && (bt (m 5 950305 0 1) w || bt (m 5 950305 0 3) w)) ∧ bt (M k 32805 0 1) w = (decide (w < c) && bt (m 5 950305 0 3) w)
  ∧ bt (M k 32805 0 2) w = (decide (w < c) && bt (m 5 950305 0 2) w)
  ∧ (bt (m 5 950305 0 1) w && bt (m 5 950305 0 2) w) = false ∧ (bt (m 5 950305 0 1) w && bt (m 5 950305 0 3) w) = false ∧ (bt (m 5 950305 0 2) w && bt (m 5 950305 0 3) w) = false
  ∧ (c ≤ w → bt (m 5 950305 0 1) w = false ∧ bt (m 5 950305 0 2) w = false ∧ bt (m 5 950305 0 3) w = false)
/-- only the transaction changes -/
def z_fC (k : Nat) (M M' : ux_M) : Prop := ∀ a s r i, ¬ (a = k ∧ (s = 32805 ∨ s = 278657)) → M' a s r i = M a s r i
def z_fM (m m' : ux_M) : Prop := ∀ a s r i, ¬ (a = 5 ∧ ((s = 819253 ∧ (i = 18 ∨ i = 19)) ∨ s = 950305 ∨ s = 966689 ∨ s = 983073 ∨ s = 999553)) → m' a s r i = m a s r i
/-- BUILDING A TRANSACTION: both sides answer alike -/
def z_TX (k c : Nat) : Prop := ∀ (x b t B : Nat) (M m : ux_M) (u : Nat) (j : Int32), z_R x b k c t B M m → u < c → j = 1 ∨ j = 2 ∨ j = 3 →
  p_65 k (nI u) j M ∧ p_197 (nI u) j m ∧ r_65 k (nI u) j M = r_197 (nI u) j m ∧ (r_197 (nI u) j m = 0 ∨ r_197 (nI u) j m < 0) ∧ z_fC k M (m_65 k (nI u) j M) ∧ z_fM m (m_197 (nI u) j m) ∧ (r_197 (nI u) j m = 0 → z_tr k c (m_65 k (nI u) j M) (m_197 (nI u) j m))
/-- the number of bits of a set of units -/
def z_pop (x : Int32) : Nat → Nat
  | 0 => 0
  | n + 1 => z_pop x n + (if bt x n then 1 else 0)
def z_BC : Prop := ∀ x : Int32, (∀ w, 16 ≤ w → w < 32 → bt x w = false) → ux_bc x = nI (z_pop x 16)
section ZM
variable {k c t B B' u v a b s x n : Nat} {M m M' m' m'' : ux_M}
theorem z_R.fr (h : z_R x b k c t B M m) (h1 : z_fC k M M') (h2 : z_fM m m') : z_R x b k c t B M' m' := by
  have e : ∀ i, m' 5 844257 0 i = m 5 844257 0 i := fun i => h2 5 844257 0 i (by omega)
  exact ⟨h.1.cong (fun s r i hs => h1 k s r i (by omega)) e, h.2.same (z_A.cong e)⟩
theorem z_fC.jr (h2 : z_fM m m') (w : Nat) : z_jr m' w = z_jr m w := by
  unfold z_jr z_Y; rw [h2 5 844257 0 _ (by omega), h2 5 844257 0 _ (by omega)]
theorem z_pop.le (x : Int32) : ∀ n, z_pop x n ≤ n
  | 0 => Nat.le_refl _
  | n + 1 => by have := z_pop.le x n; unfold z_pop; split <;> omega
/-- the type of a unit's job in the transaction -/
theorem z_ttp (h : z_tr k c M m) (hu : u < c) (hc : c ≤ 16) : p_75 k (nI u) M ∧ p_208 (nI u) m ∧ r_75 k (nI u) M = r_208 (nI u) m ∧ (r_208 (nI u) m = if bt (m 5 950305 0 2) u then 2 else if bt (m 5 950305 0 3) u then 3 else if bt (m 5 950305 0 1) u then 1 else 0) := by
  have h32 : u < 32 := by omega
  obtain ⟨h1, h2, h3, h4, h5, h6, h7⟩ := h u h32
  have e : r_208 (nI u) m = if bt (m 5 950305 0 2) u then 2 else if bt (m 5 950305 0 3) u then 3 else if bt (m 5 950305 0 1) u then 1 else 0 := by
    unfold r_208; simp only [z_c1, z_c2, z_c3, z_shr1 _ h32]
  refine ⟨by unfold p_75 p_54; trivial, ?_, ?_, e⟩
  · unfold p_208; exact ⟨z_k2, fun _ => ⟨z_k3, fun _ => z_k1, fun _ => trivial⟩, fun _ => trivial⟩
  · rw [e]; unfold r_75 r_54; simp only [z_shr _ h32, h1, h2, h3, hu, decide_true, Bool.true_and]
    cases e1 : bt (m 5 950305 0 1) u <;> cases e2 : bt (m 5 950305 0 2) u <;> cases e3 : bt (m 5 950305 0 3) u <;> simp [e1, e2, e3] at h4 h5 h6 ⊢
/-- a clash of a unit's jobs -/
def z_cl1 (m : ux_M) (u : Nat) : Prop := ¬ r_208 (nI u) m = 0 ∧ ¬ z_Y m 29 u = 0 ∧ ¬ (r_208 (nI u) m = 2 ↔ z_Y m 29 u = 2)
theorem z_212 (hp : p_208 (nI u) m) (hu : u < 16) : p_212 (nI u) m ∧ (r_212 (nI u) m = 0 ↔ ¬ z_cl1 m u) := by
  unfold p_212 r_212 p_212_32 r_212_32 p_212_42 r_212_42 z_cl1
  simp only [of29 _ hu]
  refine ⟨⟨hp, uu29 hu, fun _ => trivial, fun _ => ⟨fun _ => trivial, fun _ => ⟨fun _ => ⟨fun _ => trivial, fun _ => trivial⟩, fun _ => ⟨fun _ => trivial, fun _ => trivial⟩⟩⟩⟩, ?_⟩
  by_cases q1 : r_208 (nI u) m = 0
  · simp [q1]
  · by_cases q2 : z_Y m 29 u = 0
    · simp [q1, q2]
    · by_cases q3 : r_208 (nI u) m = 2
      · by_cases q4 : z_Y m 29 u = 2 <;> simp [q1, q2, q3, q4]
      · by_cases q4 : z_Y m 29 u = 2 <;> simp [q1, q2, q3, q4]
/-- one unit's job is merged -/
theorem z_mg1 (h : z_R 99 b k c t B M m) (hT : z_tr k c M m) (hu : u < c) : p_213 (nI u) (r_208 (nI u) m) m := by
  have h16 := h.1.u16 hu
  obtain ⟨t1, t2, t3, t4⟩ := z_ttp hT hu h.1.le
  obtain ⟨q1, q2⟩ := z_212 t2 h16
  unfold p_213 p_213_18
  have w : ∀ m0 : ux_M, (ux_u (nI u) 29 ∧ (((ux_of m0 (nI u) 29) : Int32) = 0 → ux_u (nI u) 29 ∧ ∀ M2 : ux_M, M2 = ux_put m0 (nI u) 29 (r_208 (nI u) m) → ux_u (nI u) 30) ∧ (¬ ((ux_of m0 (nI u) 29) : Int32) = 0 → (¬ ((ux_of m0 (nI u) 29) : Int32) = 1 → True) ∧ (((ux_of m0 (nI u) 29) : Int32) = 1 → (¬ (r_208 (nI u) m) = 3 → True) ∧ ((r_208 (nI u) m) = 3 → ux_u (nI u) 29 ∧ ∀ M8 : ux_M, M8 = ux_put m0 (nI u) 29 (r_208 (nI u) m) → ux_u (nI u) 30)))) := fun m0 =>
    ⟨uu29 h16, fun _ => ⟨uu29 h16, fun _ _ => uu30 h16⟩, fun _ => ⟨fun _ => trivial, fun _ => ⟨fun _ => trivial, fun _ => ⟨uu29 h16, fun _ _ => uu30 h16⟩⟩⟩⟩
  refine ⟨fun z => ⟨q1, fun _ => w m, fun y => ⟨?_, w _⟩⟩, fun _ => trivial⟩
  have hc : z_cl1 m u := Classical.byContradiction (fun z => y (q2.mpr z))
  exact (h.cj hu).2.1 hc.2.1
theorem z_tr.fr (h : z_tr k c M m) (h1 : z_fW k M M') (h2 : z_fR m m') : z_tr k c M' m' := fun w hw => by
  rw [h1 k 32805 0 0 (by omega), h1 k 32805 0 1 (by omega), h1 k 32805 0 2 (by omega), h2 5 950305 0 1 (by omega), h2 5 950305 0 2 (by omega), h2 5 950305 0 3 (by omega)]
  exact h w hw
/-- the merge, unit by unit -/
theorem z_mgl : ∀ (n f f' i : Nat) (y : Int32) (M m : ux_M), i + n = c → n < f → n < f' → z_R 99 b k c t B M m → z_tr k c M m →
    p_74_2 f k (nI i) M ∧ p_211_53 f' y (nI i) m ∧ r_211_53 f' y (nI i) m = y ∧ z_R 99 b k c t B (m_74_2 f k (nI i) M) (m_211_53 f' y (nI i) m) := by
  intro n
  induction n with
  | zero =>
    intro f f' i y M m hi hf hf' h hT
    obtain ⟨f, rfl⟩ : ∃ g, f = g + 1 := ⟨f - 1, by omega⟩
    obtain ⟨f', rfl⟩ : ∃ g, f' = g + 1 := ⟨f' - 1, by omega⟩
    have hle := z_yle (show c ≤ i by omega) (by have := h.1.le; omega)
    rw [p_74_2, p_211_53, r_211_53, m_74_2, m_211_53, h.1.cnt, z_c1, h.1.cn, if_pos hle, if_pos hle, if_pos hle]
    exact ⟨⟨fun _ => trivial, fun z => absurd hle z⟩, ⟨z_v1, fun _ => trivial, fun z => absurd hle z⟩, rfl, h⟩
  | succ n ih =>
    intro f f' i y M m hi hf hf' h hT
    obtain ⟨f, rfl⟩ : ∃ g, f = g + 1 := ⟨f - 1, by omega⟩
    obtain ⟨f', rfl⟩ : ∃ g, f' = g + 1 := ⟨f' - 1, by omega⟩
    have hic : i < c := by omega
    have hi16 := h.1.u16 hic
    have hc := h.1.le
    have hle := z_nle hic h.1.le
    obtain ⟨t1, t2, t3, t4⟩ := z_ttp hT hic h.1.le
    have pm := z_mg1 h hT hic
    obtain ⟨c1, c2⟩ := z_212 t2 hi16
    have e53 := h.1.ty h.2 hic
    have p53 := z_W.pty M k (nI i)
    have step : ∀ M' m', z_R 99 b k c t B M' m' → z_fW k M M' → z_fR m m' → p_74_2 f k (nI (i + 1)) M' ∧ p_211_53 f' y (nI (i + 1)) m' ∧ r_211_53 f' y (nI (i + 1)) m' = y ∧ z_R 99 b k c t B (m_74_2 f k (nI (i + 1)) M') (m_211_53 f' y (nI (i + 1)) m') := fun M' m' h' f1 f2 => ih f f' (i + 1) y M' m' (by omega) (by omega) (by omega) h' (hT.fr f1 f2)
    have tt : r_208 (nI i) m = 0 ∨ r_208 (nI i) m = 1 ∨ r_208 (nI i) m = 2 ∨ r_208 (nI i) m = 3 := by
      rw [t4]; split
      · simp
      · split
        · simp
        · split <;> simp
    rw [p_74_2, p_211_53, r_211_53, m_74_2, m_211_53]
    simp only [h.1.cnt, h.1.cn, z_c1, hle, if_false, not_false_eq_true, true_implies, false_implies, true_and, z_nx]
    rcases tt with e | e | e | e

    · rw [e] at t3 pm
      have em : m_213 (nI i) 0 m = m := by unfold m_213; rw [if_pos rfl]
      have r := step M m h z_fW.rf z_fR.rf
      simp only [t3, e, em, if_true, if_false, not_true_eq_false, not_false_eq_true, true_implies, false_implies, true_and, and_true]
      exact ⟨⟨t1, p53, r.1⟩, ⟨z_v1, t2, pm, r.2.1⟩, r.2.2⟩
    · rw [e] at t3 pm
      rcases h.2.jb hic with q | q | q | q
      · rw [q] at e53
        have ncl : r_212 (nI i) m = 0 := c2.mpr (fun z => z.2.1 q)
        have em : m_213 (nI i) 1 m = z_P (z_P m 29 i 1) 30 i 0 := by
          unfold m_213 m_213_18; simp only [ncl, of29 _ hi16, q, pu29 _ _ hi16, pu30 _ _ hi16, zn_01, zn_02, zn_03, zn_10, zn_12, zn_13, zn_20, zn_21, zn_23, zn_30, zn_31, zn_32, if_true, if_false]
        have r := step _ _ (h.put hic 1 (by simp)) (fw_76 _ _ _ _) (by rw [← em]; exact fr_213 _ _ _)
        simp only [t3, e53, e, em, zn_01, zn_02, zn_03, zn_10, zn_12, zn_13, zn_20, zn_21, zn_23, zn_30, zn_31, zn_32, if_true, if_false, not_true_eq_false, not_false_eq_true, true_implies, false_implies, true_and, and_true]
        exact ⟨⟨t1, p53, z_pput M k (nI i) 1, r.1⟩, ⟨z_v1, t2, pm, r.2.1⟩, r.2.2⟩
      · rw [q] at e53
        have ncl : r_212 (nI i) m = 0 := c2.mpr (fun z => by obtain ⟨z1, z2, z3⟩ := z; rw [e, q] at z3; exact z3 (by decide))
        have em : m_213 (nI i) 1 m = m := by
          unfold m_213 m_213_18; simp only [ncl, of29 _ hi16, q, zn_01, zn_02, zn_03, zn_10, zn_12, zn_13, zn_20, zn_21, zn_23, zn_30, zn_31, zn_32, if_true, if_false, ite_self]
        have r := step M m h z_fW.rf z_fR.rf
        simp only [t3, e53, e, em, zn_01, zn_02, zn_03, zn_10, zn_12, zn_13, zn_20, zn_21, zn_23, zn_30, zn_31, zn_32, if_true, if_false, not_true_eq_false, not_false_eq_true, true_implies, false_implies, true_and, and_true]
        exact ⟨⟨t1, p53, r.1⟩, ⟨z_v1, t2, pm, r.2.1⟩, r.2.2⟩
      · rw [q] at e53
        have cl : ¬ r_212 (nI i) m = 0 := fun z => c2.mp z ⟨by rw [e]; decide, by rw [q]; decide, by rw [e, q]; decide⟩
        have e14 : m_214 (nI i) m = z_en m i 4 := by
          unfold m_214 m_182 z_en; simp only [of29 _ hi16, pu29 _ _ hi16, pu30 _ _ hi16, pu41 _ _ hi16, q, zn_21, zn_23, or_self, if_false]
        have em : m_213 (nI i) 1 m = z_P (z_P (z_en m i 4) 29 i 1) 30 i 0 := by
          unfold m_213 m_213_18; simp only [cl, e14, of29 _ hi16, z_enJ, pu29 _ _ hi16, pu30 _ _ hi16, zn_01, zn_02, zn_03, zn_10, zn_12, zn_13, zn_20, zn_21, zn_23, zn_30, zn_31, zn_32, if_true, if_false]
        have hE : z_R 99 b k c t B (m_57 k (nI i) 4 M) (z_en m i 4) := h.end hic 4
        have r := step _ _ (hE.put hic 1 (by simp)) ((fw_57 k (nI i) 4 M).tr (fw_76 _ _ _ _)) (by rw [← em]; exact fr_213 _ _ _)
        unfold m_57 at r
        simp only [t3, e53, e, em, zn_01, zn_02, zn_03, zn_10, zn_12, zn_13, zn_20, zn_21, zn_23, zn_30, zn_31, zn_32, if_true, if_false, not_true_eq_false, not_false_eq_true, true_implies, false_implies, true_and, and_true, forall_eq]
        exact ⟨⟨t1, p53, z_i16 hi16, z_pput _ k (nI i) 1, r.1⟩, ⟨z_v1, t2, pm, r.2.1⟩, r.2.2⟩
      · rw [q] at e53
        have ncl : r_212 (nI i) m = 0 := c2.mpr (fun z => by obtain ⟨z1, z2, z3⟩ := z; rw [e, q] at z3; exact z3 (by decide))
        have em : m_213 (nI i) 1 m = m := by
          unfold m_213 m_213_18; simp only [ncl, of29 _ hi16, q, zn_01, zn_02, zn_03, zn_10, zn_12, zn_13, zn_20, zn_21, zn_23, zn_30, zn_31, zn_32, if_true, if_false, ite_self]
        have r := step M m h z_fW.rf z_fR.rf
        simp only [t3, e53, e, em, zn_01, zn_02, zn_03, zn_10, zn_12, zn_13, zn_20, zn_21, zn_23, zn_30, zn_31, zn_32, if_true, if_false, not_true_eq_false, not_false_eq_true, true_implies, false_implies, true_and, and_true]
        exact ⟨⟨t1, p53, r.1⟩, ⟨z_v1, t2, pm, r.2.1⟩, r.2.2⟩
    · rw [e] at t3 pm
      rcases h.2.jb hic with q | q | q | q
      · rw [q] at e53
        have ncl : r_212 (nI i) m = 0 := c2.mpr (fun z => z.2.1 q)
        have em : m_213 (nI i) 2 m = z_P (z_P m 29 i 2) 30 i 0 := by
          unfold m_213 m_213_18; simp only [ncl, of29 _ hi16, q, pu29 _ _ hi16, pu30 _ _ hi16, zn_01, zn_02, zn_03, zn_10, zn_12, zn_13, zn_20, zn_21, zn_23, zn_30, zn_31, zn_32, if_true, if_false]
        have r := step _ _ (h.put hic 2 (by simp)) (fw_76 _ _ _ _) (by rw [← em]; exact fr_213 _ _ _)
        simp only [t3, e53, e, em, zn_01, zn_02, zn_03, zn_10, zn_12, zn_13, zn_20, zn_21, zn_23, zn_30, zn_31, zn_32, if_true, if_false, not_true_eq_false, not_false_eq_true, true_implies, false_implies, true_and, and_true]
        exact ⟨⟨t1, p53, z_pput M k (nI i) 2, r.1⟩, ⟨z_v1, t2, pm, r.2.1⟩, r.2.2⟩
      · rw [q] at e53
        have cl : ¬ r_212 (nI i) m = 0 := fun z => c2.mp z ⟨by rw [e]; decide, by rw [q]; decide, by rw [e, q]; decide⟩
        obtain ⟨b1, b2, b3, b4⟩ := h.br hic (Or.inl q) 4 (by decide)
        have j0 : z_Y (m_182 (nI i) 4 m) 29 i = 0 := by
          rcases (b4 i).1 with z | z
          · exact z.1.trans (z_enJ m i 4)
          · exact z
        have em : m_213 (nI i) 2 m = z_P (z_P (m_182 (nI i) 4 m) 29 i 2) 30 i 0 := by
          unfold m_213 m_213_18 m_214; simp only [cl, of29 _ hi16, j0, pu29 _ _ hi16, pu30 _ _ hi16, zn_01, zn_02, zn_03, zn_10, zn_12, zn_13, zn_20, zn_21, zn_23, zn_30, zn_31, zn_32, if_true, if_false]
        have r := step _ _ (b3.put hic 2 (by simp)) ((fw_56 k (nI i) 4 0 M).tr (fw_76 _ _ _ _)) (by rw [← em]; exact fr_213 _ _ _)
        simp only [t3, e53, e, em, zn_01, zn_02, zn_03, zn_10, zn_12, zn_13, zn_20, zn_21, zn_23, zn_30, zn_31, zn_32, if_true, if_false, not_true_eq_false, not_false_eq_true, true_implies, false_implies, true_and, and_true]
        exact ⟨⟨t1, p53, b1, z_pput _ k (nI i) 2, r.1⟩, ⟨z_v1, t2, pm, r.2.1⟩, r.2.2⟩
      · rw [q] at e53
        have ncl : r_212 (nI i) m = 0 := c2.mpr (fun z => by obtain ⟨z1, z2, z3⟩ := z; rw [e, q] at z3; exact z3 (by decide))
        have em : m_213 (nI i) 2 m = m := by
          unfold m_213 m_213_18; simp only [ncl, of29 _ hi16, q, zn_01, zn_02, zn_03, zn_10, zn_12, zn_13, zn_20, zn_21, zn_23, zn_30, zn_31, zn_32, if_true, if_false, ite_self]
        have r := step M m h z_fW.rf z_fR.rf
        simp only [t3, e53, e, em, zn_01, zn_02, zn_03, zn_10, zn_12, zn_13, zn_20, zn_21, zn_23, zn_30, zn_31, zn_32, if_true, if_false, not_true_eq_false, not_false_eq_true, true_implies, false_implies, true_and, and_true]
        exact ⟨⟨t1, p53, r.1⟩, ⟨z_v1, t2, pm, r.2.1⟩, r.2.2⟩
      · rw [q] at e53
        have cl : ¬ r_212 (nI i) m = 0 := fun z => c2.mp z ⟨by rw [e]; decide, by rw [q]; decide, by rw [e, q]; decide⟩
        obtain ⟨b1, b2, b3, b4⟩ := h.br hic (Or.inr q) 4 (by decide)
        have j0 : z_Y (m_182 (nI i) 4 m) 29 i = 0 := by
          rcases (b4 i).1 with z | z
          · exact z.1.trans (z_enJ m i 4)
          · exact z
        have em : m_213 (nI i) 2 m = z_P (z_P (m_182 (nI i) 4 m) 29 i 2) 30 i 0 := by
          unfold m_213 m_213_18 m_214; simp only [cl, of29 _ hi16, j0, pu29 _ _ hi16, pu30 _ _ hi16, zn_01, zn_02, zn_03, zn_10, zn_12, zn_13, zn_20, zn_21, zn_23, zn_30, zn_31, zn_32, if_true, if_false]
        have r := step _ _ (b3.put hic 2 (by simp)) ((fw_56 k (nI i) 4 0 M).tr (fw_76 _ _ _ _)) (by rw [← em]; exact fr_213 _ _ _)
        simp only [t3, e53, e, em, zn_01, zn_02, zn_03, zn_10, zn_12, zn_13, zn_20, zn_21, zn_23, zn_30, zn_31, zn_32, if_true, if_false, not_true_eq_false, not_false_eq_true, true_implies, false_implies, true_and, and_true]
        exact ⟨⟨t1, p53, b1, z_pput _ k (nI i) 2, r.1⟩, ⟨z_v1, t2, pm, r.2.1⟩, r.2.2⟩
    · rw [e] at t3 pm
      rcases h.2.jb hic with q | q | q | q
      · rw [q] at e53
        have ncl : r_212 (nI i) m = 0 := c2.mpr (fun z => z.2.1 q)
        have em : m_213 (nI i) 3 m = z_P (z_P m 29 i 3) 30 i 0 := by
          unfold m_213 m_213_18; simp only [ncl, of29 _ hi16, q, pu29 _ _ hi16, pu30 _ _ hi16, zn_01, zn_02, zn_03, zn_10, zn_12, zn_13, zn_20, zn_21, zn_23, zn_30, zn_31, zn_32, if_true, if_false]
        have r := step _ _ (h.put hic 3 (by simp)) (fw_76 _ _ _ _) (by rw [← em]; exact fr_213 _ _ _)
        simp only [t3, e53, e, em, zn_01, zn_02, zn_03, zn_10, zn_12, zn_13, zn_20, zn_21, zn_23, zn_30, zn_31, zn_32, if_true, if_false, not_true_eq_false, not_false_eq_true, true_implies, false_implies, true_and, and_true]
        exact ⟨⟨t1, p53, z_pput M k (nI i) 3, r.1⟩, ⟨z_v1, t2, pm, r.2.1⟩, r.2.2⟩
      · rw [q] at e53
        have ncl : r_212 (nI i) m = 0 := c2.mpr (fun z => by obtain ⟨z1, z2, z3⟩ := z; rw [e, q] at z3; exact z3 (by decide))
        have em : m_213 (nI i) 3 m = z_P (z_P m 29 i 3) 30 i 0 := by
          unfold m_213 m_213_18; simp only [ncl, of29 _ hi16, q, pu29 _ _ hi16, pu30 _ _ hi16, zn_01, zn_02, zn_03, zn_10, zn_12, zn_13, zn_20, zn_21, zn_23, zn_30, zn_31, zn_32, if_true, if_false]
        have r := step _ _ (h.put hic 3 (by simp)) (fw_76 _ _ _ _) (by rw [← em]; exact fr_213 _ _ _)
        simp only [t3, e53, e, em, zn_01, zn_02, zn_03, zn_10, zn_12, zn_13, zn_20, zn_21, zn_23, zn_30, zn_31, zn_32, if_true, if_false, not_true_eq_false, not_false_eq_true, true_implies, false_implies, true_and, and_true]
        exact ⟨⟨t1, p53, z_pput M k (nI i) 3, r.1⟩, ⟨z_v1, t2, pm, r.2.1⟩, r.2.2⟩
      · rw [q] at e53
        have cl : ¬ r_212 (nI i) m = 0 := fun z => c2.mp z ⟨by rw [e]; decide, by rw [q]; decide, by rw [e, q]; decide⟩
        have e14 : m_214 (nI i) m = z_en m i 4 := by
          unfold m_214 m_182 z_en; simp only [of29 _ hi16, pu29 _ _ hi16, pu30 _ _ hi16, pu41 _ _ hi16, q, zn_21, zn_23, or_self, if_false]
        have em : m_213 (nI i) 3 m = z_P (z_P (z_en m i 4) 29 i 3) 30 i 0 := by
          unfold m_213 m_213_18; simp only [cl, e14, of29 _ hi16, z_enJ, pu29 _ _ hi16, pu30 _ _ hi16, zn_01, zn_02, zn_03, zn_10, zn_12, zn_13, zn_20, zn_21, zn_23, zn_30, zn_31, zn_32, if_true, if_false]
        have hE : z_R 99 b k c t B (m_57 k (nI i) 4 M) (z_en m i 4) := h.end hic 4
        have r := step _ _ (hE.put hic 3 (by simp)) ((fw_57 k (nI i) 4 M).tr (fw_76 _ _ _ _)) (by rw [← em]; exact fr_213 _ _ _)
        unfold m_57 at r
        simp only [t3, e53, e, em, zn_01, zn_02, zn_03, zn_10, zn_12, zn_13, zn_20, zn_21, zn_23, zn_30, zn_31, zn_32, if_true, if_false, not_true_eq_false, not_false_eq_true, true_implies, false_implies, true_and, and_true, forall_eq]
        exact ⟨⟨t1, p53, z_i16 hi16, z_pput _ k (nI i) 3, r.1⟩, ⟨z_v1, t2, pm, r.2.1⟩, r.2.2⟩
      · rw [q] at e53
        have ncl : r_212 (nI i) m = 0 := c2.mpr (fun z => by obtain ⟨z1, z2, z3⟩ := z; rw [e, q] at z3; exact z3 (by decide))
        have em : m_213 (nI i) 3 m = m := by
          unfold m_213 m_213_18; simp only [ncl, of29 _ hi16, q, zn_01, zn_02, zn_03, zn_10, zn_12, zn_13, zn_20, zn_21, zn_23, zn_30, zn_31, zn_32, if_true, if_false, ite_self]
        have r := step M m h z_fW.rf z_fR.rf
        simp only [t3, e53, e, em, zn_01, zn_02, zn_03, zn_10, zn_12, zn_13, zn_20, zn_21, zn_23, zn_30, zn_31, zn_32, if_true, if_false, not_true_eq_false, not_false_eq_true, true_implies, false_implies, true_and, and_true]
        exact ⟨⟨t1, p53, r.1⟩, ⟨z_v1, t2, pm, r.2.1⟩, r.2.2⟩
/-- how many jobs, and whether they clash -/
theorem z_211l (h : z_R 99 b k c t B M m) (hT : z_tr k c M m) (y : Int32) : ∀ (n f i acc : Nat), i + n = c → n < f → acc ≤ i →
    (y = 0 ∧ (∃ v, i ≤ v ∧ v < c ∧ z_cl1 m v) → p_211_4 f y (nI acc) (nI i) m ∧ r_211_4 f y (nI acc) (nI i) m = -5 ∧ m_211_4 f y (nI acc) (nI i) m = m)
    ∧ (¬ (y = 0 ∧ (∃ v, i ≤ v ∧ v < c ∧ z_cl1 m v)) → ∃ N, N + z_cn (fun v => decide (¬ r_208 (nI v) m = 0)) i = acc + z_cn (fun v => decide (¬ r_208 (nI v) m = 0)) c ∧ (p_211_53 ux_fuel (nI N) 0 m → p_211_4 f y (nI acc) (nI i) m) ∧ r_211_4 f y (nI acc) (nI i) m = r_211_53 ux_fuel (nI N) 0 m ∧ m_211_4 f y (nI acc) (nI i) m = m_211_53 ux_fuel (nI N) 0 m) := by
  intro n
  induction n with
  | zero =>
    intro f i acc hi hf hacc
    obtain ⟨f, rfl⟩ : ∃ g, f = g + 1 := ⟨f - 1, by omega⟩
    have hle := z_yle (show c ≤ i by omega) (by have := h.1.le; omega)
    rw [p_211_4, r_211_4, m_211_4, z_c1, h.1.cn, if_pos hle, if_pos hle]
    refine ⟨fun z => ?_, fun _ => ⟨acc, by rw [show i = c by omega], fun z => ⟨z_v1, fun _ => z, fun z => absurd hle z⟩, rfl, rfl⟩⟩
    obtain ⟨_, v, h1, h2, _⟩ := z; exact absurd h2 (by omega)
  | succ n ih =>
    intro f i acc hi hf hacc
    obtain ⟨f, rfl⟩ : ∃ g, f = g + 1 := ⟨f - 1, by omega⟩
    have hic : i < c := by omega
    have hi16 := h.1.u16 hic
    have hle := z_nle hic h.1.le
    obtain ⟨t1, t2, t3, t4⟩ := z_ttp hT hic h.1.le
    obtain ⟨c1, c2⟩ := z_212 t2 hi16
    have n0 : nI acc + (0 : Int32) = nI acc := z_add acc 0
    have ecn : z_cn (fun v => decide (¬ r_208 (nI v) m = 0)) (i + 1) = z_cn (fun v => decide (¬ r_208 (nI v) m = 0)) i + (if r_208 (nI i) m = 0 then 0 else 1) := by
      rw [z_cn]; by_cases q : r_208 (nI i) m = 0 <;> simp [q]
    have ex : (z_cl1 m i ∨ ∃ v, i + 1 ≤ v ∧ v < c ∧ z_cl1 m v) ↔ ∃ v, i ≤ v ∧ v < c ∧ z_cl1 m v := by
      constructor
      · rintro (q | ⟨v, h1, h2⟩)
        · exact ⟨i, Nat.le_refl _, hic, q⟩
        · exact ⟨v, by omega, h2⟩
      · rintro ⟨v, h1, h2, h3⟩
        by_cases e : v = i
        · subst e; exact Or.inl h3
        · exact Or.inr ⟨v, by omega, h2, h3⟩
    rw [p_211_4, r_211_4, m_211_4]
    simp only [z_c1, h.1.cn, hle, if_false, not_false_eq_true, true_implies, false_implies, true_and, n0, z_nx]
    by_cases q0 : r_208 (nI i) m = 0
    · have nc : ¬ z_cl1 m i := fun z => z.1 q0
      have e0 := c2.mpr nc
      obtain ⟨i1, i2⟩ := ih f (i + 1) acc (by omega) (by omega) (by omega)
      simp only [q0, e0, if_true, not_true_eq_false, true_implies, false_implies, true_and, and_true]
      refine ⟨fun z => ?_, fun z => ?_⟩
      · obtain ⟨j1, j2⟩ := i1 ⟨z.1, (ex.mpr z.2).resolve_left nc⟩
        exact ⟨⟨z_v1, t2, c1, j1⟩, j2⟩
      · obtain ⟨N, j1, j2, j3⟩ := i2 (fun y => z ⟨y.1, ex.mp (Or.inr y.2)⟩)
        rw [ecn, if_pos q0] at j1
        exact ⟨N, by omega, fun w => ⟨z_v1, t2, c1, j2 w⟩, j3⟩
    · obtain ⟨i1, i2⟩ := ih f (i + 1) (acc + 1) (by omega) (by omega) (by omega)
      by_cases q1 : r_212 (nI i) m = 0
      · have nc := c2.mp q1
        simp only [q0, q1, if_true, if_false, not_true_eq_false, not_false_eq_true, true_implies, false_implies, true_and, and_true]
        refine ⟨fun z => ?_, fun z => ?_⟩
        · obtain ⟨j1, j2⟩ := i1 ⟨z.1, (ex.mpr z.2).resolve_left nc⟩
          exact ⟨⟨z_v1, t2, c1, j1⟩, j2⟩
        · obtain ⟨N, j1, j2, j3⟩ := i2 (fun y => z ⟨y.1, ex.mp (Or.inr y.2)⟩)
          rw [ecn, if_neg q0] at j1
          exact ⟨N, by omega, fun w => ⟨z_v1, t2, c1, j2 w⟩, j3⟩
      · have yc : z_cl1 m i := Classical.byContradiction (fun z => q1 (c2.mpr z))
        by_cases qy : y = 0
        · simp only [q0, q1, qy, if_true, if_false, not_true_eq_false, not_false_eq_true, true_implies, false_implies, true_and, and_true]
          refine ⟨fun _ => ⟨z_v1, t2, c1⟩, fun z => absurd ⟨i, Nat.le_refl _, hic, yc⟩ z⟩
        · simp only [q0, q1, qy, if_true, if_false, not_true_eq_false, not_false_eq_true, true_implies, false_implies, true_and, and_true, false_and]
          obtain ⟨N, j1, j2, j3⟩ := i2 (fun z => qy z.1)
          rw [ecn, if_neg q0] at j1
          exact ⟨N, by omega, fun w => ⟨z_v1, t2, c1, j2 w⟩, j3⟩
/-- ORDER: a transaction is built and merged -/
theorem z_R.ord (hTX : z_TX k c) (hBC : z_BC) (h : z_R 99 b k c t B M m) (hu : u < c) (j : Int32) (hj : j = 1 ∨ j = 2 ∨ j = 3) (y : Int32) :
    p_64 k (nI u) j y M ∧ p_197 (nI u) j m ∧ (r_197 (nI u) j m = 0 → p_211 y (m_197 (nI u) j m))
    ∧ r_64 k (nI u) j y M = (if r_197 (nI u) j m = 0 then r_211 y (m_197 (nI u) j m) else r_197 (nI u) j m)
    ∧ z_R 99 b k c t B (m_64 k (nI u) j y M) (if r_197 (nI u) j m = 0 then m_211 y (m_197 (nI u) j m) else m_197 (nI u) j m)
    ∧ (r_64 k (nI u) j y M < 0 ∨ (r_197 (nI u) j m = 0 ∧ 0 ≤ r_64 k (nI u) j y M)) ∧ (r_64 k (nI u) j y M = 0 → m_211 y (m_197 (nI u) j m) = m_197 (nI u) j m → True) := by
  obtain ⟨a1, a2, a3, a4, a5, a6, a7⟩ := hTX 99 b t B M m u j h hu hj
  have hR := h.fr a5 a6
  have hc := h.1.le
  have hfu : c < ux_fuel := by have := z_fuel; omega
  unfold p_64 r_64 m_64 p_64_65 r_64_65 m_64_65
  rw [a3]
  by_cases q : r_197 (nI u) j m = 0
  · have hT := a7 q
    obtain ⟨g1, g2⟩ := z_211l hR hT y c ux_fuel 0 0 (by omega) hfu (Nat.le_refl _)
    have ecl : ((((m_65 k (nI u) j M) k 32805 0 0) &&& ((m_65 k (nI u) j M) k 49197 0 2)) ||| (((m_65 k (nI u) j M) k 32805 0 2) &&& ((m_65 k (nI u) j M) k 49197 0 0))) = 0 ↔ ¬ ∃ v, 0 ≤ v ∧ v < c ∧ z_cl1 (m_197 (nI u) j m) v := by
      have bits : ∀ v, v < 32 → bt ((((m_65 k (nI u) j M) k 32805 0 0) &&& ((m_65 k (nI u) j M) k 49197 0 2)) ||| (((m_65 k (nI u) j M) k 32805 0 2) &&& ((m_65 k (nI u) j M) k 49197 0 0))) v = ((decide (v < c) && (bt (m_197 (nI u) j m 5 950305 0 1) v || bt (m_197 (nI u) j m 5 950305 0 3) v)) && (decide (v < c) && decide (z_Y (m_197 (nI u) j m) 29 v = 2)) || (decide (v < c) && bt (m_197 (nI u) j m 5 950305 0 2) v) && (decide (v < c) && (decide (z_Y (m_197 (nI u) j m) 29 v = 1) || decide (z_Y (m_197 (nI u) j m) 29 v = 3)))) := fun v hv => by
        obtain ⟨b1, b2, b3, _⟩ := hT v hv
        rw [b_or, b_and, b_and, b1, b3, hR.1.js hv, hR.1.jt hv]
      have one : ∀ v, v < c → ((bt ((((m_65 k (nI u) j M) k 32805 0 0) &&& ((m_65 k (nI u) j M) k 49197 0 2)) ||| (((m_65 k (nI u) j M) k 32805 0 2) &&& ((m_65 k (nI u) j M) k 49197 0 0))) v = true) ↔ z_cl1 (m_197 (nI u) j m) v) := fun v hv => by
        obtain ⟨t1, t2, t3, t4⟩ := z_ttp hT hv hc
        obtain ⟨b1, b2, b3, b4, b5, b6, _⟩ := hT v (by omega)
        rw [bits v (by omega)]
        unfold z_cl1
        rw [t4]
        cases e1 : bt (m_197 (nI u) j m 5 950305 0 1) v <;> cases e2 : bt (m_197 (nI u) j m 5 950305 0 2) v <;> cases e3 : bt (m_197 (nI u) j m 5 950305 0 3) v <;> simp [e1, e2, e3] at b4 b5 b6 ⊢
        all_goals rcases hR.2.jb hv with z | z | z | z <;> simp [z, hv]
      rw [z_nz]
      constructor
      · rintro z ⟨v, _, h2, h3⟩
        have := z v (by omega)
        rw [(one v h2).mpr h3] at this; cases this
      · intro z v hv
        by_cases hvc : v < c
        · cases e : bt ((((m_65 k (nI u) j M) k 32805 0 0) &&& ((m_65 k (nI u) j M) k 49197 0 2)) ||| (((m_65 k (nI u) j M) k 32805 0 2) &&& ((m_65 k (nI u) j M) k 49197 0 0))) v
          · rfl
          · exact absurd ⟨v, Nat.zero_le _, hvc, (one v hvc).mp e⟩ z
        · rw [bits v hv]; simp [hvc]
    have cntE : ∀ N, N + z_cn (fun v => decide (¬ r_208 (nI v) (m_197 (nI u) j m) = 0)) 0 = 0 + z_cn (fun v => decide (¬ r_208 (nI v) (m_197 (nI u) j m) = 0)) c → ux_bc ((m_65 k (nI u) j M k 32805 0 0) ||| (m_65 k (nI u) j M k 32805 0 2)) = nI N := fun N hN => by
      have bz : ∀ w, w < 32 → bt ((m_65 k (nI u) j M k 32805 0 0) ||| (m_65 k (nI u) j M k 32805 0 2)) w = (decide (w < c) && decide (¬ r_208 (nI w) (m_197 (nI u) j m) = 0)) := fun w hw => by
        obtain ⟨b1, b2, b3, b4, b5, b6, _⟩ := hT w hw
        rw [b_or, b1, b3]
        by_cases hwc : w < c
        · obtain ⟨t1, t2, t3, t4⟩ := z_ttp hT hwc hc
          rw [t4]
          cases e1 : bt (m_197 (nI u) j m 5 950305 0 1) w <;> cases e2 : bt (m_197 (nI u) j m 5 950305 0 2) w <;> cases e3 : bt (m_197 (nI u) j m 5 950305 0 3) w <;> simp [hwc]
        · simp [hwc]
      rw [hBC _ (fun w h1 h2 => by rw [bz w h2]; simp [show ¬ w < c by omega])]
      congr 1
      have pc : ∀ n, n ≤ 16 → z_pop ((m_65 k (nI u) j M k 32805 0 0) ||| (m_65 k (nI u) j M k 32805 0 2)) n = z_cn (fun v => decide (¬ r_208 (nI v) (m_197 (nI u) j m) = 0)) (min n c) := by
        intro n
        induction n with
        | zero => intro _; rw [Nat.zero_min]; rfl
        | succ n ihn =>
          intro hn
          rw [z_pop, ihn (by omega), bz n (by omega)]
          by_cases hnc : n < c
          · rw [show min n c = n by omega, show min (n + 1) c = n + 1 by omega, z_cn]; simp [hnc]
          · rw [show min n c = c by omega, show min (n + 1) c = c by omega]; simp [hnc]
      have e := pc 16 (Nat.le_refl _)
      rw [show min 16 c = c by omega] at e
      rw [e]
      have e0 : z_cn (fun v => decide (¬ r_208 (nI v) (m_197 (nI u) j m) = 0)) 0 = 0 := rfl
      omega
    by_cases qb : y = 0 ∧ ∃ v, 0 ≤ v ∧ v < c ∧ z_cl1 (m_197 (nI u) j m) v
    · obtain ⟨k1, k2, k3⟩ := g1 qb
      have ncl : ¬ ((((m_65 k (nI u) j M) k 32805 0 0) &&& ((m_65 k (nI u) j M) k 49197 0 2)) ||| (((m_65 k (nI u) j M) k 32805 0 2) &&& ((m_65 k (nI u) j M) k 49197 0 0))) = 0 := fun z => ecl.mp z qb.2
      have e211 : r_211 y (m_197 (nI u) j m) = -5 := k2
      have em : m_211 y (m_197 (nI u) j m) = m_197 (nI u) j m := k3
      simp only [q, ncl, qb.1, if_true, if_false, not_true_eq_false, not_false_eq_true, true_implies, false_implies, true_and, and_true]
      rw [qb.1] at e211 em k1
      rw [e211, em]
      exact ⟨a1, a2, k1, rfl, hR, Or.inl (by decide), fun _ _ => trivial⟩
    · obtain ⟨N, k1, k2, k3, k4⟩ := g2 qb
      have ml := z_mgl (b := b) (k := k) (t := t) (B := B) c ux_fuel ux_fuel 0 (nI N) _ _ (by omega) hfu hfu hR hT
      have e211 : r_211 y (m_197 (nI u) j m) = nI N := k3.trans ml.2.2.1
      have em : m_211 y (m_197 (nI u) j m) = m_211_53 ux_fuel (nI N) 0 (m_197 (nI u) j m) := k4
      have p211 : p_211 y (m_197 (nI u) j m) := k2 ml.2.1
      have bcN := cntE N k1
      have p74 : p_74 k (m_65 k (nI u) j M) := ml.1
      have R74 : z_R 99 b k c t B (m_74 k (m_65 k (nI u) j M)) (m_211 y (m_197 (nI u) j m)) := by rw [em]; exact ml.2.2.2
      have N16 : N ≤ 16 := by
        have := z_cn.le (fun v => decide (¬ r_208 (nI v) (m_197 (nI u) j m) = 0)) c
        omega
      have n0 : 0 ≤ nI N := nI_pos' (by omega)
      rw [e211]
      by_cases cl0 : ((((m_65 k (nI u) j M) k 32805 0 0) &&& ((m_65 k (nI u) j M) k 49197 0 2)) ||| (((m_65 k (nI u) j M) k 32805 0 2) &&& ((m_65 k (nI u) j M) k 49197 0 0))) = 0
      · simp only [q, cl0, bcN, if_true, not_true_eq_false, true_implies, false_implies, true_and, and_true]
        exact ⟨⟨a1, p74⟩, a2, p211, R74, Or.inr n0, fun _ _ => trivial⟩
      · have y0 : ¬ y = 0 := fun z => by
          apply qb
          refine ⟨z, Classical.byContradiction (fun w => cl0 (ecl.mpr w))⟩
        simp only [q, cl0, y0, bcN, if_true, if_false, not_true_eq_false, not_false_eq_true, true_implies, false_implies, true_and, and_true]
        exact ⟨⟨a1, p74⟩, a2, p211, R74, Or.inr n0, fun _ _ => trivial⟩
  · have neg := a4.resolve_left q
    simp only [q, if_false, not_false_eq_true, true_implies, false_implies, true_and, and_true]
    exact ⟨a1, a2, hR, Or.inl neg⟩
end ZM
