/-! THE WHOLE STATE BETWEEN TWO CALLS -/
/-- a world at rest (instance k of M; m holds the reference's row) after at most n calls -/
def z_ST (k n : Nat) (M m : ux_M) : Prop := ∃ c t B : Nat, t ≤ 1000000 ∧ B ≤ 810000 * n ∧ z_R 99 16 k c t B M m ∧ z_stable c m
/-- the buffers -/
def z_BU (M : ux_M) : Prop := ∃ N : Nat, N ≤ 800 ∧ M 4 655365 0 1 = nI N ∧ M 5 819253 0 8 = nI N ∧ ∀ i, i < N → M 4 694529 0 i = M 5 940289 0 i ∧ ∃ b : Nat, 1 ≤ b ∧ b ≤ 255 ∧ M 4 694529 0 i = nI b
/-- row s laid as the row of numbers -/
def z_rr (M : ux_M) (s : Nat) : ux_M := z_tt M 5 844257 (M 5 s 0)
/-- the names of a world's units are not alike -/
def z_nd (k : Nat) (M : ux_M) : Prop := ∀ u v c : Nat, M k 344085 0 0 = nI c → c ≤ 16 → u < v → v < c → ¬ (M k 376961 0 u = M k 376961 0 v ∧ ∀ i, i < 8 → nI i < M k 376961 0 u → M k 394241 0 (u * 8 + i) = M k 394241 0 (v * 8 + i))
/-- a slot: instance k, row s, flag j -/
def z_SL (k s j n : Nat) (M : ux_M) : Prop := M 4 655365 0 (8 + j) = M 5 917522 0 j ∧ (M 5 917522 0 j = 0 ∨ (M 5 917522 0 j = 1 ∧ z_ST k n M (z_rr M s) ∧ z_nd k M))
def z_Q (n : Nat) (M : ux_M) : Prop := z_ST 0 n M M ∧ z_BU M ∧ (M 4 655365 0 2 = M 5 819253 0 13 ∧ z_nd 0 M) ∧ z_SL 2 893409 0 n M ∧ z_SL 3 909793 1 n M
/-- what is read of a world -/
def z_rd (s : Nat) : Prop := s < 20000 ∨ (40000 < s ∧ s < 270000) ∨ (320000 < s ∧ s < 600000)
def z_fT (M M' : ux_M) : Prop := ∀ a s r i, ((a = 0 ∨ a = 2 ∨ a = 3) ∧ z_rd s) ∨ (a = 4 ∧ (s = 655365 ∨ s = 694529)) ∨ (a = 5 ∧ (s = 844257 ∨ s = 893409 ∨ s = 909793 ∨ s = 917522 ∨ s = 940289 ∨ (s = 819253 ∧ (i = 8 ∨ i = 13)))) → M' a s r i = M a s r i
/-- what is read of the rest: the snapshots, the buffers, the latest error -/
def z_fO (M M' : ux_M) : Prop := ∀ a s r i, ((a = 2 ∨ a = 3) ∧ z_rd s) ∨ (a = 4 ∧ (s = 655365 ∨ s = 694529)) ∨ (a = 5 ∧ (s = 893409 ∨ s = 909793 ∨ s = 917522 ∨ s = 940289 ∨ (s = 819253 ∧ (i = 8 ∨ i = 13)))) → M' a s r i = M a s r i
def z_th (M : ux_M) (v : Int32) : ux_M := ux_set M 5 819253 0 6 v
/-- a unit's number; an argument's range -/
def z_iu (M : ux_M) (x : Int32) : Prop := ¬ x < 0 ∧ x < M 0 344085 0 0
def z_rg (x a b : Int32) : Prop := ¬ x < a ∧ x ≤ b
/-- a call: the class's, then the reference's -/
def z_op (n : Nat) (M : ux_M) (pc : ux_M → Prop) (rc : ux_M → Int32) (mc : ux_M → ux_M) (pr : ux_M → Prop) (rr : ux_M → Int32) (mr : ux_M → ux_M) : Prop :=
  pc M ∧ pr (mc M) ∧ rc M = rr (mc M) ∧ mr (mc M) 5 819253 0 6 = 0 ∧ z_Q (n + 1) (mr (mc M))
/-- a call at which the class throws -/
def z_thr (n : Nat) (M : ux_M) (pr : ux_M → Prop) (mr : ux_M → ux_M) (code : Int32) : Prop := pr M ∧ mr M 5 819253 0 6 = code ∧ z_Q (n + 1) (mr M)
section ZT1
variable {k c t B b u n n' s : Nat} {M M' M'' m m' : ux_M} {x y v a a' : Int32}
theorem z_fT.rf : z_fT M M := fun _ _ _ _ _ => rfl
theorem z_fT.tr (h : z_fT M M') (h' : z_fT M' M'') : z_fT M M'' := fun a s r i q => (h' a s r i q).trans (h a s r i q)
theorem z_fT.fO (h : z_fT M M') : z_fO M M' := fun a s r i q => h a s r i (by unfold z_rd at q ⊢; omega)
theorem z_fO.tr (h : z_fO M M') (h' : z_fO M' M'') : z_fO M M'' := fun a s r i q => (h' a s r i q).trans (h a s r i q)
theorem z_219c (h : z_W k c t B M m) (h' : z_W k c t B M' m') (e : ∀ i, m' 5 844257 0 i = m 5 844257 0 i) (hs : z_stable c m) : z_stable c m' := fun u hu => by
  have h16 := h.u16 hu
  have eY : ∀ a u, z_Y m' a u = z_Y m a u := fun a u => e _
  have e220 : r_220 (nI u) m' = r_220 (nI u) m := by
    refine b_ext (fun w hw => ?_)
    rw [z_r220 h' hu hw, z_r220 h hu hw, eY, eY]
    unfold z_pc; rw [eY, eY]
  unfold z_sb
  rw [eY, eY]
  have e : r_219 (nI u) m' = r_219 (nI u) m := by
    unfold r_219 r_219_24; rw [of29 _ h16, of29 _ h16, of28 _ h16, of28 _ h16, eY, eY, e220]
  rw [e]; exact hs u hu
theorem z_R.cg (h : z_R 99 b k c t B M m) (h1 : ∀ s r i, z_rd s → M' k s r i = M k s r i) (h2 : ∀ i, m' 5 844257 0 i = m 5 844257 0 i) : z_R 99 b k c t B M' m' := ⟨h.1.cong h1 h2, h.2.same (z_A.cong h2)⟩
theorem z_ST.cg (h : z_ST k n M m) (h1 : ∀ s r i, z_rd s → M' k s r i = M k s r i) (h2 : ∀ i, m' 5 844257 0 i = m 5 844257 0 i) : z_ST k n M' m' := by
  obtain ⟨c, t, B, ht, hB, hR, hs⟩ := h
  have hR' := hR.cg h1 h2
  exact ⟨c, t, B, ht, hB, hR', z_219c hR.1 hR'.1 h2 hs⟩
theorem z_ST.mono (h : z_ST k n M m) (hn : n ≤ n') : z_ST k n' M m := by
  obtain ⟨c, t, B, ht, hB, hR, hs⟩ := h
  exact ⟨c, t, B, ht, by omega, hR, hs⟩
theorem z_rrI (M : ux_M) (s i : Nat) : z_rr M s 5 844257 0 i = M 5 s 0 i := z_tt_g
theorem z_nd.cg {k' : Nat} (h : z_nd k M) (e1 : M' k' 344085 0 0 = M k 344085 0 0) (e2 : ∀ i, i < 16 → M' k' 376961 0 i = M k 376961 0 i) (e3 : ∀ i, i < 128 → M' k' 394241 0 i = M k 394241 0 i) : z_nd k' M' := fun u v c hc h16 hu hv q => by
  rw [e1] at hc
  rw [e2 u (by omega), e2 v (by omega)] at q
  exact h u v c hc h16 hu hv ⟨q.1, fun i hi hl => by
    have := q.2 i hi hl
    rw [e3 _ (by omega), e3 _ (by omega)] at this; exact this⟩
theorem z_nd.rd {k' : Nat} (h : z_nd k M) (e : ∀ s r i, z_rd s → M' k' s r i = M k s r i) : z_nd k' M' := h.cg (e _ _ _ (by unfold z_rd; omega)) (fun i _ => e _ _ _ (by unfold z_rd; omega)) (fun i _ => e _ _ _ (by unfold z_rd; omega))
theorem z_SL.fr {j : Nat} (h : z_SL k s j n M) (hn : n ≤ n') (hk : k = 2 ∨ k = 3) (hs : s = 893409 ∨ s = 909793) (f : z_fO M M') : z_SL k s j n' M' := by
  obtain ⟨h1, h2⟩ := h
  have e1 : M' 4 655365 0 (8 + j) = M 4 655365 0 (8 + j) := f _ _ _ _ (.inr (.inl ⟨rfl, .inl rfl⟩))
  have e2 : M' 5 917522 0 j = M 5 917522 0 j := f _ _ _ _ (by omega)
  unfold z_SL
  rw [e1, e2]
  refine ⟨h1, h2.imp id (fun q => ⟨q.1, (q.2.1.mono hn).cg (fun s r i q => f _ _ _ _ (.inl ⟨hk, q⟩)) (fun i => ?_), q.2.2.rd (fun s r i q => f _ _ _ _ (.inl ⟨hk, q⟩))⟩)⟩
  rw [z_rrI, z_rrI]; exact f _ _ _ _ (by omega)
theorem z_BU.fr (h : z_BU M) (f : z_fO M M') : z_BU M' := by
  obtain ⟨N, h0, h1, h2, h3⟩ := h
  refine ⟨N, h0, (f _ _ _ _ (.inr (.inl ⟨rfl, .inl rfl⟩))).trans h1, (f _ _ _ _ (by omega)).trans h2, fun i hi => ?_⟩
  rw [f 4 694529 0 i (.inr (.inl ⟨rfl, .inr rfl⟩)), f 5 940289 0 i (by omega)]
  exact h3 i hi
theorem z_Q.mk (h : z_Q n M) (hn : n ≤ n') (f : z_fO M M') (hS : z_ST 0 n' M' M') (hN : z_nd 0 M') : z_Q n' M' := by
  obtain ⟨_, h2, h3, h4, h5⟩ := h
  refine ⟨hS, h2.fr f, ⟨?_, hN⟩, h4.fr hn (.inl rfl) (.inl rfl) f, h5.fr hn (.inr rfl) (.inr rfl) f⟩
  rw [f 4 655365 0 2 (.inr (.inl ⟨rfl, .inl rfl⟩)), f 5 819253 0 13 (by omega)]; exact h3.1
theorem z_Q.fr (h : z_Q n M) (hn : n ≤ n') (f : z_fT M M') : z_Q n' M' :=
  h.mk hn f.fO ((h.1.mono hn).cg (fun s r i q => f _ _ _ _ (.inl ⟨.inl rfl, q⟩)) (fun i => f _ _ _ _ (by omega))) (h.2.2.1.2.rd (fun s r i q => f _ _ _ _ (.inl ⟨.inl rfl, q⟩)))
theorem z_fT.th (v : Int32) : z_fT M (z_th M v) := fun a s r i q => by
  unfold z_th; rw [z_set, if_neg (fun z => by unfold z_rd at q; omega)]
theorem z_fT.fM (h : z_fM M M') : z_fT M M' := fun a s r i q => h a s r i (by unfold z_rd at q; omega)
theorem z_fT.fC (h : z_fC 0 M M') : z_fT M M' := fun a s r i q => h a s r i (by unfold z_rd at q; omega)
theorem z_fT.t0 {T : Nat → Int32} (hs : s = 278657 ∨ s = 295041 ∨ s = 311425) : z_fT M (z_tt M 0 s T) := fun a s' r i q => by
  unfold z_tt; rw [if_neg (fun z => by unfold z_rd at q; omega)]
theorem z_fT.t5 {T : Nat → Int32} (hs : s = 1015937 ∨ s = 999553 ∨ s = 860641 ∨ s = 877025) : z_fT M (z_tt M 5 s T) := fun a s' r i q => by
  unfold z_tt; rw [if_neg (fun z => by unfold z_rd at q; omega)]
theorem z_fT.f9 (h : z_f9 M M') : z_fT M M' := fun a s r i q => h a s r i (by unfold z_rd at q; omega)
/-! numbers -/
theorem z_thth : z_th (z_th M x) y = z_th M y := by
  unfold z_th; funext a b c d; rw [z_set, z_set, z_set]
  by_cases q : a = 5 ∧ b = 819253 ∧ c = 0 ∧ d = 6
  · rw [if_pos q, if_pos q]
  · rw [if_neg q, if_neg q, if_neg q]
theorem z_th6 : z_th M v 5 819253 0 6 = v := z_ss
theorem z_thY (a u : Nat) : z_Y (z_th M v) a u = z_Y M a u := z_PY M v a u (by omega)
theorem z_thI (i : Nat) : z_th M v 5 844257 0 i = M 5 844257 0 i := z_so (by decide)
theorem z_thK {k s r i : Nat} (hk : ¬ k = 5) : z_th M v k s r i = M k s r i := z_sk hk
theorem z_R.th (h : z_R 99 b k c t B M m) (v : Int32) : z_R 99 b k c t B M (z_th m v) := h.cg (fun _ _ _ _ => rfl) (fun i => z_thI i)
theorem z_uin (h : ¬ x < 0) (h2 : x < nI c) (hc : c ≤ 2000) : ∃ u, u < c ∧ x = nI u := by
  obtain ⟨j, hj, rfl⟩ := nI_of h
  exact ⟨j, (nI_ltI hj (by omega)).mp h2, rfl⟩
theorem z_nin (hu : u < c) (hc : c ≤ 2000) : ¬ nI u < 0 ∧ nI u < nI c := ⟨nI_pos (by omega), (z_lt (by omega) (by omega)).mpr hu⟩
theorem z_lgc (x y : Int32) : (lg_cmp x.toInt64 y.toInt64 < 0 ↔ x < y) ∧ (0 < lg_cmp x.toInt64 y.toInt64 ↔ y < x) := by
  have e1 : x.toInt64 > y.toInt64 ↔ y < x := by
    rw [gt_iff_lt, Int64.lt_iff_toInt_lt, Int32.lt_iff_toInt_lt, Int32.toInt_toInt64, Int32.toInt_toInt64]
  have e2 : x.toInt64 = y.toInt64 ↔ x = y := ⟨fun h => Int32.toInt_inj.mp (by rw [← Int32.toInt_toInt64, h, Int32.toInt_toInt64]), fun h => by rw [h]⟩
  unfold lg_cmp
  by_cases q : y < x
  · rw [if_pos (e1.mpr q)]
    refine ⟨⟨fun z => absurd z (by decide), fun z => ?_⟩, fun _ => q, fun _ => by decide⟩
    rw [Int32.lt_iff_toInt_lt] at q z; omega
  · rw [if_neg (fun z => q (e1.mp z))]
    by_cases q2 : x = y
    · rw [if_pos (e2.mpr q2)]
      refine ⟨⟨fun z => absurd z (by decide), fun z => ?_⟩, ⟨fun z => absurd z (by decide), fun z => absurd z q⟩⟩
      subst q2; exact absurd z q
    · rw [if_neg (fun z => q2 (e2.mp z))]
      refine ⟨⟨fun _ => ?_, fun _ => by decide⟩, ⟨fun z => absurd z (by decide), fun z => absurd z q⟩⟩
      rw [Int32.lt_iff_toInt_lt] at q ⊢
      have : ¬ x.toInt = y.toInt := fun z => q2 (Int32.toInt_inj.mp z)
      omega
/-- the reference's ranges -/
theorem z_i64 (x a b : Int32) {L : Int64} (hL : L = b.toInt64) : (¬ lg_cmp x.toInt64 a.toInt64 < 0 ∧ ¬ 0 < lg_cmp x.toInt64 L) ↔ (¬ x < a ∧ ¬ b < x) := by
  subst hL; rw [(z_lgc x a).1, (z_lgc x b).2]
theorem z_nlI (x b : Int32) : ¬ b < x ↔ x ≤ b := by rw [Int32.lt_iff_toInt_lt, Int32.le_iff_toInt_le]; omega
theorem z_i64g (x a b : Int32) {L : Int64} (hL : L = b.toInt64) : (¬ lg_cmp x.toInt64 a.toInt64 < 0 ∧ ¬ 0 < lg_cmp x.toInt64 L) ↔ z_rg x a b := by
  rw [z_i64 x a b hL]; unfold z_rg; exact and_congr Iff.rfl (z_nlI x b)
theorem z_cm1 (hc : c ≤ 2000) (x : Int32) : (¬ nI c - 1 < x) ↔ x < nI c := by
  rw [Int32.lt_iff_toInt_lt, Int32.lt_iff_toInt_lt, nI_toInt (show c < 2 ^ 31 by omega)]
  cases c with
  | zero => rw [show (nI 0 - 1 : Int32).toInt = -1 by decide]; omega
  | succ c => rw [nI_pred, nI_toInt (show c < 2 ^ 31 by omega)]; omega
/-- a guard that throws nothing; one that throws -/
theorem z_176a (h : M 5 819253 0 6 = 0) (b : Int32) : p_176 0 b M ∧ r_176 0 b M = 0 ∧ m_176 0 b M = M := by
  unfold p_176 r_176 m_176 p_176_16 r_176_16
  rw [if_pos h, if_pos h, if_pos rfl, if_pos rfl, if_pos h]
  exact ⟨⟨fun _ => trivial, fun _ => ⟨fun _ => trivial, fun _ _ _ => trivial⟩⟩, rfl, rfl⟩
theorem z_176b (h : M 5 819253 0 6 = 0) {b : Int32} (hb : ¬ b = 0) : p_176 1 b M ∧ r_176 1 b M = 1 ∧ m_176 1 b M = z_th M b := by
  unfold p_176 r_176 m_176 p_176_16 r_176_16
  rw [if_pos h, if_pos h, if_neg (show ¬ (1 : Int32) = 0 by decide), if_neg (show ¬ (1 : Int32) = 0 by decide)]
  refine ⟨⟨fun _ => trivial, fun _ => ⟨fun _ => trivial, fun _ _ _ => trivial⟩⟩, ?_, if_pos h⟩
  show (if ux_set M 5 819253 0 6 b 5 819253 0 6 = 0 then (0 : Int32) else 1) = 1
  rw [z_ss, if_neg hb]
theorem z_235i (hc : c ≤ 16) (hm : m 5 844257 0 1 = nI c) (hu : u < c) : p_235 (nI u) m ∧ r_235 (nI u) m = 0 ∧ m_235 (nI u) m = z_th m 0 := by
  have h0 : z_th m 0 5 819253 0 6 = 0 := z_th6
  have hr : ¬ nI u < 0 ∧ ¬ nI c - 1 < nI u := ⟨(z_nin hu (by omega)).1, (z_cm1 (by omega) _).mpr (z_nin hu (by omega)).2⟩
  have e : (ux_set m 5 819253 0 6 0) 5 844257 0 (1 : Int32).toNatClampNeg = nI c := by rw [z_c1]; exact (z_so (by decide)).trans hm
  have hq := (z_i64 (nI u) 0 (nI c - 1) (L := (nI c - 1).toInt64) rfl).mpr hr
  obtain ⟨a1, a2, a3⟩ := z_176a (M := z_th m 0) h0 1
  unfold p_235 r_235 m_235
  simp only [forall_eq, e]
  rw [if_pos hq, if_pos hq]
  exact ⟨⟨z_v1, fun _ => ⟨a1, .inl a2⟩, fun z => absurd hq z⟩, a2, a3⟩
theorem z_235o (hc : c ≤ 16) (hm : m 5 844257 0 1 = nI c) (hx : ¬ (¬ x < 0 ∧ x < nI c)) : p_235 x m ∧ r_235 x m = 1 ∧ m_235 x m = z_th m 1 := by
  have h0 : z_th m 0 5 819253 0 6 = 0 := z_th6
  have e : (ux_set m 5 819253 0 6 0) 5 844257 0 (1 : Int32).toNatClampNeg = nI c := by rw [z_c1]; exact (z_so (by decide)).trans hm
  have hq : ¬ (¬ lg_cmp x.toInt64 (0 : Int32).toInt64 < 0 ∧ ¬ 0 < lg_cmp x.toInt64 (nI c - 1).toInt64) := fun z => hx ⟨((z_i64 x 0 (nI c - 1) rfl).mp z).1, (z_cm1 (c := c) (by omega) x).mp ((z_i64 x 0 (nI c - 1) rfl).mp z).2⟩
  obtain ⟨a1, a2, a3⟩ := z_176b (M := z_th m 0) h0 (b := 1) (by decide)
  rw [z_thth] at a3
  unfold p_235 r_235 m_235
  simp only [forall_eq, e]
  rw [if_neg hq, if_neg hq]
  exact ⟨⟨z_v1, fun z => absurd z hq, fun _ => ⟨a1, .inr a2⟩⟩, a2, a3⟩
/-! what a call may use -/
theorem z_Q.w (h : z_Q n M) : ∃ c t B : Nat, t ≤ 1000000 ∧ B ≤ 810000 * n ∧ z_R 99 16 0 c t B M M ∧ z_stable c M := h.1
/-- the unit of a call -/
theorem z_Q.un (h : z_Q n M) (hx : z_iu M x) : ∃ c t B u : Nat, t ≤ 1000000 ∧ B ≤ 810000 * n ∧ z_R 99 16 0 c t B M M ∧ z_stable c M ∧ c ≤ 16 ∧ u < c ∧ u < 16 ∧ x = nI u := by
  obtain ⟨c, t, B, ht, hB, hR, hs⟩ := h.1
  have hc := hR.1.le
  unfold z_iu at hx
  rw [hR.1.cnt] at hx
  obtain ⟨u, hu, e⟩ := z_uin hx.1 hx.2 (by omega)
  exact ⟨c, t, B, u, ht, hB, hR, hs, hc, hu, by omega, e⟩
theorem z_p93 (h : z_iu M x) : p_93 x M := ⟨fun z => absurd z h.1, fun _ => ⟨fun _ => trivial, fun z => absurd h.2 z⟩⟩
theorem z_p96 (h : z_rg x a a') : p_96 x a a' M := ⟨fun z => absurd z h.1, fun _ => ⟨fun _ => trivial, fun z => absurd h.2 z⟩⟩
/-- no such unit: the reference notes it -/
theorem z_Q.o (h : z_Q n M) (hx : ¬ z_iu M x) : p_235 x M ∧ r_235 x M = 1 ∧ m_235 x M = z_th M 1 := by
  obtain ⟨c, t, B, ht, hB, hR, hs⟩ := h.1
  unfold z_iu at hx
  rw [hR.1.cnt] at hx
  exact z_235o hR.1.le hR.1.cn hx
theorem z_Q.th (h : z_Q n M) (v : Int32) : z_Q (n + 1) (z_th M v) := h.fr (by omega) (.th v)
theorem z_op.th {pc pr : ux_M → Prop} {rc rr : ux_M → Int32} {mr : ux_M → ux_M} (h : z_Q n M) (h1 : pc M) (h2 : pr M) (h3 : rc M = rr M) (h4 : mr M = z_th M 0) : z_op n M pc rc (fun M => M) pr rr mr := ⟨h1, h2, h3, by rw [h4, z_th6], by rw [h4]; exact h.th 0⟩
theorem z_thr.th {pr : ux_M → Prop} {mr : ux_M → ux_M} {code : Int32} (h : z_Q n M) (h2 : pr M) (h4 : mr M = z_th M code) : z_thr n M pr mr code := ⟨h2, by rw [h4, z_th6], by rw [h4]; exact h.th code⟩
end ZT1
