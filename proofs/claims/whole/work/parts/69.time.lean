/-! ticks and time on both sides -/
section ZX
variable {k c t B B' u v a b b' t' s x n T : Nat} {M m M' m' m'' : ux_M} {v' : Int32}
/-- the events of a tick, then running jobs -/
theorem z_tkl (hTX : z_TX k c) (hBC : z_BC) (hB : B + 800 < 1999999999) (kp : Nat → Int32 → Int32 → ux_M → Prop) (km : Nat → Int32 → Int32 → ux_M → ux_M) (y1 y2 : Int32) :
    ∀ (n f f' i : Nat) (M m : ux_M), i + n = c → n < f → n < f' → z_R 99 i k c t B M m →
    ∃ Mf, (kp k y1 (y2 + 1) Mf → p_50_31 kp f k y1 y2 (nI i) M) ∧ p_177_12 f' (nI i) m ∧ m_50_31 km f k y1 y2 (nI i) M = km k y1 (y2 + 1) Mf ∧ z_R 99 16 k c t (B + 800) Mf (m_177_12 f' (nI i) m) ∧ z_stable c (m_177_12 f' (nI i) m) := by
  intro n
  induction n with
  | zero =>
    intro f f' i M m hi hf hf' h
    obtain ⟨f, rfl⟩ : ∃ g, f = g + 1 := ⟨f - 1, by omega⟩
    obtain ⟨f', rfl⟩ : ∃ g, f' = g + 1 := ⟨f' - 1, by omega⟩
    have hc := h.1.le
    have hle := z_yle (show c ≤ i by omega) (by omega)
    have h16 : z_R 99 16 k c t B M m := ⟨h.1, fun w hw => ⟨(h.2 w hw).1, fun q => z_Dtr ((h.2 w hw).2 q) (fun x _ _ z => by unfold z_dl at z ⊢; omega) (fun x z => by unfold z_dl at z ⊢; omega)⟩⟩
    obtain ⟨j1, j2, j3, j4⟩ := h16.jobs hB
    rw [p_50_31, p_177_12, m_50_31, m_177_12, h.1.cnt, z_c1, h.1.cn, if_pos hle, if_pos hle]
    exact ⟨m_78 k M, fun z => ⟨fun _ => ⟨j1, z⟩, fun z => absurd hle z⟩, ⟨z_v1, fun _ => j2, fun z => absurd hle z⟩, rfl, j3, j4⟩
  | succ n ih =>
    intro f f' i M m hi hf hf' h
    obtain ⟨f, rfl⟩ : ∃ g, f = g + 1 := ⟨f - 1, by omega⟩
    obtain ⟨f', rfl⟩ : ∃ g, f' = g + 1 := ⟨f' - 1, by omega⟩
    have hc := h.1.le
    have hic : i < c := by omega
    have hi16 := h.1.u16 hic
    have hle := z_nle hic h.1.le
    have tl := h.1.tl
    obtain ⟨d1, d2, d3, d4⟩ := z_due h hic
    have eqv : (r_49 k (nI i) M = nI t) ↔ (r_178 (nI i) m = nI t) := by
      rcases d3 with e | ⟨e1, e2, x, e3, e4, e5⟩
      · rw [e]
      · rw [e2, e3]
        constructor
        · intro z
          have : x = t := (z_eq (by omega) (by omega)).mp z
          subst this; exact absurd (Or.inr ⟨rfl, Nat.le_refl _⟩) e4
        · intro z; exact absurd z.symm (z_nm1 (by omega))
    rw [p_50_31, p_177_12, m_50_31, m_177_12]
    simp only [h.1.cnt, h.1.cn, z_c1, z_c0, hle, if_false, not_false_eq_true, true_implies, false_implies, true_and, h.1.nw, h.1.now, eqv, z_nx]
    by_cases q : r_178 (nI i) m = nI t
    · obtain ⟨e1, e2, e3⟩ := h.hap hTX hBC (by omega) hic q
      obtain ⟨Mf, g1, g2, g3, g4, g5⟩ := ih f f' (i + 1) _ _ (by omega) (by omega) (by omega) e3
      simp only [q, if_true, not_true_eq_false, true_implies, false_implies, true_and, and_true]
      exact ⟨Mf, fun z => ⟨d1, e1, g1 z⟩, ⟨z_v1, d2, z_v0, e2, g2⟩, g3, g4, g5⟩
    · obtain ⟨Mf, g1, g2, g3, g4, g5⟩ := ih f f' (i + 1) M m (by omega) (by omega) (by omega) (h.nvis q)
      simp only [q, if_false, not_false_eq_true, true_implies, false_implies, true_and, and_true]
      exact ⟨Mf, fun z => ⟨d1, g1 z⟩, ⟨z_v1, d2, z_v0, g2⟩, g3, g4, g5⟩
/-! ticks at which nothing happens -/
theorem z_nowY (m : ux_M) (v : Int32) (a w : Nat) : z_Y (ux_set m 5 844257 0 0 v) a w = z_Y m a w := z_PY m v a w (Or.inr (Or.inr (by omega)))
theorem z_now178 (m : ux_M) (v : Int32) (hu : u < 16) : r_178 (nI u) (ux_set m 5 844257 0 0 v) = r_178 (nI u) m := by
  unfold r_178 r_178_59 r_178_91
  simp only [of28 _ hu, of0 _ hu, of35 _ hu, of12 _ hu, of36 _ hu, of19 _ hu, of37 _ hu, z_nowY]
theorem z_nowA (m : ux_M) (v : Int32) (w : Nat) : z_A (ux_set m 5 844257 0 0 v) w = z_A m w := by
  funext a; unfold z_A; rw [z_nowY]
/-- a change of time -/
theorem z_W.tim (h : z_W k c t B M m) (hT : T ≤ 1003000) : z_W k c T B (ux_set M k 16413 0 3 (nI T)) (ux_set m 5 844257 0 0 (nI T)) := by
  obtain ⟨hH, hC, hD, hJ, hL, hTt⟩ := h
  have hX : ∀ s r i, ¬ (s = 16413 ∧ i = 3) → ux_set M k 16413 0 3 (nI T) k s r i = M k s r i := fun s r i q => by rw [z_set, if_neg (fun z => q ⟨z.2.1, z.2.2.2⟩)]
  have hI : ∀ i, ¬ i = 0 → ux_set m 5 844257 0 0 (nI T) 5 844257 0 i = m 5 844257 0 i := fun i q => z_si q
  refine ⟨?_, hC.cong (fun s' r i q _ => hX s' r i (by omega)) (fun b w hb => z_nowY m _ b w), fun q hq' w hw => ?_, ?_, ?_, ?_⟩
  · obtain ⟨h1, h2, h3, h4, h5, h6⟩ := hH
    unfold z_H
    rw [hX _ _ _ (by omega), hI _ (by omega), z_ss, z_ss]
    exact ⟨h1, hT, h3, h4, rfl, rfl⟩
  · have g := z_tf (a := q.1) (s := q.2) hq'
    rw [z_nowY, hX _ _ _ (by omega)]; exact hD q hq' w hw
  · have e : ∀ a, z_Y (ux_set m 5 844257 0 0 (nI T)) a = z_Y m a := fun a => funext (fun w => z_nowY m _ a w)
    unfold z_J; rw [e, e, e, hX 49197 _ _ (by omega), hX 49197 _ _ (by omega), hX 49197 _ _ (by omega), hX 49197 _ _ (by omega), hX 16413 _ 4 (by omega)]; exact hJ
  · have e : ux_set M k 16413 0 3 (nI T) k 263585 0 = M k 263585 0 := funext (fun i => hX _ _ _ (by omega))
    have e2 : z_LF (M k 16413 0 18) (m 5 844257 0 2) (M k 263585 0) (fun i => ux_set m 5 844257 0 0 (nI T) 5 844257 0 (8 + i)) := by
      obtain ⟨L, q1, q2, q3, q4⟩ := hL
      exact ⟨L, q1, q2, q3, fun i hi p hp => (hI _ (by omega)).trans (q4 i hi p hp)⟩
    unfold z_L; rw [e, hI _ (by omega), hX _ _ _ (by omega)]; exact e2
  · have e : ux_set M k 16413 0 3 (nI T) k 164993 0 = M k 164993 0 := funext (fun i => hX _ _ _ (by omega))
    have e1 : ∀ a, z_Y (ux_set m 5 844257 0 0 (nI T)) a = z_Y m a := fun a => funext (fun w => z_nowY m _ a w)
    have e4 : (fun i u => z_Y (ux_set m 5 844257 0 0 (nI T)) (46 + i) u) = (fun i u => z_Y m (46 + i) u) := by funext i u; exact z_nowY m _ _ _
    unfold z_T; rw [e, e1, e1, e4]; exact hTt
/-- a time that comes before anything is due -/
theorem z_R.tim (h : z_R 99 16 k c t B M m) (hT : T ≤ 1003000) (ht : t < T) (hd : ∀ u, u < c → ∀ x, r_178 (nI u) m = nI x → x ≤ 1005000 → T ≤ x) : z_R 99 0 k c T B (ux_set M k 16413 0 3 (nI T)) (ux_set m 5 844257 0 0 (nI T)) := by
  refine ⟨h.1.tim hT, fun w hw => ?_⟩
  have hc := h.1.le
  have tl := h.1.tl
  have e := z_nowA m (nI T) w
  rw [e]
  obtain ⟨h1, h2⟩ := h.2 w hw
  refine ⟨?_, fun _ => ?_⟩
  · obtain ⟨b1, b2, b3, b4, b5, b6, ⟨x, b7, b8⟩, ⟨y, b9, b10⟩⟩ := h1
    exact ⟨b1, b2, b3, b4, b5, b6, ⟨x, by omega, b8⟩, ⟨y, by omega, b10⟩⟩
  · refine z_Dtr (h2 (by omega)) (fun x hx hcd z => ?_) (fun x z => ?_)
    · obtain ⟨y, ey, hy⟩ := z_cmin h hw hx hcd
      have := hd w hw y ey (by omega)
      unfold z_dl; omega
    · unfold z_dl at z ⊢; omega
/-- nothing runs -/
theorem z_idl' (h : z_W k c t B M m) (hs : z_stable c m) (kp' : Int32 → ux_M → Prop) (km' : Int32 → ux_M → ux_M) : ∀ (n f i : Nat), i + n = c → n < f → (kp' 0 m → p_218_10 kp' f 0 (nI i) m) ∧ m_218_10 km' f 0 (nI i) m = km' 0 m := by
  intro n
  induction n with
  | zero =>
    intro f i hi hf
    obtain ⟨f, rfl⟩ : ∃ g, f = g + 1 := ⟨f - 1, by omega⟩
    have hle := z_yle (show c ≤ i by omega) (by have := h.le; omega)
    rw [p_218_10, m_218_10, z_c1, h.cn, if_pos hle]
    exact ⟨fun z => ⟨z_v1, fun _ => z, fun y => absurd hle y⟩, rfl⟩
  | succ n ih =>
    intro f i hi hf
    obtain ⟨f, rfl⟩ : ∃ g, f = g + 1 := ⟨f - 1, by omega⟩
    have hic : i < c := by omega
    have hi16 := h.u16 hic
    have hle := z_nle hic h.le
    obtain ⟨r1, r2⟩ := ih f (i + 1) (by omega) (by omega)
    rw [p_218_10, m_218_10]
    simp only [z_c1, h.cn, hle, if_false, not_false_eq_true, true_implies, false_implies, true_and, of29 _ hi16, of30 _ hi16, z_nx]
    by_cases q0 : z_Y m 29 i = 0
    · simp only [q0, if_true, not_true_eq_false, true_implies, false_implies, true_and, and_true]
      exact ⟨fun z => ⟨z_v1, uu29 hi16, r1 z⟩, r2⟩
    · by_cases q1 : z_Y m 30 i = 1
      · simp only [q0, q1, if_true, if_false, not_true_eq_false, not_false_eq_true, true_implies, false_implies, true_and, and_true]
        exact ⟨fun z => ⟨z_v1, uu29 hi16, uu30 hi16, r1 z⟩, r2⟩
      · have q2 : r_219 (nI i) m = 0 := by
          rcases hs i hic with z | z | z
          · exact absurd z q0
          · exact absurd z q1
          · exact z
        have p219 : p_219 (nI i) m := by
          unfold p_219 p_219_24; rw [of29 _ hi16, of28 _ hi16]
          exact ⟨uu29 hi16, fun _ => z_p220 h hic, fun _ => ⟨uu28 hi16, fun _ => z_p220 h hic, fun _ => trivial⟩⟩
        simp only [q0, q1, q2, if_true, if_false, not_true_eq_false, not_false_eq_true, true_implies, false_implies, true_and, and_true]
        exact ⟨fun z => ⟨z_v1, uu29 hi16, uu30 hi16, p219, r1 z⟩, r2⟩
theorem z_now220 (h : z_W k c t B M m) (h' : z_W k c T B' M' (ux_set m 5 844257 0 0 v')) (hu : u < c) : r_220 (nI u) (ux_set m 5 844257 0 0 v') = r_220 (nI u) m := by
  refine b_ext (fun w hw => ?_)
  rw [z_r220 h' hu hw, z_r220 h hu hw, z_nowY, z_nowY]
  unfold z_pc; rw [z_nowY, z_nowY]
theorem z_nstb (h : z_W k c t B M m) (h' : z_W k c T B' M' (ux_set m 5 844257 0 0 v')) (hs : z_stable c m) : z_stable c (ux_set m 5 844257 0 0 v') := fun u hu => by
  have h16 := h.u16 hu
  unfold z_sb
  rw [z_nowY, z_nowY]
  have e : r_219 (nI u) (ux_set m 5 844257 0 0 v') = r_219 (nI u) m := by
    unfold r_219 r_219_24; rw [of29 _ h16, of29 _ h16, of28 _ h16, of28 _ h16, z_nowY, z_nowY, z_now220 h h' hu]
  rw [e]; exact hs u hu
/-- a tick at which nothing is due -/
theorem z_idt (h : z_R 99 16 k c t B M m) (hs : z_stable c m) (hT : t + 1 ≤ 1003000) (hd : ∀ u, u < c → ¬ r_178 (nI u) m = nI (t + 1)) : p_177 m ∧ m_177 m = ux_set m 5 844257 0 0 (nI (t + 1)) := by
  have hc := h.1.le
  have hfu : c < ux_fuel := by have := z_fuel; omega
  have hW := h.1.tim hT
  have hs' := z_nstb h.1 hW hs
  -- the loop over the units
  have lp : ∀ (n f i : Nat), i + n = c → n < f → (p_218 (ux_set m 5 844257 0 0 (nI (t + 1))) → p_177_12 f (nI i) (ux_set m 5 844257 0 0 (nI (t + 1)))) ∧ m_177_12 f (nI i) (ux_set m 5 844257 0 0 (nI (t + 1))) = m_218 (ux_set m 5 844257 0 0 (nI (t + 1))) := by
    intro n
    induction n with
    | zero =>
      intro f i hi hf
      obtain ⟨f, rfl⟩ : ∃ g, f = g + 1 := ⟨f - 1, by omega⟩
      have hle := z_yle (show c ≤ i by omega) (by omega)
      rw [p_177_12, m_177_12, z_c1, hW.cn, if_pos hle]
      exact ⟨fun z => ⟨z_v1, fun _ => z, fun y => absurd hle y⟩, rfl⟩
    | succ n ih =>
      intro f i hi hf
      obtain ⟨f, rfl⟩ : ∃ g, f = g + 1 := ⟨f - 1, by omega⟩
      have hic : i < c := by omega
      have hi16 := h.1.u16 hic
      have hle := z_nle hic hc
      obtain ⟨r1, r2⟩ := ih f (i + 1) (by omega) (by omega)
      have nd : ¬ r_178 (nI i) (ux_set m 5 844257 0 0 (nI (t + 1))) = nI (t + 1) := by rw [z_now178 _ _ hi16]; exact hd i hic
      have pd : p_178 (nI i) (ux_set m 5 844257 0 0 (nI (t + 1))) := by
        unfold p_178 p_178_59 p_178_91
        exact ⟨uu28 hi16, fun _ => uu35 hi16, fun _ => ⟨uu0 hi16, fun _ => ⟨uu12 hi16, fun _ => ⟨uu19 hi16, fun _ => trivial, fun _ => ⟨uu37 hi16, uu19 hi16, trivial⟩⟩, fun _ => ⟨uu36 hi16, uu12 hi16, uu19 hi16, fun _ => trivial, fun _ => ⟨uu37 hi16, uu19 hi16, trivial⟩⟩⟩, fun _ => uu35 hi16⟩⟩
      rw [p_177_12, m_177_12]
      simp only [z_c1, z_c0, hW.cn, hW.now, hle, nd, z_nx, if_false, not_false_eq_true, true_implies, false_implies, true_and, and_true]
      exact ⟨fun z => ⟨z_v1, pd, z_v0, r1 z⟩, r2⟩
  have jd : p_218 (ux_set m 5 844257 0 0 (nI (t + 1))) ∧ m_218 (ux_set m 5 844257 0 0 (nI (t + 1))) = ux_set m 5 844257 0 0 (nI (t + 1)) := by
    -- what is looked at by a round that does nothing
    obtain ⟨f, hf, hf2⟩ := z_f1 (n := 10) (by have := z_fuel; omega)
    obtain ⟨f2, rfl⟩ : ∃ g, f = g + 1 := ⟨f - 1, by omega⟩
    obtain ⟨r1, r2⟩ := z_idl' hW hs' (p_218_2 (f2 + 1)) (m_218_2 (f2 + 1)) c ux_fuel 0 (by omega) hfu
    have e : p_218_2 (f2 + 1) 0 (ux_set m 5 844257 0 0 (nI (t + 1))) := by rw [p_218_2]; exact ⟨fun _ => trivial, fun z => absurd rfl z⟩
    have e2 : m_218_2 (f2 + 1) 0 (ux_set m 5 844257 0 0 (nI (t + 1))) = ux_set m 5 844257 0 0 (nI (t + 1)) := by rw [m_218_2, if_pos rfl]
    unfold p_218 m_218
    rw [hf, p_218_2, m_218_2, if_neg z_10]
    exact ⟨⟨fun z => absurd z z_10, fun _ => r1 e⟩, r2.trans e2⟩
  obtain ⟨l1, l2⟩ := lp c ux_fuel 0 (by omega) hfu
  unfold p_177 m_177
  simp only [z_c0, h.1.now, z_nx, forall_eq]
  exact ⟨⟨z_v0, z_v0, l1 jd.1⟩, l2.trans jd.2⟩
/-- ticks, one after another -/
noncomputable def z_tk : Nat → ux_M → ux_M
  | 0, m => m
  | n + 1, m => z_tk n (m_177 m)
def z_ptk : Nat → ux_M → Prop
  | 0, _ => True
  | n + 1, m => p_177 m ∧ z_ptk n (m_177 m)
theorem z_tk.add (p : Nat) : ∀ (n : Nat) (m : ux_M), z_tk (n + p) m = z_tk p (z_tk n m) ∧ (z_ptk (n + p) m ↔ z_ptk n m ∧ z_ptk p (z_tk n m))
  | 0, m => by rw [Nat.zero_add]; exact ⟨rfl, by unfold z_ptk z_tk; simp⟩
  | n + 1, m => by
    obtain ⟨h1, h2⟩ := z_tk.add p n (m_177 m)
    rw [show n + 1 + p = (n + p) + 1 by omega]
    show z_tk (n + p) (m_177 m) = z_tk p (z_tk n (m_177 m)) ∧ ((p_177 m ∧ z_ptk (n + p) (m_177 m)) ↔ (p_177 m ∧ z_ptk n (m_177 m)) ∧ z_ptk p (z_tk n (m_177 m)))
    exact ⟨h1, by rw [h2, and_assoc]⟩
/-- ticks at which nothing is due -/
theorem z_idts (h : z_R 99 16 k c t B M m) (hs : z_stable c m) : ∀ (d : Nat), t + d ≤ 1003000 → (∀ u, u < c → ∀ x, r_178 (nI u) m = nI x → x ≤ 1005000 → t + d < x) → z_ptk d m ∧ z_tk d m = (if d = 0 then m else ux_set m 5 844257 0 0 (nI (t + d)))
  | 0, _, _ => by unfold z_ptk z_tk; simp
  | d + 1, hT, hd => by
    have hc := h.1.le
    have tl := h.1.tl
    obtain ⟨i1, i2⟩ := z_idts h hs d (by omega) (fun u hu x e hx => by have := hd u hu x e hx; omega)
    have a := z_tk.add 1 d m
    have R : z_R 99 16 k c (t + d) B (if d = 0 then M else ux_set M k 16413 0 3 (nI (t + d))) (z_tk d m) ∧ z_stable c (z_tk d m) := by
      rw [i2]
      by_cases z : d = 0
      · subst z; simp only [if_true, Nat.add_zero]; exact ⟨h, hs⟩
      · rw [if_neg z, if_neg z]
        have R0 := h.tim (T := t + d) (by omega) (by omega) (fun u hu x e hx => by have := hd u hu x e hx; omega)
        refine ⟨⟨R0.1, fun w hw => ⟨(R0.2 w hw).1, fun q => ?_⟩⟩, z_nstb h.1 R0.1 hs⟩
        refine z_Dtr ((R0.2 w hw).2 q) (fun x hx hcd z => ?_) (fun x z => by unfold z_dl at z ⊢; omega)
        obtain ⟨y, ey, hy⟩ := z_cmin R0 hw hx hcd
        rw [z_now178 _ _ (h.1.u16 hw)] at ey
        have := hd w hw y ey (by omega)
        unfold z_dl; omega
    have nd : ∀ u, u < c → ¬ r_178 (nI u) (z_tk d m) = nI (t + d + 1) := fun u hu e => by
      have e' : r_178 (nI u) m = nI (t + d + 1) := by
        rw [i2] at e
        by_cases z : d = 0
        · rw [if_pos z] at e; exact e
        · rw [if_neg z, z_now178 _ _ (h.1.u16 hu)] at e; exact e
      have := hd u hu _ e' (by omega); omega
    obtain ⟨j1, j2⟩ := z_idt R.1 R.2 (by omega) nd
    refine ⟨a.2.mpr ⟨i1, by unfold z_ptk; exact ⟨j1, by unfold z_ptk; trivial⟩⟩, ?_⟩
    rw [a.1, if_neg (by omega)]
    show m_177 (z_tk d m) = _
    rw [j2, i2]
    by_cases z : d = 0
    · subst z; rfl
    · rw [if_neg z]
      funext x1 x2 x3 x4
      rw [z_set, z_set, z_set]
      by_cases e : x1 = 5 ∧ x2 = 844257 ∧ x3 = 0 ∧ x4 = 0
      · rw [if_pos e, if_pos e]; rfl
      · rw [if_neg e, if_neg e, if_neg e]
end ZX
