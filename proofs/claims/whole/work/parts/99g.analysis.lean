/-! ANALYSIS: allNeeded, allStopped, orderingCircle, isSound -/
section ZV2
variable {k c t B b u n s : Nat} {M M' m m' m1 : ux_M} {x y v : Int32} {E : Nat → Nat → Prop}
/-- the reference's closure of what is laid -/
theorem z_210c (hc : c ≤ 16) (hm : m1 5 844257 0 1 = nI c) (hE : ∀ x y, x < c → y < 32 → (z_G m1 x y ↔ E x y)) (hEc : ∀ x y, E x y → x < c ∧ y < c) :
    p_210 m1 ∧ z_f9 m1 (m_210 m1) ∧ ∀ x w, x < c → w < 32 → (z_G (m_210 m1) x w ↔ z_tc E x w) := by
  obtain ⟨b1, b2, b3, b4, b5⟩ := z_m210 hc c ux_fuel 0 m1 (by omega) (by have := z_fuel; omega) hm
  refine ⟨b1, b2, fun x w hx hw => ?_⟩
  show z_G (m_210_2 ux_fuel (nI 0) m1) x w ↔ _
  constructor
  · exact b4 (z_tc E) (fun _ _ _ h h' => h.tr h') (fun x y hx hy h => z_tc.one ((hE x y hx hy).mp h)) x w hx hw
  · intro h
    have cl := b5 (fun _ _ _ _ z => absurd z (by omega))
    have mo := fun x y (p : E x y) => b3 x y (hEc x y p).1 (by have := (hEc x y p).2; omega) ((hE x y (hEc x y p).1 (by have := (hEc x y p).2; omega)).mpr p)
    exact (z_tc.lst (P := fun v => v < c ∧ z_G (m_210_2 ux_fuel (nI 0) m1) x v) (fun y z p q => ⟨(hEc y z q).2, cl x y z hx p.1 (by have := (hEc y z q).2; omega) p.2 (mo y z q)⟩) (fun v q => ⟨(hEc x v q).2, mo x v q⟩) h).2
/-- a row is laid for each unit -/
theorem z_rowst (m : ux_M) (g : Nat → Int32) : ∀ (n i : Nat), z_f9 m (z_tt m 5 999553 g) := fun _ _ a s r i q => by
  unfold z_tt; rw [if_neg (fun z => q ⟨z.1, z.2.1⟩)]
theorem z_281l (hc : c ≤ 16) (hm : m 5 844257 0 1 = nI c) (hu : u < 16) : ∀ (n f i : Nat) (T : Nat → Int32), i + n = c → n < f → (∀ d, d < i → T d = z_Y m 22 d ||| z_Y m 24 d) → ∃ T1 : Nat → Int32, (∀ d, d < c → T1 d = z_Y m 22 d ||| z_Y m 24 d)
    ∧ (p_210 (z_tt m 5 999553 T1) → p_281_12 f (nI u) (nI i) (z_tt m 5 999553 T)) ∧ r_281_12 f (nI u) (nI i) (z_tt m 5 999553 T) = m_210 (z_tt m 5 999553 T1) 5 999553 0 u ∧ m_281_12 f (nI u) (nI i) (z_tt m 5 999553 T) = m_210 (z_tt m 5 999553 T1) := by
  intro n
  induction n with
  | zero =>
    intro f i T hi hf hT
    obtain ⟨f, rfl⟩ : ∃ z, f = z + 1 := ⟨f - 1, by omega⟩
    have hle := z_yle (show c ≤ i by omega) (by omega)
    rw [p_281_12, r_281_12, m_281_12, z_c1, z_tt_o (show ¬ 844257 = 999553 by decide), hm, if_pos hle, if_pos hle, z_cl hu]
    exact ⟨T, fun d hd => hT d (by omega), fun q => ⟨z_v1, fun _ => ⟨q, z_i16 hu⟩, fun z => absurd hle z⟩, rfl, rfl⟩
  | succ n ih =>
    intro f i T hi hf hT
    obtain ⟨f, rfl⟩ : ∃ z, f = z + 1 := ⟨f - 1, by omega⟩
    have i16 : i < 16 := by omega
    have hle := z_nle (show i < c by omega) hc
    have eY : ∀ a, z_Y (z_tt m 5 999553 T) a i = z_Y m a i := fun a => z_tt_o (by decide)
    obtain ⟨T1, a0, a1, a2, a3⟩ := ih f (i + 1) (z_up T i (z_Y m 22 i ||| z_Y m 24 i)) (by omega) (by omega) (fun d hd => by
      by_cases q : d = i
      · subst q; exact z_upe
      · rw [z_upn q]; exact hT d (by omega))
    rw [p_281_12, r_281_12, m_281_12, z_c1, z_tt_o (show ¬ 844257 = 999553 by decide), hm, if_neg hle, if_neg hle]
    simp only [z_cl i16, z_nx, of22 _ i16, of24 _ i16, eY, z_tt_set, forall_eq]
    exact ⟨T1, a0, fun q => ⟨z_v1, fun z => absurd z hle, fun _ => ⟨uu22 i16, uu24 i16, z_i16 i16, a1 q⟩⟩, a2, a3⟩
theorem z_282l (hc : c ≤ 16) (hm : m 5 844257 0 1 = nI c) (hu : u < 16) : ∀ (n f i : Nat) (T : Nat → Int32), i + n = c → n < f → (∀ d, d < i → ∀ w, w < 32 → bt (T d) w = z_Fo m c d w) → ∃ T1 : Nat → Int32, (∀ d, d < c → ∀ w, w < 32 → bt (T1 d) w = z_Fo m c d w)
    ∧ (p_210 (z_tt m 5 999553 T1) → p_282_12 f (nI u) (nI i) (z_tt m 5 999553 T)) ∧ r_282_12 f (nI u) (nI i) (z_tt m 5 999553 T) = (m_210 (z_tt m 5 999553 T1) 5 999553 0 u ||| ((1 : Int32) <<< (nI u &&& 31))) ∧ m_282_12 f (nI u) (nI i) (z_tt m 5 999553 T) = m_210 (z_tt m 5 999553 T1) := by
  intro n
  induction n with
  | zero =>
    intro f i T hi hf hT
    obtain ⟨f, rfl⟩ : ∃ z, f = z + 1 := ⟨f - 1, by omega⟩
    have hle := z_yle (show c ≤ i by omega) (by omega)
    rw [p_282_12, r_282_12, m_282_12, z_c1, z_tt_o (show ¬ 844257 = 999553 by decide), hm, if_pos hle, if_pos hle, z_cl hu]
    exact ⟨T, fun d hd => hT d (by omega), fun q => ⟨z_v1, fun _ => ⟨q, z_i16 hu⟩, fun z => absurd hle z⟩, rfl, rfl⟩
  | succ n ih =>
    intro f i T hi hf hT
    obtain ⟨f, rfl⟩ : ∃ z, f = z + 1 := ⟨f - 1, by omega⟩
    have i16 : i < 16 := by omega
    have hle := z_nle (show i < c by omega) hc
    have hmT : (z_tt m 5 999553 T) 5 844257 0 1 = nI c := (z_tt_o (by decide)).trans hm
    obtain ⟨f1, f2⟩ := z_201 hc i16 hmT
    have eF : ∀ w, z_Fo (z_tt m 5 999553 T) c i w = z_Fo m c i w := fun w => by unfold z_Fo z_Y; simp only [z_tt_o (show ¬ 844257 = 999553 by decide)]
    obtain ⟨T1, a0, a1, a2, a3⟩ := ih f (i + 1) (z_up T i (r_201 (nI i) (z_tt m 5 999553 T))) (by omega) (by omega) (fun d hd w hw => by
      by_cases q : d = i
      · subst q; rw [z_upe, f2 w hw, eF]
      · rw [z_upn q]; exact hT d (by omega) w hw)
    rw [p_282_12, r_282_12, m_282_12, z_c1, z_tt_o (show ¬ 844257 = 999553 by decide), hm, if_neg hle, if_neg hle]
    simp only [z_cl i16, z_nx, z_tt_set, forall_eq]
    exact ⟨T1, a0, fun q => ⟨z_v1, fun z => absurd z hle, fun _ => ⟨f1, z_i16 i16, a1 q⟩⟩, a2, a3⟩
theorem z_rcT {B : Nat → Int32} {R : Int32} {u : Nat} (hu : u < 16) (h : z_rc B (B u) R) {w : Nat} (hw : w < 32) : bt R w = true ↔ z_tc (fun x y => x < 16 ∧ y < 32 ∧ bt (B x) y = true) u w := by
  obtain ⟨b1, b2, b3⟩ := h
  constructor
  · intro h
    exact b3 (fun v => z_tc (fun x y => x < 16 ∧ y < 32 ∧ bt (B x) y = true) u v) (fun v hv y => z_tc.one ⟨hu, hv, y⟩) (fun i hi p v hv y => p.tr (z_tc.one ⟨hi, hv, y⟩)) w hw h
  · intro h
    exact z_tc.lst (P := fun v => bt R v = true) (fun y z p y' => b2 y y'.1 p z y'.2.1 y'.2.2) (fun v y => b1 v y.2.1 y.2.2) h
theorem z_tc.cong {E F : Nat → Nat → Prop} (h : ∀ x y, E x y → F x y) {x y : Nat} (p : z_tc E x y) : z_tc F x y := by
  obtain ⟨n, hn⟩ := p
  induction n generalizing x with
  | zero => exact z_tc.one (h x y hn)
  | succ n ih =>
    obtain ⟨w, h1, h2⟩ := hn
    exact (z_tc.one (h x w h1)).tr (ih h2)
theorem z_W.nbz (h : z_W k c t B M m) : ∀ i, i < 16 → ∀ v, c ≤ v → bt (M k 491649 0 i) v = false ∧ bt (M k 524417 0 i) v = false := fun i hi v hv => by
  by_cases q : i < c
  · obtain ⟨a, _, b, _⟩ := h.bZ q hv; exact ⟨a, b⟩
  · obtain ⟨a, _, b, _⟩ := h.cz (show c ≤ i by omega) hi
    rw [a, b, b_0]; exact ⟨rfl, rfl⟩
theorem z_W.rb5 (h : z_W k c t B M m) : ∀ i, i < 16 → ∀ v, c ≤ v → bt (M k 475265 5 i) v = false := fun i hi v hv => by
  by_cases q : i < c
  · rw [h.r5 q]
    cases e : bt (z_Y m 27 i) v
    · rfl
    · have := (h.rb q 5 (by omega) v e).1; omega
  · rw [(h.cz (show c ≤ i by omega) hi).2.2.2.2 5 (by omega), b_0]
/-- allNeeded -/
theorem z_f_136 (h : z_Q n M) (hx : z_iu M x) : z_op n M (p_136 x) (r_136 x) (m_136 x) (p_281 x) (r_281 x) (m_281 x) := by
  obtain ⟨c, t, B, u, ht, hB, hR, hs, hc, hu, h16, rfl⟩ := h.un hx
  obtain ⟨e1, e2, e3⟩ := z_235i hc hR.1.cn hu
  have hRt := hR.th 0
  have hw := hR.1.nbz
  obtain ⟨a1, a2, a3⟩ := z_41n M 0 (fun i hi v h1 _ => (hw i hi v (by omega)).1) (M 0 491649 0 u) (fun v _ q => Classical.byContradiction (fun y => by rw [(hw u h16 v (by omega)).1] at q; cases q))
  have l := z_281l (m := z_th M 0) hc hRt.1.cn h16 c ux_fuel 0 ((z_th M 0) 5 999553 0) (by omega) (by have := z_fuel; omega) (fun d hd => absurd hd (by omega))
  rw [z_tt_self] at l
  obtain ⟨T1, b0, b1, b2, b3⟩ := l
  obtain ⟨d1, d2, d3⟩ := z_210c (m1 := z_tt (z_th M 0) 5 999553 T1) (E := fun x y => x < c ∧ y < 32 ∧ bt (M 0 491649 0 x) y = true) hc ((z_tt_o (by decide)).trans hRt.1.cn) (fun x y hx hy => by
    unfold z_G; rw [z_tt_g, b0 x hx, b_or, z_thY, z_thY, hR.1.bN hx]; exact ⟨fun q => ⟨hx, hy, q⟩, fun q => q.2.2⟩) (fun x y q => ⟨q.1, Classical.byContradiction (fun z => by have := (hw x (by omega) y (by omega)).1; rw [this] at q; exact absurd q.2.2 (by decide))⟩)
  have mc : m_136 (nI u) M = M := by unfold m_136; rw [z_cl h16]; exact a2
  have mr : m_281 (nI u) M = m_210 (z_tt (z_th M 0) 5 999553 T1) := by unfold m_281; rw [if_pos e2, e3]; exact b3
  have f9 : z_f9 (z_th M 0) (m_210 (z_tt (z_th M 0) 5 999553 T1)) := (z_rowst _ _ 0 0).tr d2
  refine ⟨?_, ?_, ?_, ?_, ?_⟩
  · unfold p_136; rw [z_cl h16]; exact ⟨z_p93 hx, z_i16 h16, a1⟩
  · rw [mc]; unfold p_281; rw [e3]; exact ⟨e1, fun _ => b1 d1, fun _ => trivial⟩
  · rw [mc]; unfold r_136 r_281; rw [z_cl h16, if_pos e2, e3]
    refine Eq.trans ?_ b2.symm
    refine b_ext (fun w hw32 => z_b11 _ _ ?_)
    rw [z_rcT h16 a3 hw32]
    refine Iff.trans ?_ (d3 u w hu hw32).symm
    refine ⟨z_tc.cong (fun x y q => ⟨Classical.byContradiction (fun z => ?_), q.2⟩), z_tc.cong (fun x y q => ⟨by omega, q.2⟩)⟩
    have := (hR.1.cz (show c ≤ x by omega) q.1).1
    rw [this, b_0] at q; exact absurd q.2.2 (by decide)
  · rw [mc, mr, f9 5 819253 0 6 (by omega), z_th6]
  · rw [mc, mr]; exact h.fr (by omega) ((z_fT.th 0).tr (.f9 f9))
theorem z_g_281 (h : z_Q n M) (hx : ¬ z_iu M x) : z_thr n M (p_281 x) (m_281 x) 1 := by
  obtain ⟨e1, e2, e3⟩ := h.o hx
  have e0 : ¬ r_235 x M = 0 := by rw [e2]; decide
  refine .th h ?_ ?_
  · unfold p_281; exact ⟨e1, fun z => absurd z e0, fun _ => trivial⟩
  · unfold m_281; rw [if_neg e0, e3]
/-- allStopped -/
theorem z_f_137 (h : z_Q n M) (hx : z_iu M x) : z_op n M (p_137 x) (r_137 x) (m_137 x) (p_282 x) (r_282 x) (m_282 x) := by
  obtain ⟨c, t, B, u, ht, hB, hR, hs, hc, hu, h16, rfl⟩ := h.un hx
  obtain ⟨e1, e2, e3⟩ := z_235i hc hR.1.cn hu
  have hRt := hR.th 0
  have hw := hR.1.nbz
  obtain ⟨a1, a2, a3, a4, a5⟩ := z_41f M 0 (fun i hi v h1 _ => (hw i hi v (by omega)).2) ((1 : Int32) <<< (nI u &&& 31)) (fun v hv q => by rw [z_bit (by omega) hv, decide_eq_true_eq] at q; omega)
  have l := z_282l (m := z_th M 0) hc hRt.1.cn h16 c ux_fuel 0 ((z_th M 0) 5 999553 0) (by omega) (by have := z_fuel; omega) (fun d hd => absurd hd (by omega))
  rw [z_tt_self] at l
  obtain ⟨T1, b0, b1, b2, b3⟩ := l
  have eF : ∀ d w, d < c → w < 32 → z_Fo (z_th M 0) c d w = bt (M 0 524417 0 d) w := fun d w hd h32 => by
    unfold z_Fo; rw [z_thY, z_thY, z_thY]
    by_cases q : w < c
    · rw [hR.1.bF hd q]; simp [q]
    · rw [(hw d (by omega) w (by omega)).2]; simp [q]
  obtain ⟨d1, d2, d3⟩ := z_210c (m1 := z_tt (z_th M 0) 5 999553 T1) (E := fun x y => x < c ∧ y < 32 ∧ bt (M 0 524417 0 x) y = true) hc ((z_tt_o (by decide)).trans hRt.1.cn) (fun x y hx hy => by
    unfold z_G; rw [z_tt_g, b0 x hx y hy, eF x y hx hy]; exact ⟨fun q => ⟨hx, hy, q⟩, fun q => q.2.2⟩) (fun x y q => ⟨q.1, Classical.byContradiction (fun z => by have := (hw x (by omega) y (by omega)).2; rw [this] at q; exact absurd q.2.2 (by decide))⟩)
  have mc : m_137 (nI u) M = M := a2
  have mr : m_282 (nI u) M = m_210 (z_tt (z_th M 0) 5 999553 T1) := by unfold m_282; rw [if_pos e2, e3]; exact b3
  have f9 : z_f9 (z_th M 0) (m_210 (z_tt (z_th M 0) 5 999553 T1)) := (z_rowst _ _ 0 0).tr d2
  refine ⟨?_, ?_, ?_, ?_, ?_⟩
  · unfold p_137; exact ⟨z_p93 hx, a1⟩
  · rw [mc]; unfold p_282; rw [e3]; exact ⟨e1, fun _ => b1 d1, fun _ => trivial⟩
  · rw [mc]; unfold r_137 r_282; rw [if_pos e2, e3]
    refine Eq.trans ?_ b2.symm
    refine b_ext (fun w hw32 => z_b11 _ _ ?_)
    rw [b_or, z_bit (by omega) hw32, Bool.or_eq_true, decide_eq_true_eq]
    have d3' : bt (m_210 (z_tt (z_th M 0) 5 999553 T1) 5 999553 0 u) w = true ↔ _ := d3 u w hu hw32
    rw [d3']
    constructor
    · intro q
      refine (a5 (fun v => z_tc (fun x y => x < c ∧ y < 32 ∧ bt (M 0 524417 0 x) y = true) u v ∨ v = u) (fun v hv y => ?_) (fun i hi p v hv y => ?_) w hw32 q)
      · rw [z_bit (by omega) hv, decide_eq_true_eq] at y; exact .inr y
      · have ic : i < c := Classical.byContradiction (fun z => by
          have := (hR.1.cz (show c ≤ i by omega) hi).2.2.1
          rw [this, b_0] at y; cases y)
        rcases p with p | p
        · exact .inl (p.tr (z_tc.one ⟨ic, hv, y⟩))
        · subst p; exact .inl (z_tc.one ⟨ic, hv, y⟩)
    · have s : bt (r_41f 0 ((1 : Int32) <<< (nI u &&& 31)) M) u = true := a3 u (by omega) (by rw [z_bit (by omega) (by omega)]; simp)
      rintro (q | q)
      · exact z_tc.lst (P := fun v => bt (r_41f 0 ((1 : Int32) <<< (nI u &&& 31)) M) v = true) (fun y z p y' => a4 y (by omega) p z y'.2.1 y'.2.2) (fun v y => a4 u h16 s v y.2.1 y.2.2) q
      · subst q; exact s
  · rw [mc, mr, f9 5 819253 0 6 (by omega), z_th6]
  · rw [mc, mr]; exact h.fr (by omega) ((z_fT.th 0).tr (.f9 f9))
theorem z_g_282 (h : z_Q n M) (hx : ¬ z_iu M x) : z_thr n M (p_282 x) (m_282 x) 1 := by
  obtain ⟨e1, e2, e3⟩ := h.o hx
  have e0 : ¬ r_235 x M = 0 := by rw [e2]; decide
  refine .th h ?_ ?_
  · unfold p_282; exact ⟨e1, fun z => absurd z e0, fun _ => trivial⟩
  · unfold m_282; rw [if_neg e0, e3]
/-- orderingCircle -/
theorem z_283e (hc : c ≤ 16) (hm : m 5 844257 0 1 = nI c) : ∀ (n f i : Nat) (x : Int32), i + n = c → n < f → p_283_44 f x (nI i) m ∧ ∀ w, w < 32 → bt (r_283_44 f x (nI i) m) w = (bt x w || (decide (i ≤ w) && (decide (w < c) && bt (m 5 999553 0 w) w))) := by
  intro n
  induction n with
  | zero =>
    intro f i x hi hf
    obtain ⟨f, rfl⟩ : ∃ z, f = z + 1 := ⟨f - 1, by omega⟩
    have hle := z_yle (show c ≤ i by omega) (by omega)
    rw [p_283_44, r_283_44, z_c1, hm, if_pos hle]
    refine ⟨⟨z_v1, fun _ => trivial, fun z => absurd hle z⟩, fun w _ => z_orE (fun w => decide (w < c) && bt (m 5 999553 0 w) w) (fun q => ?_)⟩
    have : ¬ w < c := by omega
    simp [this]
  | succ n ih =>
    intro f i x hi hf
    obtain ⟨f, rfl⟩ : ∃ z, f = z + 1 := ⟨f - 1, by omega⟩
    have ic : i < c := by omega
    have i16 : i < 16 := by omega
    have hle := z_nle ic hc
    rw [p_283_44, r_283_44, z_c1, hm, if_neg hle]
    simp only [z_cl i16, z_nx, z_shr1 _ (show i < 32 by omega), z_or0]
    cases e : bt (m 5 999553 0 i) i
    · obtain ⟨r1, r2⟩ := ih f (i + 1) x (by omega) (by omega)
      rw [if_neg (by decide)]
      refine ⟨⟨z_v1, fun z => absurd z hle, fun _ => ⟨z_i16 i16, fun _ => r1, fun z => absurd z (by decide)⟩⟩, fun w hw => (r2 w hw).trans (z_orF (fun w => decide (w < c) && bt (m 5 999553 0 w) w) (by simp [e]))⟩
    · obtain ⟨r1, r2⟩ := ih f (i + 1) (x ||| ((1 : Int32) <<< (nI i &&& 31))) (by omega) (by omega)
      rw [if_pos rfl]
      refine ⟨⟨z_v1, fun z => absurd z hle, fun _ => ⟨z_i16 i16, fun z => absurd rfl z, fun _ => r1⟩⟩, fun w hw => (r2 w hw).trans (z_orT (fun w => decide (w < c) && bt (m 5 999553 0 w) w) (by omega) hw (by simp [e, ic]))⟩
theorem z_283l (hc : c ≤ 16) (hm : m 5 844257 0 1 = nI c) : ∀ (n f i : Nat) (T : Nat → Int32), i + n = c → n < f → (∀ d, d < i → T d = z_Y m 27 d) → ∃ T1 : Nat → Int32, (∀ d, d < c → T1 d = z_Y m 27 d)
    ∧ (p_210 (z_tt m 5 999553 T1) ∧ p_283_44 ux_fuel 0 0 (m_210 (z_tt m 5 999553 T1)) → p_283_7 f (nI i) (z_tt m 5 999553 T)) ∧ r_283_7 f (nI i) (z_tt m 5 999553 T) = r_283_44 ux_fuel 0 0 (m_210 (z_tt m 5 999553 T1)) ∧ m_283_7 f (nI i) (z_tt m 5 999553 T) = m_210 (z_tt m 5 999553 T1) := by
  intro n
  induction n with
  | zero =>
    intro f i T hi hf hT
    obtain ⟨f, rfl⟩ : ∃ z, f = z + 1 := ⟨f - 1, by omega⟩
    have hle := z_yle (show c ≤ i by omega) (by omega)
    rw [p_283_7, r_283_7, m_283_7, z_c1, z_tt_o (show ¬ 844257 = 999553 by decide), hm, if_pos hle, if_pos hle]
    exact ⟨T, fun d hd => hT d (by omega), fun q => ⟨z_v1, fun _ => q, fun z => absurd hle z⟩, rfl, rfl⟩
  | succ n ih =>
    intro f i T hi hf hT
    obtain ⟨f, rfl⟩ : ∃ z, f = z + 1 := ⟨f - 1, by omega⟩
    have i16 : i < 16 := by omega
    have hle := z_nle (show i < c by omega) hc
    have eY : ∀ a, z_Y (z_tt m 5 999553 T) a i = z_Y m a i := fun a => z_tt_o (by decide)
    obtain ⟨T1, a0, a1, a2, a3⟩ := ih f (i + 1) (z_up T i (z_Y m 27 i)) (by omega) (by omega) (fun d hd => by
      by_cases q : d = i
      · subst q; exact z_upe
      · rw [z_upn q]; exact hT d (by omega))
    rw [p_283_7, r_283_7, m_283_7, z_c1, z_tt_o (show ¬ 844257 = 999553 by decide), hm, if_neg hle, if_neg hle]
    simp only [z_cl i16, z_nx, of27 _ i16, eY, z_tt_set, forall_eq]
    exact ⟨T1, a0, fun q => ⟨z_v1, fun z => absurd z hle, fun _ => ⟨uu27 i16, z_i16 i16, a1 q⟩⟩, a2, a3⟩
theorem z_f_39 (h : z_Q n M) : z_op n M p_39 r_39 m_39 p_283 r_283 m_283 := by
  obtain ⟨c, t, B, ht, hB, hR, hs⟩ := h.w
  have hc := hR.1.le
  have hRt := hR.th 0
  have hw := hR.1.rb5
  obtain ⟨a1, a2, a3⟩ := z_40r M 0 5 (fun i hi v h1 _ => hw i hi v (by omega))
  have l := z_283l (m := z_th M 0) hc hRt.1.cn c ux_fuel 0 ((z_th M 0) 5 999553 0) (by omega) (by have := z_fuel; omega) (fun d hd => absurd hd (by omega))
  rw [z_tt_self] at l
  obtain ⟨T1, b0, b1, b2, b3⟩ := l
  obtain ⟨d1, d2, d3⟩ := z_210c (m1 := z_tt (z_th M 0) 5 999553 T1) (E := fun x y => x < c ∧ y < 32 ∧ bt (M 0 475265 5 x) y = true) hc ((z_tt_o (by decide)).trans hRt.1.cn) (fun x y hx hy => by
    unfold z_G; rw [z_tt_g, b0 x hx, z_thY, hR.1.r5 hx]; exact ⟨fun q => ⟨hx, hy, q⟩, fun q => q.2.2⟩) (fun x y q => ⟨q.1, Classical.byContradiction (fun z => by have := hw x (by omega) y (by omega); rw [this] at q; exact absurd q.2.2 (by decide))⟩)
  have f9 : z_f9 (z_th M 0) (m_210 (z_tt (z_th M 0) 5 999553 T1)) := (z_rowst _ _ 0 0).tr d2
  obtain ⟨c1, c2⟩ := z_283e (m := m_210 (z_tt (z_th M 0) 5 999553 T1)) hc ((f9 5 844257 0 1 (by omega)).trans hRt.1.cn) c ux_fuel 0 0 (by omega) (by have := z_fuel; omega)
  have mc : m_39 M = M := by unfold m_39; rw [z_c5]; exact a2
  have mr : m_283 M = m_210 (z_tt (z_th M 0) 5 999553 T1) := b3
  refine ⟨?_, ?_, ?_, ?_, ?_⟩
  · unfold p_39; rw [z_c5]; exact ⟨z_r5, a1⟩
  · rw [mc]; unfold p_283; intro M1 e; subst e; exact b1 ⟨d1, c1⟩
  · rw [mc]
    have er : r_283 M = r_283_44 ux_fuel 0 0 (m_210 (z_tt (z_th M 0) 5 999553 T1)) := b2
    rw [er]; unfold r_39; rw [z_c5]
    refine b_ext (fun w h32 => z_b11 _ _ ((a3 w h32).trans ?_))
    have c2' : bt (r_283_44 ux_fuel 0 0 (m_210 (z_tt (z_th M 0) 5 999553 T1))) w = _ := c2 w h32
    rw [c2', b_0]
    simp only [Nat.zero_le, decide_true, Bool.true_and, Bool.false_or, Bool.and_eq_true, decide_eq_true_eq]
    constructor
    · rintro ⟨w16, p⟩
      have p' : z_tc (fun x y => x < c ∧ y < 32 ∧ bt (M 0 475265 5 x) y = true) w w := z_tc.cong (fun x y q => ⟨Classical.byContradiction (fun z => by have := (hR.1.cz (show c ≤ x by omega) q.1).2.2.2.2 5 (by omega); rw [this, b_0] at q; exact absurd q.2.2 (by decide)), q.2⟩) p
      have wc : w < c := by
        obtain ⟨n, hn⟩ := p'
        cases n with
        | zero => exact hn.1
        | succ n => obtain ⟨z, h1, _⟩ := hn; exact h1.1
      exact ⟨wc, (d3 w w wc h32).mpr p'⟩
    · rintro ⟨wc, p⟩
      exact ⟨by omega, z_tc.cong (fun x y q => ⟨by omega, q.2⟩) ((d3 w w wc h32).mp p)⟩
  · rw [mc, mr, f9 5 819253 0 6 (by omega), z_th6]
  · rw [mc, mr]; exact h.fr (by omega) ((z_fT.th 0).tr (.f9 f9))
/-- isSound -/
theorem z_sndl (h : z_W 0 c t B M m) (a : Int32) : ∀ (n f f' i : Nat), i + n = c → n < f → n < f' → p_42_11 f a (nI i) M ∧ p_284_13 f' a (nI i) m ∧ r_42_11 f a (nI i) M = r_284_13 f' a (nI i) m := by
  have hc := h.le
  intro n
  induction n with
  | zero =>
    intro f f' i hi hf hf'
    obtain ⟨f, rfl⟩ : ∃ z, f = z + 1 := ⟨f - 1, by omega⟩
    obtain ⟨f', rfl⟩ : ∃ z, f' = z + 1 := ⟨f' - 1, by omega⟩
    have hle := z_yle (show c ≤ i by omega) (by omega)
    rw [p_42_11, p_284_13, r_42_11, r_284_13, z_c1, h.cn, h.cnt, if_pos hle, if_pos hle]
    exact ⟨⟨fun _ => trivial, fun z => absurd hle z⟩, ⟨z_v1, fun _ => trivial, fun z => absurd hle z⟩, rfl⟩
  | succ n ih =>
    intro f f' i hi hf hf'
    obtain ⟨f, rfl⟩ : ∃ z, f = z + 1 := ⟨f - 1, by omega⟩
    obtain ⟨f', rfl⟩ : ∃ z, f' = z + 1 := ⟨f' - 1, by omega⟩
    have ic : i < c := by omega
    have i16 : i < 16 := by omega
    have hle := z_nle ic hc
    obtain ⟨r1, r2, r3⟩ := ih f f' (i + 1) (by omega) (by omega) (by omega)
    have en : M 0 491649 0 i = z_Y m 22 i ||| z_Y m 24 i := b_ext (fun w _ => by rw [h.bN ic, b_or])
    rw [p_42_11, p_284_13, r_42_11, r_284_13, z_c1, h.cn, h.cnt, if_neg hle, if_neg hle]
    simp only [z_cl i16, z_nx, z_shr _ (show i < 32 by omega), z_shr1 _ (show i < 32 by omega), of22 _ i16, of24 _ i16, en]
    cases e : bt a i
    · rw [if_pos rfl, if_neg (by decide)]
      exact ⟨⟨fun z => absurd z hle, fun _ => ⟨fun _ => r1, fun z => absurd rfl z⟩⟩, ⟨z_v1, fun z => absurd z hle, fun _ => ⟨fun _ => r2, fun z => absurd z (by decide)⟩⟩, r3⟩
    · rw [if_neg (by decide), if_pos rfl]
      by_cases q : (z_Y m 22 i ||| z_Y m 24 i) &&& (a ^^^ ((-1) : Int32)) = 0
      · rw [if_pos q, if_pos q]
        exact ⟨⟨fun z => absurd z hle, fun _ => ⟨fun z => absurd z (by decide), fun _ => ⟨z_i16 i16, fun _ => r1, fun z => absurd q z⟩⟩⟩, ⟨z_v1, fun z => absurd z hle, fun _ => ⟨fun z => absurd rfl z, fun _ => ⟨uu22 i16, uu24 i16, fun _ => r2, fun z => absurd q z⟩⟩⟩, r3⟩
      · rw [if_neg q, if_neg q]
        exact ⟨⟨fun z => absurd z hle, fun _ => ⟨fun z => absurd z (by decide), fun _ => ⟨z_i16 i16, fun z => absurd z q, fun _ => trivial⟩⟩⟩, ⟨z_v1, fun z => absurd z hle, fun _ => ⟨fun z => absurd rfl z, fun _ => ⟨uu22 i16, uu24 i16, fun z => absurd z q, fun _ => trivial⟩⟩⟩, rfl⟩
theorem z_in2 (h : z_R 99 b k c t B M m) : r_43 k 4 M = r_259 2 m := b_ext (fun w hw => by
  rw [z_r43 h.1 h.2 _ hw, z_r259 h.1 _ hw]
  by_cases q : w < c
  · obtain ⟨s, s6, e⟩ := h.2.sv q
    rw [e, z_cl (by omega), z_b4 s s6, show (2 : Int32) = nI 2 from rfl, z_stb s6 rfl 2 (by omega)]
  · simp [q])
theorem z_f_42 (h : z_Q n M) : z_op n M p_42 r_42 (fun M => M) p_284 r_284 m_284 := by
  obtain ⟨c, t, B, ht, hB, hR, hs⟩ := h.w
  have hRt := hR.th 0
  have e := z_in2 hRt
  obtain ⟨r1, r2, r3⟩ := z_sndl hRt.1 (r_43 0 4 M) c ux_fuel ux_fuel 0 (by omega) (by have := z_fuel; have := hR.1.le; omega) (by have := z_fuel; have := hR.1.le; omega)
  refine .th h ?_ ?_ ?_ ?_
  · unfold p_42; exact ⟨z_p43 hR.1 hR.2 _, r1⟩
  · unfold p_284; intro M1 e1; subst e1; exact ⟨z_p259 hRt.1 _, by rw [show r_259 2 (ux_set M 5 819253 0 6 0) = r_43 0 4 M from e.symm]; exact r2⟩
  · unfold r_42 r_284; simp only []; rw [show r_259 2 (ux_set M 5 819253 0 6 0) = r_43 0 4 M from e.symm]; exact r3
  · rfl
end ZV2
