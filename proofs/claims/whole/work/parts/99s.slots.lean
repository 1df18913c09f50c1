/-! logEntry; the snapshots -/
section ZS1
variable {k c t B b u n n' s j : Nat} {M M' Z m m' : ux_M} {x y v w : Int32}
/-- logEntry -/
theorem z_f_134 (h : z_Q n M) (hy : z_rg y 0 2) : z_op n M (p_134 x y) (r_134 x y) (fun M => M) (p_261 x y) (r_261 x y) (m_261 x y) := by
  obtain ⟨c, t, B, ht, hB, hR, hs⟩ := h.w
  obtain ⟨L, l1, l2, l3, l4⟩ := hR.1.2.2.2.2.1
  obtain ⟨p, hp, rfl⟩ := nI_of2 (n := 2) (M := 2) (by decide) hy.1 hy.2
  have g := (z_i64g (nI p) 0 2 (L := Int64.ofNat 2) (by decide)).mpr hy
  obtain ⟨a1, a2, a3⟩ := z_176a (M := z_th M 0) z_th6 1
  have gx := z_i64 x 0 (nI (min L 60) - 1) (L := (nI (min L 60) - 1).toInt64) rfl
  have cm := z_cm1 (c := min L 60) (by omega) x
  have e2 : (z_th M 0) 5 844257 0 (2 : Int32).toNatClampNeg = nI (min L 60) := by rw [z_c2, z_thI]; exact l3
  have emin : (if nI L < 60 then nI L else 60) = nI (min L 60) := by
    by_cases q : L < 60
    · have q' : nI L < (60 : Int32) := (z_lt (b := 60) (by omega) (by omega)).mpr q
      rw [if_pos q', show min L 60 = L by omega]
    · have q' : ¬ nI L < (60 : Int32) := fun z => q ((z_lt (b := 60) (by omega) (by omega)).mp z)
      rw [if_neg q', show min L 60 = 60 by omega]; rfl
  have em : m_261 x (nI p) M = z_th M 0 := by
    unfold m_261
    show (if _ then m_261_23 x (nI p) 0 (z_th M 0) else m_261_23 x (nI p) 1 (z_th M 0)) = _
    rw [if_pos g]; unfold m_261_23; rw [if_pos a2, ite_self]; exact a3
  by_cases q : ¬ x < 0 ∧ x < nI (min L 60)
  · have gq := gx.mpr ⟨q.1, cm.mpr q.2⟩
    obtain ⟨i, hi, rfl⟩ := z_uin q.1 q.2 (by omega)
    have hi60 : i < 60 := by omega
    have key : ∀ z, z < 120 → ((nI z + nI i) - (nI z + nI i) / (60 : Int32) * (60 : Int32)) * (3 : Int32) + nI p = nI ((z + i) % 60 * 3 + p) := fun z hz => by
      have e : nI (z + i) - nI (z + i) / (60 : Int32) * (60 : Int32) = nI ((z + i) % 60) := pk_rem (a := z + i) (d := 60) (by omega) (by omega) (by omega)
      rw [z_add, e, z_m3, z_add]
    have bd : ∀ z, (z + i) % 60 * 3 + p < 180 := fun z => by have := Nat.mod_lt (z + i) (show 0 < 60 by omega); omega
    have pk : ∀ z, z < 120 → p_135_31 0 (nI i) (nI p) (nI z) M := fun z hz => by
      unfold p_135_31; rw [key z hz]; exact ⟨by decide, vp_in_nI (bd z) (by omega)⟩
    have rk : ∀ z, z < 120 → r_135_31 0 (nI i) (nI p) (nI z) M = M 0 263585 0 ((z + i) % 60 * 3 + p) := fun z hz => by
      unfold r_135_31; rw [key z hz, z_cls (by have := bd z; omega)]
    have k8 : (8 : Int32) + (3 : Int32) * nI i + nI p = nI (8 + (3 * i + p)) := by
      show Int32.ofNat 8 + Int32.ofNat 3 * Int32.ofNat i + Int32.ofNat p = Int32.ofNat _
      rw [← Int32.ofNat_mul, ← Int32.ofNat_add, ← Int32.ofNat_add, Nat.add_assoc]
    have v : M 5 844257 0 (8 + (3 * i + p)) = M 0 263585 0 (((if L < 60 then 0 else L) + i) % 60 * 3 + p) := l4 i hi p (by omega)
    have gi := (z_i64g (nI p) 0 2 (L := Int64.ofNat 2) (by decide)).mpr hy
    refine .th h ?_ ?_ ?_ em
    · unfold p_134 p_135; rw [l2, emin]
      exact ⟨z_p96 hy, fun _ => trivial, fun _ => ⟨fun _ => ⟨fun _ => pk L l1, fun _ => pk 0 (by omega)⟩, fun _ => trivial⟩⟩
    · unfold p_261; intro M1 e; subst e
      refine ⟨fun _ => ?_, fun z => absurd g z⟩
      show p_261_23 (nI i) (nI p) 0 (z_th M 0)
      unfold p_261_23; rw [a3, k8]
      exact ⟨a1, fun _ => ⟨z_v2, fun _ => trivial, fun _ => vp_in_nI (by omega) (by omega)⟩, fun _ => trivial⟩
    · have er : r_261 (nI i) (nI p) M = M 5 844257 0 (8 + (3 * i + p)) := by
        unfold r_261
        show (if _ then r_261_23 (nI i) (nI p) 0 (z_th M 0) else r_261_23 (nI i) (nI p) 1 (z_th M 0)) = _
        rw [if_pos g]; unfold r_261_23; rw [if_pos a2, a3, e2, if_pos gq, k8, z_cls (by omega), z_thI]
      show r_134 (nI i) (nI p) M = r_261 (nI i) (nI p) M
      rw [er, v]
      unfold r_134 r_135; rw [if_neg q.1, l2, emin, if_pos q.2]
      by_cases q6 : L < 60
      · have n6 : ¬ (60 : Int32) ≤ nI L := fun z => by have := (z_le (a := 60) (by omega) (by omega)).mp z; omega
        rw [if_neg n6, if_pos q6]; exact rk 0 (by omega)
      · have n6 : (60 : Int32) ≤ nI L := (z_le (a := 60) (by omega) (by omega)).mpr (by omega)
        rw [if_pos n6, if_neg q6]; exact rk L l1
  · have gq : ¬ (¬ lg_cmp x.toInt64 (0 : Int32).toInt64 < 0 ∧ ¬ 0 < lg_cmp x.toInt64 (nI (min L 60) - 1).toInt64) := fun z => q ⟨(gx.mp z).1, cm.mp (gx.mp z).2⟩
    refine .th h ?_ ?_ ?_ em
    · unfold p_134 p_135; rw [l2, emin]
      exact ⟨z_p96 hy, fun _ => trivial, fun q1 => ⟨fun q2 => absurd ⟨q1, q2⟩ q, fun _ => trivial⟩⟩
    · unfold p_261; intro M1 e; subst e
      refine ⟨fun _ => ?_, fun z => absurd g z⟩
      show p_261_23 x (nI p) 0 (z_th M 0)
      unfold p_261_23; rw [a3, e2]
      exact ⟨a1, fun _ => ⟨z_v2, fun _ => trivial, fun z => absurd z gq⟩, fun _ => trivial⟩
    · have er : r_261 x (nI p) M = -1 := by
        unfold r_261
        show (if _ then r_261_23 x (nI p) 0 (z_th M 0) else r_261_23 x (nI p) 1 (z_th M 0)) = _
        rw [if_pos g]; unfold r_261_23; rw [if_pos a2, a3, e2, if_neg gq]
      show r_134 x (nI p) M = r_261 x (nI p) M
      rw [er]
      unfold r_134 r_135; rw [l2, emin]
      by_cases q1 : x < 0
      · rw [if_pos q1]
      · rw [if_neg q1, if_neg (fun q2 => q ⟨q1, q2⟩)]
theorem z_g_261 (h : z_Q n M) (hy : ¬ z_rg y 0 2) : z_thr n M (p_261 x y) (m_261 x y) 1 := by
  have g := fun z => hy ((z_i64g y 0 2 (L := Int64.ofNat 2) (by decide)).mp z)
  obtain ⟨a1, a2, a3⟩ := z_176b (M := z_th M 0) z_th6 (b := 1) (by decide)
  rw [z_thth] at a3
  have a0 : ¬ r_176 1 1 (z_th M 0) = 0 := by rw [a2]; decide
  refine .th h ?_ ?_
  · unfold p_261; intro M1 e; subst e
    refine ⟨fun z => absurd z g, fun _ => ?_⟩
    show p_261_23 x y 1 (z_th M 0)
    unfold p_261_23; exact ⟨a1, fun z => absurd z a0, fun _ => trivial⟩
  · unfold m_261
    show (if _ then m_261_23 x y 0 (z_th M 0) else m_261_23 x y 1 (z_th M 0)) = _
    rw [if_neg g]; unfold m_261_23; rw [if_neg a0]; exact a3
/-! the snapshots -/
theorem z_294i (hx : z_rg x 0 1) : p_294 x m ∧ r_294 x m = 0 ∧ m_294 x m = z_th m 0 := by
  have g := (z_i64g x 0 1 (L := (1 : Int32).toInt64) rfl).mpr hx
  obtain ⟨a1, a2, a3⟩ := z_176a (M := z_th m 0) z_th6 1
  refine ⟨?_, ?_, ?_⟩
  · unfold p_294; intro M1 e; subst e; exact ⟨fun _ => ⟨a1, .inl a2⟩, fun z => absurd g z⟩
  · unfold r_294
    show (if _ then r_176 0 1 (z_th m 0) else r_176 1 1 (z_th m 0)) = _
    rw [if_pos g]; exact a2
  · unfold m_294
    show (if _ then m_176 0 1 (z_th m 0) else m_176 1 1 (z_th m 0)) = _
    rw [if_pos g]; exact a3
theorem z_294o (hx : ¬ z_rg x 0 1) : p_294 x m ∧ r_294 x m = 1 ∧ m_294 x m = z_th m 1 := by
  have g := fun z => hx ((z_i64g x 0 1 (L := (1 : Int32).toInt64) rfl).mp z)
  obtain ⟨a1, a2, a3⟩ := z_176b (M := z_th m 0) z_th6 (b := 1) (by decide)
  rw [z_thth] at a3
  refine ⟨?_, ?_, ?_⟩
  · unfold p_294; intro M1 e; subst e; exact ⟨fun z => absurd z g, fun _ => ⟨a1, .inr a2⟩⟩
  · unfold r_294
    show (if _ then r_176 0 1 (z_th m 0) else r_176 1 1 (z_th m 0)) = _
    rw [if_neg g]; exact a2
  · unfold m_294
    show (if _ then m_176 0 1 (z_th m 0) else m_176 1 1 (z_th m 0)) = _
    rw [if_neg g]; exact a3
theorem z_g_293 (h : z_Q n M) (hx : ¬ z_rg x 0 1) : z_thr n M (p_293 x) (m_293 x) 1 := by
  obtain ⟨a1, a2, a3⟩ := z_294o (m := M) hx
  have a0 : ¬ r_294 x M = 0 := by rw [a2]; decide
  refine .th h ?_ ?_
  · unfold p_293; exact ⟨a1, fun z => absurd z a0⟩
  · unfold m_293; rw [if_neg a0]; exact a3
theorem z_g_296 (h : z_Q n M) (hx : ¬ z_rg x 0 1) : z_thr n M (p_296 x) (m_296 x) 1 := by
  obtain ⟨a1, a2, a3⟩ := z_294o (m := M) hx
  have a0 : ¬ r_294 x M = 0 := by rw [a2]; decide
  refine .th h ?_ ?_
  · unfold p_296; exact ⟨a1, fun z => absurd z a0⟩
  · unfold m_296; rw [if_neg a0]; exact a3
theorem z_SL.fr2 (h : z_SL k s j n M) (hn : n ≤ n') (e1 : M' 4 655365 0 (8 + j) = M 4 655365 0 (8 + j)) (e2 : M' 5 917522 0 j = M 5 917522 0 j) (e3 : ∀ s r i, z_rd s → M' k s r i = M k s r i) (e4 : ∀ i, M' 5 s 0 i = M 5 s 0 i) : z_SL k s j n' M' := by
  obtain ⟨h1, h2⟩ := h
  unfold z_SL
  rw [e1, e2]
  refine ⟨h1, h2.imp id (fun q => ⟨q.1, (q.2.1.mono hn).cg e3 (fun i => ?_), q.2.2.rd e3⟩)⟩
  rw [z_rrI, z_rrI]; exact e4 i
theorem z_BU.fr2 (h : z_BU M) (e1 : M' 4 655365 0 1 = M 4 655365 0 1) (e2 : M' 5 819253 0 8 = M 5 819253 0 8) (e3 : ∀ i, M' 4 694529 0 i = M 4 694529 0 i) (e4 : ∀ i, M' 5 940289 0 i = M 5 940289 0 i) : z_BU M' := by
  obtain ⟨N, h0, h1, h2, h3⟩ := h
  refine ⟨N, h0, e1.trans h1, e2.trans h2, fun i hi => ?_⟩
  rw [e3, e4]; exact h3 i hi
theorem z_save (hsl : (k = 2 ∧ s = 893409 ∧ j = 0) ∨ (k = 3 ∧ s = 909793 ∧ j = 1)) (h : z_Q n M)
    (e1 : ∀ a s' r i, ¬ a = k → ¬ (a = 4 ∧ s' = 655365 ∧ r = 0 ∧ i = 8 + j) → ¬ (a = 5 ∧ ((s' = s ∧ r = 0) ∨ (s' = 917522 ∧ r = 0 ∧ i = j) ∨ (s' = 819253 ∧ r = 0 ∧ i = 6))) → Z a s' r i = M a s' r i)
    (e2 : Z 4 655365 0 (8 + j) = 1) (e3 : Z 5 917522 0 j = 1) (e4 : ∀ i, i < 1084 → Z 5 s 0 i = M 5 844257 0 i) (e5 : ∀ s r i, z_rqq s r i → Z k s r i = M 0 s r i) : z_Q (n + 1) Z := by
  obtain ⟨h1, h2, h3, h4, h5⟩ := h
  have hS : z_ST 0 (n + 1) Z Z := (h1.mono (by omega)).cg (fun s r i _ => e1 0 s r i (by omega) (by omega) (by omega)) (fun i => e1 5 844257 0 i (by omega) (by omega) (by omega))
  have hN : z_ST k (n + 1) Z (z_rr Z s) := (h1.mono (by omega)).cg2 (k' := k) e5 (fun i hi => (z_rrI Z s i).trans (e4 i hi))
  have hb : z_BU Z := h2.fr2 (e1 4 655365 0 1 (by omega) (by omega) (by omega)) (e1 5 819253 0 8 (by omega) (by omega) (by omega)) (fun i => e1 4 694529 0 i (by omega) (by omega) (by omega)) (fun i => e1 5 940289 0 i (by omega) (by omega) (by omega))
  have he : Z 4 655365 0 2 = Z 5 819253 0 13 := (e1 4 655365 0 2 (by omega) (by omega) (by omega)).trans (h3.1.trans (e1 5 819253 0 13 (by omega) (by omega) (by omega)).symm)
  have hd : z_nd 0 Z := h3.2.rd (fun s r i _ => e1 0 s r i (by omega) (by omega) (by omega))
  have hk : z_nd k Z := h3.2.cg (k' := k) (e5 344085 0 0 (.inr (.inr ⟨rfl, by omega⟩))) (fun i hi => e5 376961 0 i (z_q16 (by decide +kernel) hi)) (fun i hi => e5 394241 0 i (.inr (.inr ⟨rfl, by omega⟩)))
  rcases hsl with ⟨rfl, rfl, rfl⟩ | ⟨rfl, rfl, rfl⟩
  · exact ⟨hS, hb, ⟨he, hd⟩, ⟨e2.trans e3.symm, .inr ⟨e3, hN, hk⟩⟩, h5.fr2 (by omega) (e1 4 655365 0 (8 + 1) (by omega) (by omega) (by omega)) (e1 5 917522 0 1 (by omega) (by omega) (by omega)) (fun s r i _ => e1 3 s r i (by omega) (by omega) (by omega)) (fun i => e1 5 909793 0 i (by omega) (by omega) (by omega))⟩
  · exact ⟨hS, hb, ⟨he, hd⟩, h4.fr2 (by omega) (e1 4 655365 0 (8 + 0) (by omega) (by omega) (by omega)) (e1 5 917522 0 0 (by omega) (by omega) (by omega)) (fun s r i _ => e1 2 s r i (by omega) (by omega) (by omega)) (fun i => e1 5 893409 0 i (by omega) (by omega) (by omega)), ⟨e2.trans e3.symm, .inr ⟨e3, hN, hk⟩⟩⟩
theorem z_zo1 (hx : z_rg x 0 1) : x = 0 ∨ x = 1 := by
  obtain ⟨p, hp, rfl⟩ := nI_of2 (n := 1) (M := 1) (by decide) hx.1 hx.2
  have : p = 0 ∨ p = 1 := by omega
  rcases this with rfl | rfl
  · exact .inl rfl
  · exact .inr rfl
theorem z_v01 : vp_in 0 2 ∧ vp_in 1 2 := ⟨vp_in_nI (n := 0) (by omega) (by omega), vp_in_nI (n := 1) (by omega) (by omega)⟩
/-- saveSnapshot -/
theorem z_f_143 (h : z_Q n M) (hx : z_rg x 0 1) : z_op n M (p_143 x) (r_143 x) (m_143 x) (p_293 x) (r_293 x) (m_293 x) := by
  obtain ⟨c, t, B, ht, hB, hR, hs⟩ := h.w
  have h10 : ¬ (1 : Int32) = 0 := by decide
  have hp : p_96 x 0 1 M := z_p96 hx
  rcases z_zo1 hx with rfl | rfl
  · obtain ⟨c1, c2, c3⟩ := z_45 (k := 2) (k2 := 0) (by decide) M
    obtain ⟨N, eN⟩ : ∃ N, N = ux_set (m_45 2 0 M) 4 655365 0 8 1 := ⟨_, rfl⟩
    have mc : m_143 0 M = N := by rw [eN]; unfold m_143; exact if_pos rfl
    have rc : r_143 0 M = N 0 16413 0 3 := by rw [eN]; unfold r_143; exact if_pos rfl
    obtain ⟨d1, d2, d3⟩ := z_294i (m := N) hx
    obtain ⟨g1, g2⟩ := z_173d (z_th N 0)
    have mm : mm_293 0 N = ux_set (m_173d (z_th N 0)) 5 917522 0 0 1 := by unfold mm_293; rw [if_pos rfl, d3, z_c0]
    have N0 : ∀ s r i, ¬ s = 655365 → N 0 s r i = M 0 s r i := fun s r i q => by rw [eN, z_so q]; exact c2 0 s r i (by omega)
    have N5 : ∀ a s r i, ¬ a = 2 → ¬ (a = 4 ∧ s = 655365 ∧ r = 0 ∧ i = 8) → N a s r i = M a s r i := fun a s r i q1 q2 => by rw [eN, z_set, if_neg q2]; exact c2 a s r i q1
    have Z1 : ∀ a s r i, ¬ (a = 5 ∧ ((s = 893409 ∧ r = 0) ∨ (s = 917522 ∧ r = 0 ∧ i = 0) ∨ (s = 819253 ∧ r = 0 ∧ i = 6))) → mm_293 0 N a s r i = N a s r i := fun a s r i q => by
      rw [mm, z_set, if_neg (fun z => q ⟨z.1, .inr (.inl z.2)⟩), g2]
      unfold z_tt z_th
      rw [if_neg (fun z => q ⟨z.1, .inl z.2⟩), z_set, if_neg (fun z => q ⟨z.1, .inr (.inr z.2)⟩)]
    have Z4 : ∀ i, i < 1084 → mm_293 0 N 5 893409 0 i = N 5 844257 0 i := fun i hi => by
      rw [mm, z_so (by decide), g2, z_tt_g, if_pos hi, z_thI]
    have Z6 : mm_293 0 N 5 819253 0 6 = 0 := by rw [mm, z_so (by decide), g2, z_tt_o (by decide), z_th6]
    have em : m_293 0 N = mm_293 0 N := if_pos d2
    refine ⟨?_, ?_, ?_, ?_, ?_⟩
    · unfold p_143; exact ⟨hp, fun z => absurd rfl z, fun _ => c1⟩
    · rw [mc]; unfold p_293; rw [d3]; exact ⟨d1, fun _ => ⟨fun _ => g1, fun z => absurd rfl z, z_v01.1⟩⟩
    · rw [rc, mc]
      have er : r_293 0 N = mm_293 0 N 5 844257 0 (0 : Int32).toNatClampNeg := if_pos d2
      rw [er, z_c0, Z1 5 844257 0 0 (by omega), N5 5 844257 0 0 (by omega) (by omega), N0 _ _ _ (by decide)]
      exact hR.1.nw.trans hR.1.now.symm
    · rw [mc, em]; exact Z6
    · rw [mc, em]
      refine z_save (k := 2) (s := 893409) (j := 0) (.inl ⟨rfl, rfl, rfl⟩) h (fun a s r i q1 q2 q3 => (Z1 a s r i q3).trans (N5 a s r i q1 q2)) ?_ ?_ (fun i hi => (Z4 i hi).trans (N5 _ _ _ _ (by omega) (by omega))) (fun s r i q => (Z1 2 s r i (by omega)).trans ?_)
      · rw [Z1 _ _ _ _ (by omega), eN]; exact z_ss
      · rw [mm]; exact z_ss
      · rw [eN, z_sk (by decide)]; exact c3 s r i q
  · obtain ⟨c1, c2, c3⟩ := z_45 (k := 3) (k2 := 0) (by decide) M
    obtain ⟨N, eN⟩ : ∃ N, N = ux_set (m_45 3 0 M) 4 655365 0 9 1 := ⟨_, rfl⟩
    have mc : m_143 1 M = N := by rw [eN]; unfold m_143; exact if_neg h10
    have rc : r_143 1 M = N 0 16413 0 3 := by rw [eN]; unfold r_143; exact if_neg h10
    obtain ⟨d1, d2, d3⟩ := z_294i (m := N) hx
    obtain ⟨g1, g2⟩ := z_173e (z_th N 0)
    have mm : mm_293 1 N = ux_set (m_173e (z_th N 0)) 5 917522 0 1 1 := by unfold mm_293; rw [if_neg h10, d3, z_c1]
    have N0 : ∀ s r i, ¬ s = 655365 → N 0 s r i = M 0 s r i := fun s r i q => by rw [eN, z_so q]; exact c2 0 s r i (by omega)
    have N5 : ∀ a s r i, ¬ a = 3 → ¬ (a = 4 ∧ s = 655365 ∧ r = 0 ∧ i = 9) → N a s r i = M a s r i := fun a s r i q1 q2 => by rw [eN, z_set, if_neg q2]; exact c2 a s r i q1
    have Z1 : ∀ a s r i, ¬ (a = 5 ∧ ((s = 909793 ∧ r = 0) ∨ (s = 917522 ∧ r = 0 ∧ i = 1) ∨ (s = 819253 ∧ r = 0 ∧ i = 6))) → mm_293 1 N a s r i = N a s r i := fun a s r i q => by
      rw [mm, z_set, if_neg (fun z => q ⟨z.1, .inr (.inl z.2)⟩), g2]
      unfold z_tt z_th
      rw [if_neg (fun z => q ⟨z.1, .inl z.2⟩), z_set, if_neg (fun z => q ⟨z.1, .inr (.inr z.2)⟩)]
    have Z4 : ∀ i, i < 1084 → mm_293 1 N 5 909793 0 i = N 5 844257 0 i := fun i hi => by
      rw [mm, z_so (by decide), g2, z_tt_g, if_pos hi, z_thI]
    have Z6 : mm_293 1 N 5 819253 0 6 = 0 := by rw [mm, z_so (by decide), g2, z_tt_o (by decide), z_th6]
    have em : m_293 1 N = mm_293 1 N := if_pos d2
    refine ⟨?_, ?_, ?_, ?_, ?_⟩
    · unfold p_143; exact ⟨hp, fun _ => c1, fun z => absurd z h10⟩
    · rw [mc]; unfold p_293; rw [d3]; exact ⟨d1, fun _ => ⟨fun z => absurd z h10, fun _ => g1, z_v01.2⟩⟩
    · rw [rc, mc]
      have er : r_293 1 N = mm_293 1 N 5 844257 0 (0 : Int32).toNatClampNeg := if_pos d2
      rw [er, z_c0, Z1 5 844257 0 0 (by omega), N5 5 844257 0 0 (by omega) (by omega), N0 _ _ _ (by decide)]
      exact hR.1.nw.trans hR.1.now.symm
    · rw [mc, em]; exact Z6
    · rw [mc, em]
      refine z_save (k := 3) (s := 909793) (j := 1) (.inr ⟨rfl, rfl, rfl⟩) h (fun a s r i q1 q2 q3 => (Z1 a s r i q3).trans (N5 a s r i q1 q2)) ?_ ?_ (fun i hi => (Z4 i hi).trans (N5 _ _ _ _ (by omega) (by omega))) (fun s r i q => (Z1 3 s r i (by omega)).trans ?_)
      · rw [Z1 _ _ _ _ (by omega), eN]; exact z_ss
      · rw [mm]; exact z_ss
      · rw [eN, z_sk (by decide)]; exact c3 s r i q
/-- restoreSnapshot: nothing saved, or the world of the slot -/
theorem z_back (hsl : (k = 2 ∧ s = 893409) ∨ (k = 3 ∧ s = 909793)) (h : z_Q n M) (hS : z_ST k n M (z_rr M s)) (hd : z_nd k M) (e0 : ∀ s r i, z_rqq s r i → Z 0 s r i = M k s r i) (e1 : ∀ a s r i, ¬ a = 0 → ¬ (a = 5 ∧ ((s = 844257 ∧ r = 0) ∨ (s = 819253 ∧ r = 0 ∧ i = 6))) → Z a s r i = M a s r i) (e2 : ∀ i, i < 1084 → Z 5 844257 0 i = M 5 s 0 i) : z_Q (n + 1) Z :=
  h.mk (by omega) (fun a s r i q => e1 a s r i (by omega) (by omega)) ((hS.mono (by omega)).cg2 (k' := 0) e0 (fun i hi => (e2 i hi).trans (z_rrI M s i).symm)) (hd.cg (k' := 0) (e0 344085 0 0 (.inr (.inr ⟨rfl, by omega⟩))) (fun i hi => e0 376961 0 i (z_q16 (by decide +kernel) hi)) (fun i hi => e0 394241 0 i (.inr (.inr ⟨rfl, by omega⟩))))
theorem z_f_144 (h : z_Q n M) (hx : z_rg x 0 1) : z_op n M (p_144 x) (r_144 x) (m_144 x) (p_296 x) (r_296 x) (m_296 x) := by
  have h10 : ¬ (1 : Int32) = 0 := by decide
  have hp : p_96 x 0 1 M := z_p96 hx
  rcases z_zo1 hx with rfl | rfl
  · obtain ⟨f1, f2⟩ := h.2.2.2.1
    rcases f2 with f2 | ⟨f2, f3, f4⟩
    · have f1' : M 4 655365 0 8 = 0 := f1.trans f2
      have mc : m_144 0 M = M := by unfold m_144 m_144_21; rw [if_pos rfl, if_pos f1']
      have rc : r_144 0 M = -1 := by unfold r_144 r_144_21; rw [if_pos rfl, if_pos f1']
      obtain ⟨d1, d2, d3⟩ := z_294i (m := M) hx
      have g : z_th M 0 5 917522 0 (0 : Int32).toNatClampNeg = 0 := by rw [z_c0]; unfold z_th; rw [z_so (by decide)]; exact f2
      have em : m_296 0 M = z_th M 0 := by unfold m_296; rw [if_pos d2, d3, if_pos g]
      refine ⟨?_, ?_, ?_, ?_, ?_⟩
      · unfold p_144 p_144_21; exact ⟨hp, fun z => absurd rfl z, fun _ => ⟨fun z => absurd f1' z, fun _ => trivial⟩⟩
      · rw [mc]; unfold p_296; rw [d3]; exact ⟨d1, fun _ => ⟨z_v01.1, fun z => absurd g z⟩⟩
      · rw [rc, mc]; unfold r_296; rw [if_pos d2, d3, if_pos g]
      · rw [mc, em]; exact z_th6
      · rw [mc, em]; exact h.th 0
    · have f1' : ¬ M 4 655365 0 8 = 0 := by rw [show M 4 655365 0 8 = 1 from f1.trans f2]; decide
      obtain ⟨c1, c2, c3⟩ := z_45 (k := 0) (k2 := 2) (by decide) M
      obtain ⟨N, eN⟩ : ∃ N, N = m_45 0 2 M := ⟨_, rfl⟩
      rw [← eN] at c2 c3
      have mc : m_144 0 M = N := by rw [eN]; unfold m_144 m_144_21; rw [if_pos rfl, if_neg f1', if_pos rfl]
      have rc : r_144 0 M = N 0 16413 0 3 := by rw [eN]; unfold r_144 r_144_21; rw [if_pos rfl, if_neg f1', if_pos rfl]
      obtain ⟨d1, d2, d3⟩ := z_294i (m := N) hx
      have g : ¬ z_th N 0 5 917522 0 (0 : Int32).toNatClampNeg = 0 := by
        rw [z_c0]; unfold z_th; rw [z_so (by decide), c2 _ _ _ _ (by omega), f2]; decide
      obtain ⟨g1, g2⟩ := z_173f (z_th N 0)
      have mm : mm_296 0 N = m_173f (z_th N 0) := by unfold mm_296; rw [if_pos rfl, d3]
      have em : m_296 0 N = mm_296 0 N := by unfold m_296; rw [if_pos d2, d3, if_neg g]
      have Z1 : ∀ a s r i, ¬ (a = 5 ∧ ((s = 844257 ∧ r = 0) ∨ (s = 819253 ∧ r = 0 ∧ i = 6))) → mm_296 0 N a s r i = N a s r i := fun a s r i q => by
        rw [mm, g2]
        unfold z_tt z_th
        rw [if_neg (fun z => q ⟨z.1, .inl z.2⟩), z_set, if_neg (fun z => q ⟨z.1, .inr z.2⟩)]
      have Z4 : ∀ i, i < 1084 → mm_296 0 N 5 844257 0 i = M 5 893409 0 i := fun i hi => by
        rw [mm, g2, z_tt_g, if_pos hi]; unfold z_th; rw [z_so (by decide)]; exact c2 _ _ _ _ (by omega)
      have Z6 : mm_296 0 N 5 819253 0 6 = 0 := by rw [mm, g2, z_tt_o (by decide), z_th6]
      refine ⟨?_, ?_, ?_, ?_, ?_⟩
      · unfold p_144 p_144_21; exact ⟨hp, fun z => absurd rfl z, fun _ => ⟨fun _ => ⟨fun z => absurd rfl z, fun _ => c1⟩, fun z => absurd z f1'⟩⟩
      · rw [mc]; unfold p_296; rw [d3]; exact ⟨d1, fun _ => ⟨z_v01.1, fun _ => ⟨fun _ => g1, fun z => absurd rfl z⟩⟩⟩
      · rw [rc, mc]
        have er : r_296 0 N = mm_296 0 N 5 844257 0 (0 : Int32).toNatClampNeg := by unfold r_296; rw [if_pos d2, d3, if_neg g]
        obtain ⟨c, t, B, _, _, hR, _⟩ := f3
        rw [er, z_c0, Z4 0 (by omega), c3 16413 0 3 (.inr (.inr ⟨rfl, by omega⟩))]
        exact hR.1.nw.trans (((z_rrI M 893409 0).symm.trans hR.1.now).symm)
      · rw [mc, em]; exact Z6
      · rw [mc, em]
        exact z_back (k := 2) (s := 893409) (.inl ⟨rfl, rfl⟩) h f3 f4 (fun s r i q => (Z1 0 s r i (by omega)).trans (c3 s r i q)) (fun a s r i q1 q2 => (Z1 a s r i q2).trans (c2 a s r i q1)) Z4
  · obtain ⟨f1, f2⟩ := h.2.2.2.2
    rcases f2 with f2 | ⟨f2, f3, f4⟩
    · have f1' : M 4 655365 0 9 = 0 := f1.trans f2
      have mc : m_144 1 M = M := by unfold m_144 m_144_21; rw [if_neg h10, if_pos f1']
      have rc : r_144 1 M = -1 := by unfold r_144 r_144_21; rw [if_neg h10, if_pos f1']
      obtain ⟨d1, d2, d3⟩ := z_294i (m := M) hx
      have g : z_th M 0 5 917522 0 (1 : Int32).toNatClampNeg = 0 := by rw [z_c1]; unfold z_th; rw [z_so (by decide)]; exact f2
      have em : m_296 1 M = z_th M 0 := by unfold m_296; rw [if_pos d2, d3, if_pos g]
      refine ⟨?_, ?_, ?_, ?_, ?_⟩
      · unfold p_144 p_144_21; exact ⟨hp, fun _ => ⟨fun z => absurd f1' z, fun _ => trivial⟩, fun z => absurd z h10⟩
      · rw [mc]; unfold p_296; rw [d3]; exact ⟨d1, fun _ => ⟨z_v01.2, fun z => absurd g z⟩⟩
      · rw [rc, mc]; unfold r_296; rw [if_pos d2, d3, if_pos g]
      · rw [mc, em]; exact z_th6
      · rw [mc, em]; exact h.th 0
    · have f1' : ¬ M 4 655365 0 9 = 0 := by rw [show M 4 655365 0 9 = 1 from f1.trans f2]; decide
      obtain ⟨c1, c2, c3⟩ := z_45 (k := 0) (k2 := 3) (by decide) M
      obtain ⟨N, eN⟩ : ∃ N, N = m_45 0 3 M := ⟨_, rfl⟩
      rw [← eN] at c2 c3
      have mc : m_144 1 M = N := by rw [eN]; unfold m_144 m_144_21; rw [if_neg h10, if_neg f1', if_neg h10]
      have rc : r_144 1 M = N 0 16413 0 3 := by rw [eN]; unfold r_144 r_144_21; rw [if_neg h10, if_neg f1', if_neg h10]
      obtain ⟨d1, d2, d3⟩ := z_294i (m := N) hx
      have g : ¬ z_th N 0 5 917522 0 (1 : Int32).toNatClampNeg = 0 := by
        rw [z_c1]; unfold z_th; rw [z_so (by decide), c2 _ _ _ _ (by omega), f2]; decide
      obtain ⟨g1, g2⟩ := z_173g (z_th N 0)
      have mm : mm_296 1 N = m_173g (z_th N 0) := by unfold mm_296; rw [if_neg h10, d3]
      have em : m_296 1 N = mm_296 1 N := by unfold m_296; rw [if_pos d2, d3, if_neg g]
      have Z1 : ∀ a s r i, ¬ (a = 5 ∧ ((s = 844257 ∧ r = 0) ∨ (s = 819253 ∧ r = 0 ∧ i = 6))) → mm_296 1 N a s r i = N a s r i := fun a s r i q => by
        rw [mm, g2]
        unfold z_tt z_th
        rw [if_neg (fun z => q ⟨z.1, .inl z.2⟩), z_set, if_neg (fun z => q ⟨z.1, .inr z.2⟩)]
      have Z4 : ∀ i, i < 1084 → mm_296 1 N 5 844257 0 i = M 5 909793 0 i := fun i hi => by
        rw [mm, g2, z_tt_g, if_pos hi]; unfold z_th; rw [z_so (by decide)]; exact c2 _ _ _ _ (by omega)
      have Z6 : mm_296 1 N 5 819253 0 6 = 0 := by rw [mm, g2, z_tt_o (by decide), z_th6]
      refine ⟨?_, ?_, ?_, ?_, ?_⟩
      · unfold p_144 p_144_21; exact ⟨hp, fun _ => ⟨fun _ => ⟨fun _ => c1, fun z => absurd z h10⟩, fun z => absurd z f1'⟩, fun z => absurd z h10⟩
      · rw [mc]; unfold p_296; rw [d3]; exact ⟨d1, fun _ => ⟨z_v01.2, fun _ => ⟨fun z => absurd z h10, fun _ => g1⟩⟩⟩
      · rw [rc, mc]
        have er : r_296 1 N = mm_296 1 N 5 844257 0 (0 : Int32).toNatClampNeg := by unfold r_296; rw [if_pos d2, d3, if_neg g]
        obtain ⟨c, t, B, _, _, hR, _⟩ := f3
        rw [er, z_c0, Z4 0 (by omega), c3 16413 0 3 (.inr (.inr ⟨rfl, by omega⟩))]
        exact hR.1.nw.trans (((z_rrI M 909793 0).symm.trans hR.1.now).symm)
      · rw [mc, em]; exact Z6
      · rw [mc, em]
        exact z_back (k := 3) (s := 909793) (.inr ⟨rfl, rfl⟩) h f3 f4 (fun s r i q => (Z1 0 s r i (by omega)).trans (c3 s r i q)) (fun a s r i q1 q2 => (Z1 a s r i q2).trans (c2 a s r i q1)) Z4
end ZS1
