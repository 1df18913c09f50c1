/-! PREDICTIONS -/
section ZP1
variable {k c t B B' b u n s x t0 : Nat} {M M' M1 M2 C m m' mx m0 : ux_M} {y z v w j : Int32}
/-- a call of the class that writes inside the trial world, then one of the reference that lays its row back -/
theorem z_Q.prd (h : z_Q n M) (f1 : ∀ a s r i, ¬ a = 1 → M1 a s r i = M a s r i) (hf : ∀ a s r i, ¬ (a = 5 ∧ (z_bS s i ∨ s = 860641)) → M2 a s r i = z_th M1 0 a s r i) (hrow : ∀ i, i < 1084 → M2 5 844257 0 i = M 5 844257 0 i) : M2 5 819253 0 6 = 0 ∧ z_Q (n + 1) M2 := by
  have e : ∀ a s r i, ¬ a = 1 → ¬ (a = 5 ∧ (z_bS s i ∨ s = 860641)) → ¬ (a = 5 ∧ s = 819253 ∧ i = 6) → M2 a s r i = M a s r i := fun a s r i q1 q2 q3 =>
    (hf a s r i q2).trans ((by unfold z_th; rw [z_set, if_neg (fun z => q3 ⟨z.1, z.2.1, z.2.2.2⟩)] : z_th M1 0 a s r i = M1 a s r i).trans (f1 a s r i q1))
  refine ⟨(hf 5 819253 0 6 (by unfold z_bS; omega)).trans z_th6, h.mk (by omega) (fun a s r i q => ?_) ((h.1.mono (by omega)).cg2 (k' := 0) (fun s r i _ => e 0 s r i (by omega) (by omega) (by omega)) hrow) (h.2.2.1.2.rd (fun s r i _ => e 0 s r i (by omega) (by omega) (by omega)))⟩
  exact e a s r i (by omega) (by unfold z_bS; omega) (by omega)
/-- the row is laid aside, and laid back -/
theorem z_rest (fb : z_fB (m_173a m0) mx) : (∀ a s r i, ¬ (a = 5 ∧ (z_bS s i ∨ s = 860641)) → m_173b mx a s r i = m0 a s r i) ∧ ∀ i, i < 1084 → m_173b mx 5 844257 0 i = m0 5 844257 0 i := by
  obtain ⟨_, ea⟩ := z_173a m0
  obtain ⟨_, eb⟩ := z_173b mx
  refine ⟨fun a s r i q => ?_, fun i hi => ?_⟩
  · rw [eb]
    unfold z_tt
    rw [if_neg (fun z => q ⟨z.1, .inl (.inr (.inl z.2.1))⟩), fb a s r i (fun z => q ⟨z.1, .inl z.2⟩), ea]
    unfold z_tt
    rw [if_neg (fun z => q ⟨z.1, .inr z.2.1⟩)]
  · rw [eb]
    unfold z_tt
    rw [if_pos ⟨rfl, rfl, rfl⟩]; show (if i < 1084 then _ else _) = _; rw [if_pos hi, fb 5 860641 0 i (by unfold z_bS; omega), ea]
    unfold z_tt
    rw [if_pos ⟨rfl, rfl, rfl⟩]; exact if_pos hi
theorem z_row_a (i : Nat) : m_173a m0 5 844257 0 i = m0 5 844257 0 i := by
  rw [(z_173a m0).2]; exact z_tt_o (by decide)
/-- the trial world is the real one -/
theorem z_try (hR : z_R 99 16 0 c t B M M) (hs : z_stable c M) (hrow : ∀ i, m0 5 844257 0 i = M 5 844257 0 i) :
    p_45 1 0 M ∧ (∀ a s r i, ¬ a = 1 → m_45 1 0 M a s r i = M a s r i) ∧ z_R 99 16 1 c t B (m_45 1 0 M) (m_173a m0) ∧ z_stable c (m_173a m0) := by
  obtain ⟨a1, a2, a3⟩ := z_45 (k := 1) (k2 := 0) (by decide) M
  have r : ∀ i, i < 1084 → m_173a m0 5 844257 0 i = M 5 844257 0 i := fun i _ => (z_row_a i).trans (hrow i)
  have hR' : z_R 99 16 1 c t B (m_45 1 0 M) (m_173a m0) := hR.cg2 (k' := 1) a3 r
  exact ⟨a1, a2, hR', z_219d hR.1 hR'.1 (fun i _ hi => r i hi) hs⟩
theorem z_288l {d : Nat} (hd : d ≤ 1000) (hu : u < 16) : ∀ (n f i : Nat) (m : ux_M), i + n = d → n < f → z_ptk n m → p_288_48 f (nI u) (nI d) (nI i) m ∧ r_288_48 f (nI u) (nI d) (nI i) m = z_Y (z_tk n m) 28 u ∧ m_288_48 f (nI u) (nI d) (nI i) m = m_173b (z_tk n m) := by
  intro n
  induction n with
  | zero =>
    intro f i m hi hf _
    obtain ⟨f, rfl⟩ : ∃ g, f = g + 1 := ⟨f - 1, by omega⟩
    have hle : nI d ≤ nI i := (z_le (by omega) (by omega)).mpr (by omega)
    rw [p_288_48, r_288_48, m_288_48, if_pos hle, if_pos hle, of28 _ hu]
    exact ⟨⟨fun _ => ⟨uu28 hu, (z_173b m).1⟩, fun z => absurd hle z⟩, rfl, rfl⟩
  | succ n ih =>
    intro f i m hi hf hp
    obtain ⟨f, rfl⟩ : ∃ g, f = g + 1 := ⟨f - 1, by omega⟩
    have hle : ¬ nI d ≤ nI i := fun z => by have := (z_le (by omega) (by omega)).mp z; omega
    obtain ⟨a1, a2, a3⟩ := ih f (i + 1) (m_177 m) (by omega) (by omega) hp.2
    rw [p_288_48, r_288_48, m_288_48, if_neg hle, if_neg hle, z_nx]
    exact ⟨⟨fun z => absurd z hle, fun _ => ⟨hp.1, a1⟩⟩, a2, a3⟩
/-- stateAfter -/
theorem z_f_139 (h : z_Q n M) (hn : n ≤ 600) (hx : z_iu M y) (hz : z_rg z 0 1000) : z_op n M (p_139 y z) (r_139 y z) (m_139 y z) (p_288 y z) (r_288 y z) (m_288 y z) := by
  obtain ⟨c, t, B, u, ht, hB, hR, hs, hc, hu, h16, rfl⟩ := h.un hx
  obtain ⟨D, hD, rfl⟩ := nI_of2 (n := 1000) (M := 1000) (x := z) (by decide) hz.1 hz.2
  have g := (z_i64g (nI D) 0 1000 (L := Int64.ofNat 1000) (by decide)).mpr hz
  obtain ⟨_, c45, _⟩ := z_45 (k := 1) (k2 := 0) (by decide) M
  have f1 : ∀ a s r i, ¬ a = 1 → m_139 (nI u) (nI D) M a s r i = M a s r i := fun a s r i q => by
    unfold m_139; exact (fa_50 1 _ _ a s r i (fun z => q z.1)).trans (c45 a s r i q)
  have row : ∀ i, z_th (m_139 (nI u) (nI D) M) 0 5 844257 0 i = M 5 844257 0 i := fun i => (z_thI i).trans (f1 _ _ _ _ (by omega))
  obtain ⟨e1, e2, e3⟩ := z_235i hc ((f1 5 844257 0 1 (by omega)).trans hR.1.cn) hu
  obtain ⟨b1, _, b3, b4⟩ := z_try hR hs row
  obtain ⟨a1, a2, a3⟩ := z_176a (M := z_th (m_139 (nI u) (nI D) M) 0) z_th6 2
  obtain ⟨g1, g2, g3, g4⟩ := z_passes b3 b4 hD (by omega) (by omega)
  obtain ⟨l1, l2, l3⟩ := z_288l hD h16 D ux_fuel 0 (m_173a (z_th (m_139 (nI u) (nI D) M) 0)) (by omega) (by have := z_fuel; omega) g2
  have mr : m_288 (nI u) (nI D) (m_139 (nI u) (nI D) M) = m_173b (z_tk D (m_173a (z_th (m_139 (nI u) (nI D) M) 0))) := by
    unfold m_288 m_288_26; rw [if_pos e2, if_pos g, e3, if_pos a2, a3]; exact l3
  have nw : m_45 1 0 M 1 16413 0 3 + nI D = nI (t + D) := by rw [b3.1.nw, z_add]
  obtain ⟨r1, r2⟩ := z_rest (m0 := z_th (m_139 (nI u) (nI D) M) 0) (fb_tk D _)
  rw [← mr] at r1 r2
  obtain ⟨d1, d2⟩ := h.prd f1 r1 (fun i hi => (r2 i hi).trans (row i))
  refine ⟨?_, ?_, ?_, d1, d2⟩
  · unfold p_139; rw [nw]; exact ⟨z_p93 hx, z_p96 hz, b1, g1, z_i16 h16⟩
  · unfold p_288 p_288_26; rw [e3, a2, a3]
    exact ⟨e1, fun q => absurd e2 q, fun _ => ⟨fun _ => ⟨a1, fun _ => ⟨(z_173a _).1, l1⟩, fun q => absurd rfl q⟩, fun q => absurd g q⟩⟩
  · have er : r_288 (nI u) (nI D) (m_139 (nI u) (nI D) M) = z_Y (z_tk D (m_173a (z_th (m_139 (nI u) (nI D) M) 0))) 28 u := by
      unfold r_288 r_288_26; rw [if_pos e2, if_pos g, e3, if_pos a2, a3]; exact l2
    rw [er]; unfold r_139; rw [nw, z_cl h16]; exact g3.1.d28 hu
theorem z_g_288 (h : z_Q n M) (hx : ¬ z_iu M y) : z_thr n M (p_288 y z) (m_288 y z) 1 := by
  obtain ⟨e1, e2, e3⟩ := h.o hx
  have e0 : ¬ r_235 y M = 0 := by rw [e2]; decide
  refine .th h ?_ ?_
  · unfold p_288; exact ⟨e1, fun _ => trivial, fun q => absurd q e0⟩
  · unfold m_288; rw [if_neg e0, e3]
theorem z_g_288b (h : z_Q n M) (hx : z_iu M y) (hz : ¬ z_rg z 0 1000) : z_thr n M (p_288 y z) (m_288 y z) 2 := by
  obtain ⟨c, t, B, u, ht, hB, hR, hs, hc, hu, h16, rfl⟩ := h.un hx
  obtain ⟨e1, e2, e3⟩ := z_235i hc hR.1.cn hu
  have g := fun q => hz ((z_i64g z 0 1000 (L := Int64.ofNat 1000) (by decide)).mp q)
  obtain ⟨a1, a2, a3⟩ := z_176b (M := z_th M 0) z_th6 (b := 2) (by decide)
  rw [z_thth] at a3
  have a0 : ¬ r_176 1 2 (z_th M 0) = 0 := by rw [a2]; decide
  refine .th h ?_ ?_
  · unfold p_288 p_288_26; rw [e3]; exact ⟨e1, fun q => absurd e2 q, fun _ => ⟨fun q => absurd q g, fun _ => ⟨a1, fun q => absurd q a0, fun _ => trivial⟩⟩⟩
  · unfold m_288 m_288_26; rw [if_pos e2, if_neg g, e3, if_neg a0, a3]
/-- WATCHING FOR A THOUSAND TICKS: the class from due time to due time, the reference tick by tick; ST: what is waited for -/
theorem z_watch (PRE ST : ux_M → Prop) (P : Nat → Nat → ux_M → Prop) (R : Nat → Nat → ux_M → Int32) (Q : Nat → Nat → ux_M → ux_M) (PC : Nat → Nat → ux_M → Prop) (RC : Nat → Nat → ux_M → Int32) (MC : Nat → Nat → ux_M → ux_M)
    (ht0 : t0 ≤ 1000000)
    (hS : ∀ f i m, i ≤ 1000 → PRE m → ST m → P (f + 1) i m ∧ R (f + 1) i m = nI i ∧ Q (f + 1) i m = m_173b m)
    (hH : ∀ f m, PRE m → P (f + 1) 1001 m ∧ R (f + 1) 1001 m = -1 ∧ Q (f + 1) 1001 m = m_173b m)
    (hN : ∀ f i m, i ≤ 1000 → PRE m → ¬ ST m → (p_177 m → P f (i + 1) (m_177 m) → P (f + 1) i m) ∧ R (f + 1) i m = R f (i + 1) (m_177 m) ∧ Q (f + 1) i m = Q f (i + 1) (m_177 m))
    (gS : ∀ f y t B X m, z_R 99 16 1 c t B X m → t0 ≤ t → X 0 16413 0 3 = nI t0 → ST m → PC (f + 1) y X ∧ RC (f + 1) y X = nI (t - t0) ∧ MC (f + 1) y X = X)
    (gD : ∀ f y B X m, z_R 99 16 1 c (t0 + 1000) B X m → ¬ ST m → PC (f + 1) y X ∧ RC (f + 1) y X = -1 ∧ MC (f + 1) y X = X)
    (gN : ∀ f y t B X m Z, z_R 99 16 1 c t B X m → y < 1000 → t < t0 + 1000 → ¬ ST m → Z = (if nI (t0 + 1000) < r_48 1 X then nI (t0 + 1000) else r_48 1 X) → (p_48 1 X → p_50 1 Z X → PC f (y + 1) (m_50 1 Z X) → PC (f + 1) y X) ∧ RC (f + 1) y X = RC f (y + 1) (m_50 1 Z X) ∧ MC (f + 1) y X = MC f (y + 1) (m_50 1 Z X))
    (hP : ∀ t B X m, z_R 99 16 1 c t B X m → PRE m)
    (hI : ∀ t B X m T, z_R 99 16 1 c t B X m → T ≤ 1003000 → PRE (ux_set m 5 844257 0 0 (nI T)) ∧ (ST (ux_set m 5 844257 0 0 (nI T)) ↔ ST m)) :
    ∀ (D f f' y t B : Nat) (X m : ux_M), t + D = t0 + 1000 → t0 ≤ t → y + D ≤ 1000 → D < f → D + 2 < f' → B + 800 * D + 810000 < 1999999999 → z_R 99 16 1 c t B X m → z_stable c m → X 0 16413 0 3 = nI t0 →
      PC f y X ∧ P f' (t - t0) m ∧ RC f y X = R f' (t - t0) m ∧ (∀ a s r i, ¬ a = 1 → MC f y X a s r i = X a s r i) ∧ ∃ mx, Q f' (t - t0) m = m_173b mx ∧ z_fB m mx := by
  -- ticks at which nothing happens
  have skip : ∀ (d f i : Nat) (m : ux_M), (∀ j, j < d → PRE (z_tk j m) ∧ ¬ ST (z_tk j m)) → z_ptk d m → i + d ≤ 1001 →
      (P f (i + d) (z_tk d m) → P (f + d) i m) ∧ R (f + d) i m = R f (i + d) (z_tk d m) ∧ Q (f + d) i m = Q f (i + d) (z_tk d m) := by
    intro d
    induction d with
    | zero => intro f i m _ _ _; exact ⟨fun q => q, rfl, rfl⟩
    | succ d ih =>
      intro f i m hj hp hi
      obtain ⟨h1, h2⟩ := hj 0 (by omega)
      obtain ⟨a1, a2, a3⟩ := ih f (i + 1) (m_177 m) (fun j hj' => hj (j + 1) (by omega)) hp.2 (by omega)
      obtain ⟨b1, b2, b3⟩ := hN (f + d) i m (by omega) h1 h2
      rw [show i + (d + 1) = i + 1 + d by omega, show f + (d + 1) = f + d + 1 by omega]
      exact ⟨fun q => b1 hp.1 (a1 q), b2.trans a2, b3.trans a3⟩
  intro D
  induction D using Nat.strongRecOn with
  | ind D ih =>
    intro f f' y t B X m hD h0 hy hf hf' hB h hs hX
    obtain ⟨f, rfl⟩ : ∃ g, f = g + 1 := ⟨f - 1, by omega⟩
    have pre := hP t B X m h
    by_cases q : ST m
    · obtain ⟨f', rfl⟩ : ∃ g, f' = g + 1 := ⟨f' - 1, by omega⟩
      obtain ⟨c1, c2, c3⟩ := gS f y t B X m h h0 hX q
      obtain ⟨r1, r2, r3⟩ := hS f' (t - t0) m (by omega) pre q
      exact ⟨c1, r1, c2.trans r2.symm, fun a s r i _ => by rw [c3], m, r3, z_fB.rf⟩
    · by_cases hD0 : D = 0
      · obtain ⟨f', rfl⟩ : ∃ g, f' = g + 2 := ⟨f' - 2, by omega⟩
        have et : t = t0 + 1000 := by omega
        obtain ⟨c1, c2, c3⟩ := gD f y B X m (et ▸ h) q
        obtain ⟨_, p2, p3, _⟩ := z_passes h hs (D := 1) (by omega) (by omega) (by omega)
        obtain ⟨b1, b2, b3⟩ := hN (f' + 1) (t - t0) m (by omega) pre q
        have pre1 := hP _ _ _ _ p3
        have e1 : t - t0 + 1 = 1001 := by omega
        have em : z_tk 1 m = m_177 m := rfl
        rw [em] at pre1
        obtain ⟨r1, r2, r3⟩ := hH f' (m_177 m) pre1
        rw [e1] at b1 b2 b3
        exact ⟨c1, b1 p2.1 r1, c2.trans (b2.trans r2).symm, fun a s r i _ => by rw [c3], m_177 m, b3.trans r3, fb_177 m⟩
      · obtain ⟨q48, N, eN, tN, N31, hN48⟩ := z_48 h
        obtain ⟨d, hd⟩ : ∃ d, d = min (N - t) D := ⟨_, rfl⟩
        have d1 : 1 ≤ d := by omega
        have dD : d ≤ D := by omega
        obtain ⟨Z, hZ⟩ : ∃ Z, Z = (if nI (t0 + 1000) < r_48 1 X then nI (t0 + 1000) else r_48 1 X) := ⟨_, rfl⟩
        have eZ : Z = nI (t + d) := by
          rw [hZ, eN]
          by_cases y : t0 + 1000 < N
          · rw [if_pos ((nI_ltI (by omega) (by omega)).mpr y), show t + d = t0 + 1000 by omega]
          · rw [if_neg (fun z => y ((nI_ltI (by omega) (by omega)).mp z)), show t + d = N by omega]
        obtain ⟨g1, g2, g3, g4⟩ := z_passes h hs (D := d) (by omega) (by omega) (by omega)
        obtain ⟨c1, c2, c3⟩ := gN f y t B X m Z h (by omega) (by omega) q hZ
        rw [eZ] at c1 c2 c3
        have quiet : ∀ j, j < d → PRE (z_tk j m) ∧ ¬ ST (z_tk j m) := fun j hj => by
          obtain ⟨_, i2⟩ := z_idts h hs j (by omega) (fun u hu x hx hx2 => by have := hN48 u hu x hx hx2; omega)
          rw [i2]
          by_cases j0 : j = 0
          · rw [if_pos j0]; exact ⟨pre, q⟩
          · rw [if_neg j0]
            obtain ⟨w1, w2⟩ := hI t B X m (t + j) h (by omega)
            exact ⟨w1, fun z => q (w2.mp z)⟩
        have fX : ∀ a s r i, ¬ a = 1 → m_50 1 (nI (t + d)) X a s r i = X a s r i := fun a s r i q => fa_50 1 _ _ a s r i (fun z => q z.1)
        obtain ⟨i1, i2, i3, i4, mx, i5, i6⟩ := ih (D - d) (by omega) f (f' - d) (y + 1) (t + d) (B + 800 * d) (m_50 1 (nI (t + d)) X) (z_tk d m) (by omega) (by omega) (by omega) (by omega) (by omega) (by omega) g3 g4 ((fX _ _ _ _ (by omega)).trans hX)
        obtain ⟨s1, s2, s3⟩ := skip d (f' - d) (t - t0) m quiet g2 (by omega)
        rw [show f' - d + d = f' by omega, show t - t0 + d = t + d - t0 by omega] at s1 s2 s3
        exact ⟨c1 q48 g1 i1, s1 i2, c2.trans (i3.trans s2.symm), fun a s r i q => by rw [c3]; exact (i4 a s r i q).trans (fX a s r i q), mx, s3.trans i5, (fb_tk d m).tr i6⟩
end ZP1
