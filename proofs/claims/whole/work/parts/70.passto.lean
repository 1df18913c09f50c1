/-! passTo and ticks -/
section ZY
variable {k c t B B' u v a b b' t' s x n T : Nat} {M m M' m' m'' : ux_M}
theorem z_n1le (t : Nat) (h : t < 2000000000) : (-1 : Int32) ≤ nI t := by
  rw [Int32.le_iff_toInt_le, nI_toInt (by omega)]
  show (-1 : Int) ≤ _
  omega
/-- nextDue -/
theorem z_48l (h : z_R 99 16 k c t B M m) : ∀ (n f i acc : Nat), i + n = c → n < f → acc ≤ 2147483647 → t < acc → p_48_5 f k (nI acc) (nI i) M ∧ ∃ N, r_48_5 f k (nI acc) (nI i) M = nI N ∧ t < N ∧ N ≤ acc ∧ ∀ u, i ≤ u → u < c → ∀ x, r_178 (nI u) m = nI x → x ≤ 1005000 → N ≤ x := by
  intro n
  induction n with
  | zero =>
    intro f i acc hi hf ha ht
    obtain ⟨f, rfl⟩ : ∃ g, f = g + 1 := ⟨f - 1, by omega⟩
    have hle := z_yle (show c ≤ i by omega) (by have := h.1.le; omega)
    rw [p_48_5, r_48_5, h.1.cnt, if_pos hle]
    exact ⟨⟨fun _ => trivial, fun z => absurd hle z⟩, acc, rfl, ht, Nat.le_refl _, fun u h1 h2 => absurd h2 (by omega)⟩
  | succ n ih =>
    intro f i acc hi hf ha ht
    obtain ⟨f, rfl⟩ : ∃ g, f = g + 1 := ⟨f - 1, by omega⟩
    have hic : i < c := by omega
    have hc := h.1.le
    have tl := h.1.tl
    have hle := z_nle hic hc
    obtain ⟨d1, d2, d3, d4⟩ := z_due h hic
    have skip : (∀ x, r_178 (nI i) m = nI x → x ≤ 1005000 → acc ≤ x) → p_48_5 f k (nI acc) (nI (i + 1)) M ∧ ∃ N, r_48_5 f k (nI acc) (nI (i + 1)) M = nI N ∧ t < N ∧ N ≤ acc ∧ ∀ u, i ≤ u → u < c → ∀ x, r_178 (nI u) m = nI x → x ≤ 1005000 → N ≤ x := fun hs => by
      obtain ⟨g1, N, g2, g3, g4, g5⟩ := ih f (i + 1) acc (by omega) (by omega) ha ht
      refine ⟨g1, N, g2, g3, g4, fun u h1 h2 x e hx => ?_⟩
      by_cases q : u = i
      · subst q; exact Nat.le_trans g4 (hs x e hx)
      · exact g5 u (by omega) h2 x e hx
    rw [p_48_5, r_48_5, h.1.cnt, if_neg hle, h.1.nw, z_nx]
    rcases d3 with e | ⟨e1, e2, x, e3, e4, e5⟩
    · rcases d4 with e0 | ⟨x, e0, hl, hx⟩
      · have l1 : r_49 k (nI i) M ≤ nI t := by rw [e, e0]; exact z_n1le t (by omega)
        obtain ⟨g1, g2⟩ := skip (fun x ex _ => absurd (ex.symm.trans e0) (z_nm1 (by omega)))
        rw [if_pos l1]
        exact ⟨⟨fun z => absurd z hle, fun _ => ⟨d1, fun _ => g1, fun z => absurd l1 z⟩⟩, g2⟩
      · have tx : t < x := by unfold z_dl at hl; omega
        have l1 : ¬ r_49 k (nI i) M ≤ nI t := by rw [e, e0, z_le (by omega) (by omega)]; omega
        rw [if_neg l1]
        by_cases l2 : nI acc ≤ r_49 k (nI i) M
        · have ax : acc ≤ x := by rw [e, e0] at l2; exact (nI_leI (by omega) (by omega)).mp l2
          obtain ⟨g1, g2⟩ := skip (fun y ey _ => by have : y = x := (z_eq (by omega) (by omega)).mp (ey.symm.trans e0); omega)
          rw [if_pos l2]
          exact ⟨⟨fun z => absurd z hle, fun _ => ⟨d1, fun z => absurd z l1, fun _ => ⟨fun _ => g1, fun z => absurd l2 z⟩⟩⟩, g2⟩
        · have ax : x < acc := by
            rw [e, e0] at l2
            exact Nat.lt_of_not_le (fun z => l2 ((nI_leI (by omega) (by omega)).mpr z))
          obtain ⟨g1, N, g2, g3, g4, g5⟩ := ih f (i + 1) x (by omega) (by omega) (by omega) tx
          rw [if_neg l2]
          rw [← e0, ← e] at g1 g2
          refine ⟨⟨fun z => absurd z hle, fun _ => ⟨d1, fun z => absurd z l1, fun _ => ⟨fun z => absurd z l2, fun _ => g1⟩⟩⟩, N, g2, g3, by omega, fun u h1 h2 y ey hy => ?_⟩
          by_cases q : u = i
          · subst q
            have : y = x := (z_eq (by omega) (by omega)).mp (ey.symm.trans e0); omega
          · exact g5 u (by omega) h2 y ey hy
    · have xt : x ≤ t := by unfold z_dl at e4; omega
      have l1 : r_49 k (nI i) M ≤ nI t := by rw [e3, z_le (by omega) (by omega)]; exact xt
      obtain ⟨g1, g2⟩ := skip (fun y ey _ => absurd (ey.symm.trans e2) (z_nm1 (by omega)))
      rw [if_pos l1]
      exact ⟨⟨fun z => absurd z hle, fun _ => ⟨d1, fun _ => g1, fun z => absurd l1 z⟩⟩, g2⟩
theorem z_48 (h : z_R 99 16 k c t B M m) : p_48 k M ∧ ∃ N, r_48 k M = nI N ∧ t < N ∧ N ≤ 2147483647 ∧ ∀ u, u < c → ∀ x, r_178 (nI u) m = nI x → x ≤ 1005000 → N ≤ x := by
  have hc := h.1.le
  have tl := h.1.tl
  have hfu : c < ux_fuel := by have := z_fuel; omega
  obtain ⟨g1, N, g2, g3, g4, g5⟩ := z_48l h c ux_fuel 0 2147483647 (by omega) hfu (Nat.le_refl _) (by omega)
  exact ⟨g1, N, g2, g3, g4, fun u hu => g5 u (Nat.zero_le _) hu⟩
/-- PASSING TIME -/
theorem z_psl (hTX : z_TX k c) (hBC : z_BC) : ∀ (D f y B t : Nat) (M m : ux_M), y + D ≤ 1000 → D < f → t + D ≤ 1003000 → B + 800 * D + 800 < 1999999999 → z_R 99 16 k c t B M m → z_stable c m →
    p_50_2 f k (nI (t + D)) (nI y) M ∧ z_ptk D m ∧ z_R 99 16 k c (t + D) (B + 800 * D) (m_50_2 f k (nI (t + D)) (nI y) M) (z_tk D m) ∧ z_stable c (z_tk D m) := by
  intro D
  induction D using Nat.strongRecOn with
  | ind D IH =>
    intro f y B t M m hy hf hT hB h hs
    obtain ⟨f, rfl⟩ : ∃ g, f = g + 1 := ⟨f - 1, by omega⟩
    have hc := h.1.le
    have hfu : c < ux_fuel := by have := z_fuel; omega
    rw [p_50_2, m_50_2, h.1.nw]
    by_cases D0 : D = 0
    · subst D0
      have le : nI (t + 0) ≤ nI t := (z_le (by omega) (by omega)).mpr (by omega)
      unfold z_ptk z_tk
      refine ⟨⟨fun _ => trivial, fun _ => ⟨fun _ => trivial, fun z => absurd le z⟩⟩, trivial, ?_, hs⟩
      rw [if_pos le, ite_self]; exact h.mono (by omega)
    · have n1000 : ¬ (1000 : Int32) ≤ nI y := fun z => by have := (z_le (a := 1000) (by omega) (by omega)).mp z; omega
      have nle : ¬ nI (t + D) ≤ nI t := fun z => by have := (z_le (by omega) (by omega)).mp z; omega
      obtain ⟨e48, N, eN, htN, hN, hmin⟩ := z_48 h
      -- the time of the next event
      obtain ⟨d, hd, eT⟩ : ∃ d, d < D ∧ min (t + D) N = t + d + 1 := ⟨min (t + D) N - t - 1, by omega, by omega⟩
      have eif : (if nI (t + D) < r_48 k M then nI (t + D) else r_48 k M) = nI (t + d + 1) := by
        rw [eN]
        by_cases q : t + D < N
        · rw [if_pos ((nI_ltI (by omega) (by omega)).mpr q)]; congr 1; omega
        · rw [if_neg (fun z => q ((nI_ltI (by omega) (by omega)).mp z))]; congr 1; omega
      have R0 := h.tim (T := t + d + 1) (by omega) (by omega) (fun u hu x e hx => by have := hmin u hu x e hx; omega)
      obtain ⟨i1, i2⟩ := z_idts h hs d (by omega) (fun u hu x e hx => by have := hmin u hu x e hx; omega)
      obtain ⟨Mf, g1, g2, g3, g4, g5⟩ := z_tkl hTX hBC (by omega) (p_50_2 f) (m_50_2 f) (nI (t + D)) (nI y) c ux_fuel ux_fuel 0 _ _ (by omega) hfu hfu R0
      -- the tick of the reference
      have now' : z_tk d m 5 844257 0 0 = nI (t + d) := by
        rw [i2]
        by_cases z : d = 0
        · subst z; rw [if_pos rfl]; exact h.1.now
        · rw [if_neg z, z_ss]
      have eset : ux_set (z_tk d m) 5 844257 0 0 (nI (t + d + 1)) = ux_set m 5 844257 0 0 (nI (t + d + 1)) := by
        rw [i2]
        by_cases z : d = 0
        · rw [if_pos z]
        · rw [if_neg z]
          funext x1 x2 x3 x4
          rw [z_set, z_set, z_set]
          by_cases e : x1 = 5 ∧ x2 = 844257 ∧ x3 = 0 ∧ x4 = 0
          · rw [if_pos e, if_pos e]
          · rw [if_neg e, if_neg e, if_neg e]
      have tick : p_177 (z_tk d m) ∧ m_177 (z_tk d m) = m_177_12 ux_fuel (nI 0) (ux_set m 5 844257 0 0 (nI (t + d + 1))) := by
        unfold p_177 m_177
        simp only [z_c0, now', z_nx, eset, forall_eq]
        exact ⟨⟨z_v0, z_v0, g2⟩, rfl⟩
      obtain ⟨j1, j2, j3, j4⟩ := IH (D - (d + 1)) (by omega) f (y + 1) (B + 800) (t + d + 1) Mf _ (by omega) (by omega) (by omega) (by omega) g4 g5
      have eD : t + d + 1 + (D - (d + 1)) = t + D := by omega
      rw [eD] at j1 j3
      have sp := z_tk.add (D - d) d m
      rw [show d + (D - d) = D by omega] at sp
      obtain ⟨q, hq⟩ : ∃ q, D - d = q + 1 := ⟨D - d - 1, by omega⟩
      have eq1 : D - (d + 1) = q := by omega
      rw [eq1] at j2 j3 j4
      rw [hq] at sp
      have t1 : z_tk D m = z_tk q (m_177_12 ux_fuel (nI 0) (ux_set m 5 844257 0 0 (nI (t + d + 1)))) := by rw [sp.1]; show z_tk q (m_177 (z_tk d m)) = _; rw [tick.2]
      have t2 : z_ptk D m := sp.2.mpr ⟨i1, ⟨tick.1, by rw [tick.2]; exact j2⟩⟩
      simp only [n1000, nle, if_false, not_false_eq_true, true_implies, false_implies, true_and, forall_eq, eif]
      rw [t1]
      refine ⟨⟨e48, g1 (by rw [z_nx]; exact j1)⟩, t2, ?_, j4⟩
      have := j3.mono (B' := B + 800 * D) (by omega)
      have g3' : m_50_31 (m_50_2 f) ux_fuel k (nI (t + D)) (nI y) (nI 0) (ux_set M k 16413 0 3 (nI (t + d + 1))) = m_50_2 f k (nI (t + D)) (nI (y + 1)) Mf := by rw [g3, z_nx]
      show z_R 99 16 k c (t + D) (B + 800 * D) (m_50_31 (m_50_2 f) ux_fuel k (nI (t + D)) (nI y) (nI 0) (ux_set M k 16413 0 3 (nI (t + d + 1)))) _
      rw [g3']; exact this
/-- passTo against ticks -/
theorem z_R.pass (hTX : z_TX k c) (hBC : z_BC) (h : z_R 99 16 k c t B M m) (hs : z_stable c m) {D : Nat} (hD : D ≤ 1000) (hT : t + D ≤ 1003000) (hB : B + 801000 < 1999999999) :
    p_50 k (nI (t + D)) M ∧ z_ptk D m ∧ z_R 99 16 k c (t + D) (B + 800 * D) (m_50 k (nI (t + D)) M) (z_tk D m) ∧ z_stable c (z_tk D m) := by
  have hf := z_fuel
  exact z_psl hTX hBC D ux_fuel 0 B t M m (by omega) (by omega) hT (by omega) h hs
end ZY
