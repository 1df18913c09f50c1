/-! LOAD, 1: the parts of a text (T: its bytes, N: how many) -/
section ZL1
variable {M M' m : ux_M} {T : Nat → Int32} {N i j p n : Nat} {a b c v : Int32} {P : Nat → Bool}
def z_xB (T : Nat → Int32) (N i : Nat) : Bool := decide (i < N) && decide (T i = 32)
def z_xL (T : Nat → Int32) (N i : Nat) : Bool := decide (i < N) && (!decide (T i < 97) && !decide (122 < T i))
def z_xD (T : Nat → Int32) (N i : Nat) : Bool := decide (i < N) && (!decide (T i < 48) && !decide (57 < T i))
def z_xs (P : Nat → Bool) : Nat → Nat → Nat
  | 0, i => i
  | n + 1, i => if P i = true then z_xs P n (i + 1) else i
/-- on to the first place where P doesn't hold -/
def z_xn (P : Nat → Bool) (N i : Nat) : Nat := z_xs P (N - i) i
theorem z_xn_t (hi : i < N) (h : P i = true) : z_xn P N i = z_xn P N (i + 1) := by
  unfold z_xn
  rw [show N - i = N - (i + 1) + 1 by omega, z_xs, if_pos h]
theorem z_xn_f (h : ¬ P i = true) : z_xn P N i = i := by
  unfold z_xn
  cases N - i with
  | zero => rfl
  | succ n => rw [z_xs, if_neg h]
theorem z_xn_o (h : N ≤ i) : z_xn P N i = i := by
  unfold z_xn
  rw [show N - i = 0 by omega]; rfl
theorem z_xn_b : ∀ n i, i + n = N → i ≤ z_xn P N i ∧ z_xn P N i ≤ N ∧ (∀ j, i ≤ j → j < z_xn P N i → P j = true) ∧ (z_xn P N i < N → ¬ P (z_xn P N i) = true) := by
  intro n
  induction n with
  | zero =>
    intro i hi
    rw [z_xn_o (show N ≤ i by omega)]
    exact ⟨Nat.le_refl _, by omega, fun j h1 h2 => absurd h2 (by omega), fun z => absurd z (by omega)⟩
  | succ n ih =>
    intro i hi
    by_cases q : P i = true
    · rw [z_xn_t (by omega) q]
      obtain ⟨h1, h2, h3, h4⟩ := ih (i + 1) (by omega)
      refine ⟨by omega, h2, fun j j1 j2 => ?_, h4⟩
      by_cases e : j = i
      · subst e; exact q
      · exact h3 j (by omega) j2
    · rw [z_xn_f q]
      exact ⟨Nat.le_refl _, by omega, fun j h1 h2 => absurd h2 (by omega), fun _ => q⟩
/-- the kind of the part that begins at p, and its end -/
def z_xp (T : Nat → Int32) (N p : Nat) : Int32 := if N ≤ p then 0 else if z_xL T N p = true then 1 else if z_xD T N p = true then 2 else if T p = 59 then 3 else 4
def z_xe (T : Nat → Int32) (N p : Nat) : Nat := if N ≤ p then p else if z_xL T N p = true then z_xn (z_xL T N) N p else if z_xD T N p = true then z_xn (z_xD T N) N p else p + 1
/-- the reader's `from`, `to` and `part` -/
def z_rm (M : ux_M) (a b c : Int32) : ux_M := ux_set (ux_set (ux_set M 4 671757 0 4 a) 4 671757 0 5 b) 4 671757 0 3 c
theorem z_rm_4 : z_rm M a b c 4 671757 0 4 = a := by unfold z_rm; rw [z_si (by decide), z_si (by decide), z_ss]
theorem z_rm_5 : z_rm M a b c 4 671757 0 5 = b := by unfold z_rm; rw [z_si (by decide), z_ss]
theorem z_rm_3 : z_rm M a b c 4 671757 0 3 = c := z_ss
theorem z_rm_1 : z_rm M a b c 4 671757 0 1 = M 4 671757 0 1 := by unfold z_rm; rw [z_si (by decide), z_si (by decide), z_si (by decide)]
theorem z_rm_2 : z_rm M a b c 4 671757 0 2 = M 4 671757 0 2 := by unfold z_rm; rw [z_si (by decide), z_si (by decide), z_si (by decide)]
theorem z_rm_o {k s r i : Nat} (h : ¬ s = 671757) : z_rm M a b c k s r i = M k s r i := by unfold z_rm; rw [z_so h, z_so h, z_so h]
theorem z_rm_t : z_rm M a b c 4 694529 0 i = M 4 694529 0 i := z_rm_o (by decide)
theorem z_rm_s4 : ux_set (z_rm M a b c) 4 671757 0 4 v = z_rm M v b c := by
  funext k s r i
  unfold z_rm
  simp only [z_set]
  by_cases h : k = 4 ∧ s = 671757 ∧ r = 0 ∧ i = 4
  · rw [if_pos h, if_neg (by omega), if_neg (by omega), if_pos h]
  · rw [if_neg h, if_neg h, if_neg h]
theorem z_rm_s5 : ux_set (z_rm M a b c) 4 671757 0 5 v = z_rm M a v c := by
  funext k s r i
  unfold z_rm
  simp only [z_set]
  by_cases h : k = 4 ∧ s = 671757 ∧ r = 0 ∧ i = 5
  · rw [if_pos h, if_neg (by omega), if_pos h]
  · rw [if_neg h, if_neg h, if_neg h]
theorem z_rm_s3 : ux_set (z_rm M a b c) 4 671757 0 3 v = z_rm M a b v := by
  funext k s r i
  unfold z_rm
  simp only [z_set]
  by_cases h : k = 4 ∧ s = 671757 ∧ r = 0 ∧ i = 3
  · rw [if_pos h, if_pos h]
  · rw [if_neg h, if_neg h, if_neg h]
theorem z_rm_self : z_rm M (M 4 671757 0 4) (M 4 671757 0 5) (M 4 671757 0 3) = M := by
  funext k s r i
  unfold z_rm
  simp only [z_set]
  by_cases h3 : k = 4 ∧ s = 671757 ∧ r = 0 ∧ i = 3
  · rw [if_pos h3]; obtain ⟨rfl, rfl, rfl, rfl⟩ := h3; rfl
  · rw [if_neg h3]
    by_cases h5 : k = 4 ∧ s = 671757 ∧ r = 0 ∧ i = 5
    · rw [if_pos h5]; obtain ⟨rfl, rfl, rfl, rfl⟩ := h5; rfl
    · rw [if_neg h5]
      by_cases h4 : k = 4 ∧ s = 671757 ∧ r = 0 ∧ i = 4
      · rw [if_pos h4]; obtain ⟨rfl, rfl, rfl, rfl⟩ := h4; rfl
      · rw [if_neg h4]
/-- the class's reader looks at the text -/
def z_rd4 (M : ux_M) (T : Nat → Int32) (N : Nat) : Prop := N ≤ 800 ∧ M 4 671757 0 1 = 1 ∧ M 4 671757 0 2 = nI N ∧ ∀ i, i < N → M 4 694529 0 i = T i
theorem z_10a (h : z_rd4 M T N) : ∀ n f i, i + n = N → n < f → (p_10_46 (z_rm M (nI (z_xn (z_xB T N) N i)) b c) → p_10_8 f (z_rm M (nI i) b c)) ∧ m_10_8 f (z_rm M (nI i) b c) = m_10_46 (z_rm M (nI (z_xn (z_xB T N) N i)) b c) := by
  obtain ⟨hN, h1, h2, hT⟩ := h
  intro n
  induction n with
  | zero =>
    intro f i hi hf
    obtain ⟨f, rfl⟩ : ∃ g, f = g + 1 := ⟨f - 1, by omega⟩
    have le : nI N ≤ nI i := (z_le (by omega) (by omega)).mpr (by omega)
    rw [p_10_8, m_10_8, z_rm_4, z_rm_2, h2, if_pos le, z_xn_o (show N ≤ i by omega)]
    exact ⟨fun q => ⟨fun _ => q, fun z => absurd le z⟩, rfl⟩
  | succ n ih =>
    intro f i hi hf
    obtain ⟨f, rfl⟩ : ∃ g, f = g + 1 := ⟨f - 1, by omega⟩
    have le : ¬ nI N ≤ nI i := fun z => by have := (z_le (by omega) (by omega)).mp z; omega
    have vi : vp_in (nI i) 800 := vp_in_nI (by omega) (by omega)
    rw [p_10_8, m_10_8, z_rm_4, z_rm_2, z_rm_1, h1, h2, if_neg le, z_cls (show i < 2000000000 by omega), z_rm_t, hT i (by omega), z_rm_s4, z_nx]
    by_cases q : T i = 32
    · obtain ⟨i1, i2⟩ := ih f (i + 1) (by omega) (by omega)
      have e : z_xB T N i = true := by unfold z_xB; simp only [q, show i < N by omega, decide_true, Bool.and_true]
      rw [if_pos q, z_xn_t (by omega) e]
      exact ⟨fun z => ⟨fun y => absurd y le, fun _ => ⟨rfl, vi, fun y => absurd q y, fun _ M3 e3 => by subst e3; exact i1 z⟩⟩, i2⟩
    · have e : ¬ z_xB T N i = true := by unfold z_xB; simp only [q, decide_false, Bool.and_false]; decide
      rw [if_neg q, z_xn_f e]
      exact ⟨fun z => ⟨fun y => absurd y le, fun _ => ⟨rfl, vi, fun _ => z, fun y => absurd y q⟩⟩, rfl⟩
theorem z_10b (h : z_rd4 M T N) : ∀ n f i, i + n = N → n < f → (p_10_123 (z_rm M a (nI (z_xn (z_xL T N) N i)) c) → p_10_71 f (z_rm M a (nI i) c)) ∧ m_10_71 f (z_rm M a (nI i) c) = m_10_123 (z_rm M a (nI (z_xn (z_xL T N) N i)) c) := by
  obtain ⟨hN, h1, h2, hT⟩ := h
  intro n
  induction n with
  | zero =>
    intro f i hi hf
    obtain ⟨f, rfl⟩ : ∃ g, f = g + 1 := ⟨f - 1, by omega⟩
    have le : nI N ≤ nI i := (z_le (by omega) (by omega)).mpr (by omega)
    rw [p_10_71, m_10_71, z_rm_5, z_rm_2, h2, if_pos le, z_xn_o (show N ≤ i by omega)]
    exact ⟨fun q => ⟨fun _ => q, fun z => absurd le z⟩, rfl⟩
  | succ n ih =>
    intro f i hi hf
    obtain ⟨f, rfl⟩ : ∃ g, f = g + 1 := ⟨f - 1, by omega⟩
    have le : ¬ nI N ≤ nI i := fun z => by have := (z_le (by omega) (by omega)).mp z; omega
    have vi : vp_in (nI i) 800 := vp_in_nI (by omega) (by omega)
    rw [p_10_71, m_10_71, z_rm_5, z_rm_2, z_rm_1, h1, h2, if_neg le, z_cls (show i < 2000000000 by omega), z_rm_t, hT i (by omega), z_rm_s5, z_nx]
    by_cases q1 : T i < 97
    · have e : ¬ z_xL T N i = true := by unfold z_xL; simp only [q1, decide_true, Bool.not_true, Bool.false_and, Bool.and_false]; decide
      rw [if_pos q1, z_xn_f e]
      exact ⟨fun z => ⟨fun y => absurd y le, fun _ => ⟨rfl, vi, fun _ => z, fun y => absurd q1 y⟩⟩, rfl⟩
    · by_cases q2 : (122 : Int32) < T i
      · have e : ¬ z_xL T N i = true := by unfold z_xL; simp only [q2, decide_true, Bool.not_true, Bool.and_false]; decide
        rw [if_neg q1, if_pos q2, z_xn_f e]
        exact ⟨fun z => ⟨fun y => absurd y le, fun _ => ⟨rfl, vi, fun y => absurd y q1, fun _ => ⟨rfl, vi, fun _ => z, fun y => absurd q2 y⟩⟩⟩, rfl⟩
      · obtain ⟨i1, i2⟩ := ih f (i + 1) (by omega) (by omega)
        have e : z_xL T N i = true := by unfold z_xL; simp only [q1, q2, show i < N by omega, decide_true, decide_false, Bool.not_false, Bool.and_true]
        rw [if_neg q1, if_neg q2, z_xn_t (by omega) e]
        exact ⟨fun z => ⟨fun y => absurd y le, fun _ => ⟨rfl, vi, fun y => absurd y q1, fun _ => ⟨rfl, vi, fun y => absurd y q2, fun _ M3 e3 => by subst e3; exact i1 z⟩⟩⟩, i2⟩
theorem z_10c (h : z_rd4 M T N) : ∀ n f i, i + n = N → n < f → (p_10_192 (z_rm M a (nI (z_xn (z_xD T N) N i)) c) → p_10_140 f (z_rm M a (nI i) c)) ∧ m_10_140 f (z_rm M a (nI i) c) = m_10_192 (z_rm M a (nI (z_xn (z_xD T N) N i)) c) := by
  obtain ⟨hN, h1, h2, hT⟩ := h
  intro n
  induction n with
  | zero =>
    intro f i hi hf
    obtain ⟨f, rfl⟩ : ∃ g, f = g + 1 := ⟨f - 1, by omega⟩
    have le : nI N ≤ nI i := (z_le (by omega) (by omega)).mpr (by omega)
    rw [p_10_140, m_10_140, z_rm_5, z_rm_2, h2, if_pos le, z_xn_o (show N ≤ i by omega)]
    exact ⟨fun q => ⟨fun _ => q, fun z => absurd le z⟩, rfl⟩
  | succ n ih =>
    intro f i hi hf
    obtain ⟨f, rfl⟩ : ∃ g, f = g + 1 := ⟨f - 1, by omega⟩
    have le : ¬ nI N ≤ nI i := fun z => by have := (z_le (by omega) (by omega)).mp z; omega
    have vi : vp_in (nI i) 800 := vp_in_nI (by omega) (by omega)
    rw [p_10_140, m_10_140, z_rm_5, z_rm_2, z_rm_1, h1, h2, if_neg le, z_cls (show i < 2000000000 by omega), z_rm_t, hT i (by omega), z_rm_s5, z_nx]
    by_cases q1 : T i < 48
    · have e : ¬ z_xD T N i = true := by unfold z_xD; simp only [q1, decide_true, Bool.not_true, Bool.false_and, Bool.and_false]; decide
      rw [if_pos q1, z_xn_f e]
      exact ⟨fun z => ⟨fun y => absurd y le, fun _ => ⟨rfl, vi, fun _ => z, fun y => absurd q1 y⟩⟩, rfl⟩
    · by_cases q2 : (57 : Int32) < T i
      · have e : ¬ z_xD T N i = true := by unfold z_xD; simp only [q2, decide_true, Bool.not_true, Bool.and_false]; decide
        rw [if_neg q1, if_pos q2, z_xn_f e]
        exact ⟨fun z => ⟨fun y => absurd y le, fun _ => ⟨rfl, vi, fun y => absurd y q1, fun _ => ⟨rfl, vi, fun _ => z, fun y => absurd q2 y⟩⟩⟩, rfl⟩
      · obtain ⟨i1, i2⟩ := ih f (i + 1) (by omega) (by omega)
        have e : z_xD T N i = true := by unfold z_xD; simp only [q1, q2, show i < N by omega, decide_true, decide_false, Bool.not_false, Bool.and_true]
        rw [if_neg q1, if_neg q2, z_xn_t (by omega) e]
        exact ⟨fun z => ⟨fun y => absurd y le, fun _ => ⟨rfl, vi, fun y => absurd y q1, fun _ => ⟨rfl, vi, fun y => absurd y q2, fun _ M3 e3 => by subst e3; exact i1 z⟩⟩⟩, i2⟩
theorem z_lrx (v : Int32) : v ≤ v := by rw [Int32.le_iff_toInt_le]; omega
/-- goOn: on from i -/
theorem z_goOn (h : z_rd4 M T N) (hi : i ≤ N) (h5 : M 4 671757 0 5 = nI i) : p_10 M ∧ m_10 M = z_rm M (nI (z_xn (z_xB T N) N i)) (nI (z_xe T N (z_xn (z_xB T N) N i))) (z_xp T N (z_xn (z_xB T N) N i)) := by
  have hN := h.1
  have hf := z_fuel
  obtain ⟨p, ep⟩ : ∃ p, p = z_xn (z_xB T N) N i := ⟨_, rfl⟩
  obtain ⟨g1, g2, _, _⟩ := z_xn_b (P := z_xB T N) (N := N) (N - i) i (by omega)
  obtain ⟨a1, a2⟩ := z_10a (b := nI i) (c := M 4 671757 0 3) h (N - i) ux_fuel i (by omega) (by omega)
  rw [← ep] at g1 g2 a1 a2 ⊢
  have e0 : ux_set M 4 671757 0 4 (nI i) = z_rm M (nI i) (nI i) (M 4 671757 0 3) := by
    have := z_rm_s4 (M := M) (a := M 4 671757 0 4) (b := M 4 671757 0 5) (c := M 4 671757 0 3) (v := nI i)
    rw [z_rm_self, h5] at this; exact this
  have last : p_10_46 (z_rm M (nI p) (nI i) (M 4 671757 0 3)) ∧ m_10_46 (z_rm M (nI p) (nI i) (M 4 671757 0 3)) = z_rm M (nI p) (nI (z_xe T N p)) (z_xp T N p) := by
    unfold p_10_46 m_10_46
    simp only [forall_eq, z_rm_4, z_rm_s5, z_rm_2, h.2.2.1]
    by_cases q : p < N
    · have q' : nI p < nI N := (z_lt (by omega) (by omega)).mpr q
      obtain ⟨b1, b2⟩ := z_10b (a := nI p) (c := M 4 671757 0 3) h (N - p) ux_fuel p (by omega) (by omega)
      obtain ⟨w1, w2, _, _⟩ := z_xn_b (P := z_xL T N) (N := N) (N - p) p (by omega)
      have nq : ¬ N ≤ p := by omega
      have key : p_10_123 (z_rm M (nI p) (nI (z_xn (z_xL T N) N p)) (M 4 671757 0 3)) ∧ m_10_123 (z_rm M (nI p) (nI (z_xn (z_xL T N) N p)) (M 4 671757 0 3)) = z_rm M (nI p) (nI (z_xe T N p)) (z_xp T N p) := by
        unfold p_10_123 m_10_123 z_xe z_xp
        rw [z_rm_4, z_rm_5, if_neg nq, if_neg nq]
        by_cases ql : z_xL T N p = true
        · have hw : p < z_xn (z_xL T N) N p := by
            have := (z_xn_b (P := z_xL T N) (N := N) (N - (p + 1)) (p + 1) (by omega)).1
            rw [z_xn_t q ql]; omega
          have nle : ¬ nI (z_xn (z_xL T N) N p) ≤ nI p := fun z => by have := (z_le (by omega) (by omega)).mp z; omega
          rw [if_neg nle, if_pos ql, if_pos ql]
          exact ⟨⟨fun z => absurd z nle, fun _ => trivial⟩, z_rm_s3⟩
        · rw [z_xn_f ql, if_neg ql, if_neg ql, if_pos (z_lrx _)]
          obtain ⟨c1, c2⟩ := z_10c (a := nI p) (c := M 4 671757 0 3) h (N - p) ux_fuel p (by omega) (by omega)
          obtain ⟨d1, d2, _, _⟩ := z_xn_b (P := z_xD T N) (N := N) (N - p) p (by omega)
          have k2 : p_10_192 (z_rm M (nI p) (nI (z_xn (z_xD T N) N p)) (M 4 671757 0 3)) ∧ m_10_192 (z_rm M (nI p) (nI (z_xn (z_xD T N) N p)) (M 4 671757 0 3)) = z_rm M (nI p) (nI (if z_xD T N p = true then z_xn (z_xD T N) N p else p + 1)) (if z_xD T N p = true then 2 else if T p = 59 then 3 else 4) := by
            unfold p_10_192 m_10_192
            rw [z_rm_4, z_rm_5, z_rm_1, z_rm_t, z_cls (show p < 2000000000 by omega), h.2.2.2 p q]
            by_cases qd : z_xD T N p = true
            · have hd : p < z_xn (z_xD T N) N p := by
                have := (z_xn_b (P := z_xD T N) (N := N) (N - (p + 1)) (p + 1) (by omega)).1
                rw [z_xn_t q qd]; omega
              have nle : ¬ nI (z_xn (z_xD T N) N p) ≤ nI p := fun z => by have := (z_le (by omega) (by omega)).mp z; omega
              rw [if_neg nle, if_pos qd, if_pos qd]
              exact ⟨⟨fun z => absurd z nle, fun _ => trivial⟩, z_rm_s3⟩
            · rw [z_xn_f qd, if_neg qd, if_neg qd, if_pos (z_lrx _)]
              refine ⟨⟨fun _ => ⟨h.2.1, vp_in_nI (by omega) (by omega)⟩, fun z => absurd (z_lrx _) z⟩, ?_⟩
              by_cases q9 : T p = 59
              · rw [if_pos q9, if_pos q9]
                show ux_set (ux_set (z_rm M (nI p) (nI p) (M 4 671757 0 3)) 4 671757 0 3 3) 4 671757 0 5 (ux_set (z_rm M (nI p) (nI p) (M 4 671757 0 3)) 4 671757 0 3 3 4 671757 0 5 + 1) = _
                rw [z_rm_s3, z_rm_5, z_rm_s5, z_nx]
              · rw [if_neg q9, if_neg q9]
                show ux_set (ux_set (z_rm M (nI p) (nI p) (M 4 671757 0 3)) 4 671757 0 3 4) 4 671757 0 5 (ux_set (z_rm M (nI p) (nI p) (M 4 671757 0 3)) 4 671757 0 3 4 4 671757 0 5 + 1) = _
                rw [z_rm_s3, z_rm_5, z_rm_s5, z_nx]
          exact ⟨⟨fun _ => c1 k2.1, fun z => absurd (z_lrx _) z⟩, c2.trans k2.2⟩
      rw [if_pos q']
      exact ⟨⟨fun _ => b1 key.1, fun z => absurd q' z⟩, b2.trans key.2⟩
    · have q' : ¬ nI p < nI N := fun z => q ((z_lt (by omega) (by omega)).mp z)
      unfold z_xe z_xp
      rw [if_neg q', if_pos (show N ≤ p by omega), if_pos (show N ≤ p by omega)]
      exact ⟨⟨fun z => absurd z q', fun _ => trivial⟩, z_rm_s3⟩
  unfold p_10 m_10
  rw [h5, e0]
  refine ⟨fun M1 e => ?_, a2.trans last.2⟩
  subst e; exact a1 last.1
end ZL1
