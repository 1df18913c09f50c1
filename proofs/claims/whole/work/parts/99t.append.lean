/-! append -/
section ZA9
variable {k c t B b u n n' s j N L : Nat} {M M' Z m m' : ux_M} {T T' : Nat → Int32} {x : Int64} {v w : Int32}
theorem z_and255 (y : Int64) : ∃ b : Nat, b ≤ 255 ∧ (y &&& Int64.ofNat 255).toInt = b := by
  refine ⟨(y &&& Int64.ofNat 255).toBitVec.toNat, ?_, ?_⟩
  · rw [Int64.toBitVec_and, BitVec.toNat_and]
    exact Nat.and_le_right (n := y.toBitVec.toNat) (m := 255)
  · have h : (y &&& Int64.ofNat 255).toBitVec.toNat ≤ 255 := by
      rw [Int64.toBitVec_and, BitVec.toNat_and]
      exact Nat.and_le_right (n := y.toBitVec.toNat) (m := 255)
    rw [← Int64.toInt_toBitVec, BitVec.toInt_eq_toNat_of_lt (by omega)]
/-- a byte of eight -/
def z_vb (x : Int64) (s : Int32) : Int64 := ((x).toUInt64 >>> ((s : Int32).toInt64.toUInt64 &&& Int64.toUInt64 63)).toInt64 &&& (Int64.ofNat 255)
theorem z_vb_b (x : Int64) (s : Int32) : ∃ b : Nat, b ≤ 255 ∧ (z_vb x s).toInt32 = nI b ∧ (lg_cmp (z_vb x s) (0 : Int32).toInt64 = 0 ↔ (z_vb x s).toInt32 = 0) := by
  obtain ⟨b, hb, e⟩ := z_and255 ((x.toUInt64 >>> (s.toInt64.toUInt64 &&& Int64.toUInt64 63)).toInt64)
  have e' : (z_vb x s).toInt = b := e
  have e3 : (z_vb x s).toInt32.toInt = b := by
    rw [Int64.toInt_toInt32, e']; exact Int.bmod_eq_of_le_mul_two (by omega) (by omega)
  have e2 : (z_vb x s).toInt32 = nI b := Int32.toInt_inj.mp (by rw [e3, nI_toInt (by omega)])
  have e0 : ((0 : Int32).toInt64).toInt = 0 := by decide
  have z : (0 : Int32).toInt = 0 := by decide
  refine ⟨b, hb, e2, ?_⟩
  unfold lg_cmp
  by_cases q : z_vb x s = (0 : Int32).toInt64
  · have b0 : (b : Int) = 0 := by rw [← e', q, e0]
    rw [if_neg (by rw [q, gt_iff_lt, Int64.lt_iff_toInt_lt]; omega), if_pos q]
    exact ⟨fun _ => Int32.toInt_inj.mp (by rw [e3, b0, z]), fun _ => rfl⟩
  · have b0 : ¬ (b : Int) = 0 := fun h => q (Int64.toInt_inj.mp (by rw [e', e0, h]))
    have : z_vb x s > (0 : Int32).toInt64 := by rw [gt_iff_lt, Int64.lt_iff_toInt_lt, e', e0]; omega
    rw [if_pos this]
    exact ⟨fun h => absurd h (by decide), fun h => absurd (by rw [← e3, h, z]) b0⟩
/-- n shifts are left -/
def z_s8 (n : Nat) : Int32 := match n with
  | 0 => -8
  | n + 1 => nI (8 * n)
theorem z_s8s (hn : n < 8) : ¬ z_s8 (n + 1) < 0 ∧ z_s8 (n + 1) + (-8) = z_s8 n := by
  have : n = 0 ∨ n = 1 ∨ n = 2 ∨ n = 3 ∨ n = 4 ∨ n = 5 ∨ n = 6 ∨ n = 7 := by omega
  rcases this with rfl | rfl | rfl | rfl | rfl | rfl | rfl | rfl <;> decide
theorem z_s80 : z_s8 0 < 0 := by decide
def z_bb (x : Int64) (n : Nat) : Int32 := (z_vb x (z_s8 (n + 1))).toInt32
/-- how many bytes; the length behind; the row behind -/
def z_aL (x : Int64) : Nat → Nat → Nat
  | 0, N => N
  | n + 1, N => if z_bb x n = 0 then z_aL x n N else z_aL x n (N + 1)
def z_aT (x : Int64) : Nat → Nat → (Nat → Int32) → Nat → Int32
  | 0, _, T => T
  | n + 1, N, T => if z_bb x n = 0 then z_aT x n N T else z_aT x n (N + 1) (z_up T N (z_bb x n))
theorem z_aL_le : ∀ n N, N ≤ z_aL x n N ∧ z_aL x n N ≤ N + n := by
  intro n
  induction n with
  | zero => intro N; exact ⟨Nat.le_refl _, Nat.le_refl _⟩
  | succ n ih =>
    intro N; unfold z_aL
    split
    · have := ih N; omega
    · have := ih (N + 1); omega
theorem z_aL_add : ∀ n N k, z_aL x n (N + k) = z_aL x n N + k := by
  intro n
  induction n with
  | zero => intro N k; rfl
  | succ n ih =>
    intro N k; unfold z_aL
    split
    · exact ih N k
    · rw [show N + k + 1 = N + 1 + k by omega]; exact ih (N + 1) k
theorem z_aT_ok : ∀ n N T T', (∀ i, i < N → T i = T' i ∧ ∃ b : Nat, 1 ≤ b ∧ b ≤ 255 ∧ T i = nI b) → ∀ i, i < z_aL x n N → z_aT x n N T i = z_aT x n N T' i ∧ ∃ b : Nat, 1 ≤ b ∧ b ≤ 255 ∧ z_aT x n N T i = nI b := by
  intro n
  induction n with
  | zero => intro N T T' h; exact h
  | succ n ih =>
    intro N T T' h
    unfold z_aL z_aT
    split
    · exact ih N T T' h
    · rename_i q
      refine ih (N + 1) _ _ (fun i hi => ?_)
      by_cases e : i = N
      · subst e
        rw [z_upe, z_upe]
        obtain ⟨b, hb, e2, _⟩ := z_vb_b x (z_s8 (n + 1))
        have e3 : z_bb x n = nI b := e2
        have b0 : ¬ b = 0 := fun z => q (by rw [e3, z]; rfl)
        exact ⟨rfl, b, by omega, hb, e3⟩
      · rw [z_upn e, z_upn e]; exact h i (by omega)
/-- one byte is laid down, the length is one more -/
theorem z_apn {k' s' : Nat} {v' : Int32} (hs : ¬ s = s') : ux_set (ux_set (ux_set (z_tt M k s T) k' s' 0 j v) k s 0 N w) k' s' 0 j v' = ux_set (z_tt M k s (z_up T N w)) k' s' 0 j v' := by
  funext a b c d
  rw [z_set, z_set (z_tt M k s (z_up T N w))]
  by_cases q : a = k' ∧ b = s' ∧ c = 0 ∧ d = j
  · rw [if_pos q, if_pos q]
  · rw [if_neg q, if_neg q, ← z_tt_set, z_set, z_set (z_tt M k s T), z_set, if_neg q]
theorem z_apr {k' s' : Nat} (hs : ¬ s' = s) : ux_set (z_tt M k s T) k' s' 0 j v k s 0 n = T n := by
  rw [z_so (fun z => hs z.symm), z_tt_g]
/-- the class lays the bytes down -/
theorem z_6b : ∀ n f N T, n ≤ 8 → n < f → z_aL x n N ≤ 800 → p_6_52 f x (z_s8 n) (ux_set (z_tt M 4 694529 T) 4 655365 0 1 (nI N)) ∧ r_6_52 f x (z_s8 n) (ux_set (z_tt M 4 694529 T) 4 655365 0 1 (nI N)) = nI (z_aL x n N) ∧ m_6_52 f x (z_s8 n) (ux_set (z_tt M 4 694529 T) 4 655365 0 1 (nI N)) = ux_set (z_tt M 4 694529 (z_aT x n N T)) 4 655365 0 1 (nI (z_aL x n N)) := by
  intro n
  induction n with
  | zero =>
    intro f N T hn hf hL
    obtain ⟨f, rfl⟩ : ∃ g, f = g + 1 := ⟨f - 1, by omega⟩
    rw [p_6_52, r_6_52, m_6_52, if_pos z_s80, if_pos z_s80]
    exact ⟨⟨fun _ => trivial, fun z => absurd z_s80 z⟩, z_ss, rfl⟩
  | succ n ih =>
    intro f N T hn hf hL
    obtain ⟨f, rfl⟩ : ∃ g, f = g + 1 := ⟨f - 1, by omega⟩
    obtain ⟨e1, e2⟩ := z_s8s (n := n) (by omega)
    have eb : (((x).toUInt64 >>> ((z_s8 (n + 1) : Int32).toInt64.toUInt64 &&& Int64.toUInt64 63)).toInt64 &&& (Int64.ofNat 255)).toInt32 = z_bb x n := rfl
    rw [p_6_52, r_6_52, m_6_52, if_neg e1, if_neg e1, e2, eb]
    by_cases q : z_bb x n = 0
    · have hL' : z_aL x n N ≤ 800 := by unfold z_aL at hL; rw [if_pos q] at hL; exact hL
      obtain ⟨i1, i2, i3⟩ := ih f N T (by omega) (by omega) hL'
      rw [if_pos q, if_pos q, z_aL, z_aT, if_pos q, if_pos q]
      exact ⟨⟨fun z => absurd z e1, fun _ => ⟨fun _ => i1, fun z => absurd q z⟩⟩, i2, i3⟩
    · have hL' : z_aL x n (N + 1) ≤ 800 := by unfold z_aL at hL; rw [if_neg q] at hL; exact hL
      have hN := (z_aL_le (x := x) n (N + 1)).1
      have h8 : ¬ (800 : Int32) ≤ nI N := fun z => by have := (z_le (a := 800) (by omega) (by omega)).mp z; omega
      obtain ⟨i1, i2, i3⟩ := ih f (N + 1) (z_up T N (z_bb x n)) (by omega) (by omega) hL'
      have g1 : ux_set (z_tt M 4 694529 T) 4 655365 0 1 (nI N) 4 655365 0 1 = nI N := z_ss
      have g2 : ∀ W : ux_M, ux_set W 4 694529 0 N (z_bb x n) 4 655365 0 1 = W 4 655365 0 1 := fun W => z_so (by decide)
      have eM : ux_set (ux_set (ux_set (z_tt M 4 694529 T) 4 655365 0 1 (nI N)) 4 694529 0 N (z_bb x n)) 4 655365 0 1 (nI (N + 1)) = ux_set (z_tt M 4 694529 (z_up T N (z_bb x n))) 4 655365 0 1 (nI (N + 1)) := z_apn (by decide)
      rw [if_neg q, if_neg q, z_aL, z_aT, if_neg q, if_neg q, g1, if_neg h8, if_neg h8, z_cls (show N < 2000000000 by omega)]
      simp only [forall_eq, g2, g1, z_nx, eM]
      exact ⟨⟨fun z => absurd z e1, fun _ => ⟨fun z => absurd z q, fun _ => ⟨fun z => absurd z h8, fun _ => ⟨vp_in_nI (by omega) (by omega), i1⟩⟩⟩⟩, i2, i3⟩
theorem z_6l : ∀ n f a, n ≤ 8 → n < f → (((if (M 4 655365 0 1 + nI (z_aL x n a) : Int32) ≤ 800 then p_6_52 ux_fuel x 56 M else True) → p_6_6 f x (nI a) (z_s8 n) M)) ∧ r_6_6 f x (nI a) (z_s8 n) M = (if (M 4 655365 0 1 + nI (z_aL x n a) : Int32) ≤ 800 then r_6_52 ux_fuel x 56 M else -2) ∧ m_6_6 f x (nI a) (z_s8 n) M = (if (M 4 655365 0 1 + nI (z_aL x n a) : Int32) ≤ 800 then m_6_52 ux_fuel x 56 M else M) := by
  intro n
  induction n with
  | zero =>
    intro f a hn hf
    obtain ⟨f, rfl⟩ : ∃ g, f = g + 1 := ⟨f - 1, by omega⟩
    rw [p_6_6, r_6_6, m_6_6, if_pos z_s80, if_pos z_s80]
    refine ⟨fun h => ⟨fun _ => ⟨fun q => ?_, fun _ => trivial⟩, fun z => absurd z_s80 z⟩, rfl, rfl⟩
    have h' : (if (M 4 655365 0 1 + nI a : Int32) ≤ 800 then p_6_52 ux_fuel x 56 M else True) := h
    rw [if_pos q] at h'; exact h'
  | succ n ih =>
    intro f a hn hf
    obtain ⟨f, rfl⟩ : ∃ g, f = g + 1 := ⟨f - 1, by omega⟩
    obtain ⟨e1, e2⟩ := z_s8s (n := n) (by omega)
    obtain ⟨b, _, _, e3⟩ := z_vb_b x (z_s8 (n + 1))
    have e4 : lg_cmp (((x).toUInt64 >>> ((z_s8 (n + 1) : Int32).toInt64.toUInt64 &&& Int64.toUInt64 63)).toInt64 &&& (Int64.ofNat 255)) (0 : Int32).toInt64 = 0 ↔ z_bb x n = 0 := e3
    rw [p_6_6, r_6_6, m_6_6, if_neg e1, if_neg e1, e2, z_nx]
    by_cases q : z_bb x n = 0
    · have q' := e4.mpr q
      obtain ⟨i1, i2, i3⟩ := ih f a (by omega) (by omega)
      rw [if_pos q', if_pos q', z_aL, if_pos q]
      exact ⟨fun h => ⟨fun z => absurd z e1, fun _ => ⟨fun _ => i1 h, fun z => absurd q' z⟩⟩, i2, i3⟩
    · have q' := fun z => q (e4.mp z)
      obtain ⟨i1, i2, i3⟩ := ih f (a + 1) (by omega) (by omega)
      rw [if_neg q', if_neg q', z_aL, if_neg q]
      exact ⟨fun h => ⟨fun z => absurd z e1, fun _ => ⟨fun z => absurd z q', fun _ => i1 h⟩⟩, i2, i3⟩
/-- the reference lays the bytes down -/
theorem z_147b : ∀ n f N T, n ≤ 8 → n < f → z_aL x n N ≤ 800 → p_147_62 f x (z_s8 n) (ux_set (z_tt M 5 940289 T) 5 819253 0 8 (nI N)) ∧ r_147_62 f x (z_s8 n) (ux_set (z_tt M 5 940289 T) 5 819253 0 8 (nI N)) = nI (z_aL x n N) ∧ m_147_62 f x (z_s8 n) (ux_set (z_tt M 5 940289 T) 5 819253 0 8 (nI N)) = ux_set (z_tt M 5 940289 (z_aT x n N T)) 5 819253 0 8 (nI (z_aL x n N)) := by
  intro n
  induction n with
  | zero =>
    intro f N T hn hf hL
    obtain ⟨f, rfl⟩ : ∃ g, f = g + 1 := ⟨f - 1, by omega⟩
    rw [p_147_62, r_147_62, m_147_62, if_pos z_s80, if_pos z_s80]
    exact ⟨⟨fun _ => trivial, fun z => absurd z_s80 z⟩, z_ss, rfl⟩
  | succ n ih =>
    intro f N T hn hf hL
    obtain ⟨f, rfl⟩ : ∃ g, f = g + 1 := ⟨f - 1, by omega⟩
    obtain ⟨e1, e2⟩ := z_s8s (n := n) (by omega)
    have eb : (((x).toUInt64 >>> ((z_s8 (n + 1) : Int32).toInt64.toUInt64 &&& Int64.toUInt64 63)).toInt64 &&& (Int64.ofNat 255)).toInt32 = z_bb x n := rfl
    rw [p_147_62, r_147_62, m_147_62, if_neg e1, if_neg e1, e2, eb]
    by_cases q : z_bb x n = 0
    · have hL' : z_aL x n N ≤ 800 := by unfold z_aL at hL; rw [if_pos q] at hL; exact hL
      obtain ⟨i1, i2, i3⟩ := ih f N T (by omega) (by omega) hL'
      rw [if_pos q, if_pos q, z_aL, z_aT, if_pos q, if_pos q]
      exact ⟨⟨fun z => absurd z e1, fun _ => ⟨fun z => absurd q z, fun _ => i1⟩⟩, i2, i3⟩
    · have hL' : z_aL x n (N + 1) ≤ 800 := by unfold z_aL at hL; rw [if_neg q] at hL; exact hL
      have hN := (z_aL_le (x := x) n (N + 1)).1
      obtain ⟨i1, i2, i3⟩ := ih f (N + 1) (z_up T N (z_bb x n)) (by omega) (by omega) hL'
      have g1 : ux_set (z_tt M 5 940289 T) 5 819253 0 8 (nI N) 5 819253 0 8 = nI N := z_ss
      have g2 : ∀ W : ux_M, ux_set W 5 940289 0 N (z_bb x n) 5 819253 0 8 = W 5 819253 0 8 := fun W => z_so (by decide)
      have eM : ux_set (ux_set (ux_set (z_tt M 5 940289 T) 5 819253 0 8 (nI N)) 5 940289 0 N (z_bb x n)) 5 819253 0 8 (nI (N + 1)) = ux_set (z_tt M 5 940289 (z_up T N (z_bb x n))) 5 819253 0 8 (nI (N + 1)) := z_apn (by decide)
      rw [if_neg q, if_neg q, z_aL, z_aT, if_neg q, if_neg q, g1, z_cls (show N < 2000000000 by omega)]
      simp only [forall_eq, g2, g1, z_nx, eM]
      exact ⟨⟨fun z => absurd z e1, fun _ => ⟨fun _ => ⟨vp_in_nI (by omega) (by omega), i1⟩, fun z => absurd z q⟩⟩, i2, i3⟩
theorem z_147l : ∀ n f a, n ≤ 8 → n < f → (((if (M 5 819253 0 8 + nI (z_aL x n a) : Int32) ≤ 800 then p_147_62 ux_fuel x 56 M else True) → p_147_11 f x (nI a) (z_s8 n) M)) ∧ r_147_11 f x (nI a) (z_s8 n) M = (if (M 5 819253 0 8 + nI (z_aL x n a) : Int32) ≤ 800 then r_147_62 ux_fuel x 56 M else -2) ∧ m_147_11 f x (nI a) (z_s8 n) M = (if (M 5 819253 0 8 + nI (z_aL x n a) : Int32) ≤ 800 then m_147_62 ux_fuel x 56 M else M) := by
  intro n
  induction n with
  | zero =>
    intro f a hn hf
    obtain ⟨f, rfl⟩ : ∃ g, f = g + 1 := ⟨f - 1, by omega⟩
    rw [p_147_11, r_147_11, m_147_11, if_pos z_s80, if_pos z_s80]
    refine ⟨fun h => ⟨fun _ => ⟨fun q => ?_, fun _ => trivial⟩, fun z => absurd z_s80 z⟩, rfl, rfl⟩
    have h' : (if (M 5 819253 0 8 + nI a : Int32) ≤ 800 then p_147_62 ux_fuel x 56 M else True) := h
    rw [if_pos q] at h'; exact h'
  | succ n ih =>
    intro f a hn hf
    obtain ⟨f, rfl⟩ : ∃ g, f = g + 1 := ⟨f - 1, by omega⟩
    obtain ⟨e1, e2⟩ := z_s8s (n := n) (by omega)
    obtain ⟨b, _, _, e3⟩ := z_vb_b x (z_s8 (n + 1))
    have e4 : lg_cmp (((x).toUInt64 >>> ((z_s8 (n + 1) : Int32).toInt64.toUInt64 &&& Int64.toUInt64 63)).toInt64 &&& (Int64.ofNat 255)) (0 : Int32).toInt64 = 0 ↔ z_bb x n = 0 := e3
    have e5 : nI a + (0 : Int32) = nI a := Int32.add_zero _
    rw [p_147_11, r_147_11, m_147_11, if_neg e1, if_neg e1, e2, z_nx, e5]
    by_cases q : z_bb x n = 0
    · have q' := e4.mpr q
      obtain ⟨i1, i2, i3⟩ := ih f a (by omega) (by omega)
      rw [if_pos q', if_pos q', z_aL, if_pos q]
      exact ⟨fun h => ⟨fun z => absurd z e1, fun _ => ⟨fun _ => i1 h, fun z => absurd q' z⟩⟩, i2, i3⟩
    · have q' := fun z => q (e4.mp z)
      obtain ⟨i1, i2, i3⟩ := ih f (a + 1) (by omega) (by omega)
      rw [if_neg q', if_neg q', z_aL, if_neg q]
      exact ⟨fun h => ⟨fun z => absurd z e1, fun _ => ⟨fun z => absurd z q', fun _ => i1 h⟩⟩, i2, i3⟩
theorem z_laid (h : M 4 655365 0 1 = v) : ux_set (z_tt M 4 694529 (M 4 694529 0)) 4 655365 0 1 v = M := by
  funext a b c d
  rw [z_set]
  by_cases q : a = 4 ∧ b = 655365 ∧ c = 0 ∧ d = 1
  · obtain ⟨rfl, rfl, rfl, rfl⟩ := q; rw [if_pos ⟨rfl, rfl, rfl, rfl⟩]; exact h.symm
  · rw [if_neg q, z_tt_self]
theorem z_laid5 (h : M 5 819253 0 8 = v) : ux_set (z_tt M 5 940289 (M 5 940289 0)) 5 819253 0 8 v = M := by
  funext a b c d
  rw [z_set]
  by_cases q : a = 5 ∧ b = 819253 ∧ c = 0 ∧ d = 8
  · obtain ⟨rfl, rfl, rfl, rfl⟩ := q; rw [if_pos ⟨rfl, rfl, rfl, rfl⟩]; exact h.symm
  · rw [if_neg q, z_tt_self]
/-- what both buffers hold is all that changes -/
theorem z_bufs (h : z_Q n M) (f : ∀ a s r i, ¬ (a = 4 ∧ s = 694529) → ¬ (a = 4 ∧ s = 655365 ∧ i = 1) → ¬ (a = 5 ∧ s = 940289) → ¬ (a = 5 ∧ s = 819253 ∧ (i = 6 ∨ i = 8)) → Z a s r i = M a s r i) (hb : z_BU Z) : z_Q (n + 1) Z := by
  obtain ⟨h1, h2, h3, h4, h5⟩ := h
  have hS : z_ST 0 (n + 1) Z Z := (h1.mono (by omega)).cg (fun s r i _ => f 0 s r i (by omega) (by omega) (by omega) (by omega)) (fun i => f 5 844257 0 i (by omega) (by omega) (by omega) (by omega))
  have he : Z 4 655365 0 2 = Z 5 819253 0 13 := (f 4 655365 0 2 (by omega) (by omega) (by omega) (by omega)).trans (h3.1.trans (f 5 819253 0 13 (by omega) (by omega) (by omega) (by omega)).symm)
  exact ⟨hS, hb, ⟨he, h3.2.rd (fun s r i _ => f 0 s r i (by omega) (by omega) (by omega) (by omega))⟩, h4.fr2 (by omega) (f 4 655365 0 (8 + 0) (by omega) (by omega) (by omega) (by omega)) (f 5 917522 0 0 (by omega) (by omega) (by omega) (by omega)) (fun s r i _ => f 2 s r i (by omega) (by omega) (by omega) (by omega)) (fun i => f 5 893409 0 i (by omega) (by omega) (by omega) (by omega)),
    h5.fr2 (by omega) (f 4 655365 0 (8 + 1) (by omega) (by omega) (by omega) (by omega)) (f 5 917522 0 1 (by omega) (by omega) (by omega) (by omega)) (fun s r i _ => f 3 s r i (by omega) (by omega) (by omega) (by omega)) (fun i => f 5 909793 0 i (by omega) (by omega) (by omega) (by omega))⟩
/-- append -/
theorem z_f_6 (h : z_Q n M) (x : Int64) : z_op n M (p_6 x) (r_6 x) (m_6 x) (p_147 x) (r_147 x) (m_147 x) := by
  obtain ⟨N, n0, n1, n2, n3⟩ := h.2.1
  have hf := z_fuel
  obtain ⟨a1, a2, a3⟩ := z_6l (M := M) (x := x) 8 ux_fuel 0 (by omega) (by omega)
  have eL : z_aL x 8 N = z_aL x 8 0 + N := by have := z_aL_add (x := x) 8 0 N; rw [Nat.zero_add] at this; exact this
  have l8 := (z_aL_le (x := x) 8 0).2
  have es : (56 : Int32) = z_s8 8 := rfl
  have e0 : (0 : Int32) = nI 0 := rfl
  have cond : ∀ v : Int32, v = nI N → ((v + nI (z_aL x 8 0) : Int32) ≤ 800 ↔ z_aL x 8 N ≤ 800) := fun v e => by
    rw [e, z_add, eL, Nat.add_comm]; exact z_le (b := 800) (by omega) (by omega)
  have mc : m_6 x M = (if (M 4 655365 0 1 + nI (z_aL x 8 0) : Int32) ≤ 800 then m_6_52 ux_fuel x 56 M else M) := a3
  have rc : r_6 x M = (if (M 4 655365 0 1 + nI (z_aL x 8 0) : Int32) ≤ 800 then r_6_52 ux_fuel x 56 M else -2) := a2
  by_cases q : z_aL x 8 N ≤ 800
  · have q1 := (cond _ n1).mpr q
    obtain ⟨b1, b2, b3⟩ := z_6b (M := M) (x := x) 8 ux_fuel N (M 4 694529 0) (by omega) (by omega) q
    rw [z_laid n1, ← es] at b1 b2 b3
    rw [if_pos q1] at mc rc a1
    obtain ⟨K, eK⟩ : ∃ K, K = m_6 x M := ⟨_, rfl⟩
    have eK2 : K = ux_set (z_tt M 4 694529 (z_aT x 8 N (M 4 694529 0))) 4 655365 0 1 (nI (z_aL x 8 N)) := eK.trans (mc.trans b3)
    have k5 : ∀ s r i, z_th K 0 5 s r i = z_th M 0 5 s r i := fun s r i => by
      rw [eK2]; unfold z_th; rw [z_set, z_set M]
      by_cases z : 5 = 5 ∧ s = 819253 ∧ r = 0 ∧ i = 6
      · rw [if_pos z, if_pos z]
      · rw [if_neg z, if_neg z, z_sk (by decide)]; unfold z_tt; rw [if_neg (by omega)]
    have l5 : z_th K 0 5 819253 0 8 = nI N := (k5 _ _ _).trans (by unfold z_th; rw [z_si (by decide)]; exact n2)
    have r5 : z_th K 0 5 940289 0 = M 5 940289 0 := by
      funext i; rw [k5]; unfold z_th; rw [z_so (by decide)]
    obtain ⟨c1, c2, c3⟩ := z_147l (M := z_th K 0) (x := x) 8 ux_fuel 0 (by omega) (by omega)
    have q2 := (cond _ l5).mpr q
    obtain ⟨d1, d2, d3⟩ := z_147b (M := z_th K 0) (x := x) 8 ux_fuel N (z_th K 0 5 940289 0) (by omega) (by omega) q
    rw [z_laid5 l5, ← es] at d1 d2 d3
    rw [if_pos q2] at c1 c2 c3
    have pr : p_147_11 ux_fuel x 0 56 (z_th K 0) := c1 d1
    have rr : r_147 x K = nI (z_aL x 8 N) := c2.trans d2
    have mr : m_147 x K = ux_set (z_tt (z_th K 0) 5 940289 (z_aT x 8 N (M 5 940289 0))) 5 819253 0 8 (nI (z_aL x 8 N)) := by rw [← r5]; exact c3.trans d3
    have ok := z_aT_ok (x := x) 8 N (M 4 694529 0) (M 5 940289 0) n3
    unfold z_op
    rw [← eK]
    refine ⟨a1 b1, ?_, ?_, ?_, ?_⟩
    · unfold p_147; intro M1 e; subst e; exact pr
    · rw [rr]; exact rc.trans b2
    · rw [mr, z_si (by decide), z_tt_o (by decide)]; exact z_th6
    · rw [mr]
      refine z_bufs h (fun a s r i q1 q2 q3 q4 => ?_) ⟨z_aL x 8 N, q, ?_, z_ss, fun i hi => ?_⟩
      · rw [z_set, if_neg (fun z => q4 ⟨z.1, z.2.1, .inr z.2.2.2⟩)]
        unfold z_tt z_th
        rw [if_neg (fun z => q3 ⟨z.1, z.2.1⟩), z_set, if_neg (fun z => q4 ⟨z.1, z.2.1, .inl z.2.2.2⟩), eK2, z_set, if_neg (fun z => q2 ⟨z.1, z.2.1, z.2.2.2⟩)]
        unfold z_tt
        rw [if_neg (fun z => q1 ⟨z.1, z.2.1⟩)]
      · rw [z_sk (by decide), z_tt_o (by decide), z_thK (by decide), eK2]; exact z_ss
      · have e4 : ux_set (z_tt (z_th K 0) 5 940289 (z_aT x 8 N (M 5 940289 0))) 5 819253 0 8 (nI (z_aL x 8 N)) 4 694529 0 i = z_aT x 8 N (M 4 694529 0) i := by
          rw [z_sk (by decide), z_tt_o (by decide), z_thK (by decide), eK2, z_so (by decide), z_tt_g]
        have e5 : ux_set (z_tt (z_th K 0) 5 940289 (z_aT x 8 N (M 5 940289 0))) 5 819253 0 8 (nI (z_aL x 8 N)) 5 940289 0 i = z_aT x 8 N (M 5 940289 0) i := by
          rw [z_so (by decide), z_tt_g]
        rw [e4, e5]; exact ok i hi
  · have q1 := fun z => q ((cond _ n1).mp z)
    rw [if_neg q1] at mc rc a1
    have l5 : z_th M 0 5 819253 0 8 = nI N := by unfold z_th; rw [z_si (by decide)]; exact n2
    obtain ⟨c1, c2, c3⟩ := z_147l (M := z_th M 0) (x := x) 8 ux_fuel 0 (by omega) (by omega)
    have q2 := fun z => q ((cond _ l5).mp z)
    rw [if_neg q2] at c1 c2 c3
    have pr : p_147_11 ux_fuel x 0 56 (z_th M 0) := c1 trivial
    have rr : r_147 x M = -2 := c2
    have mr : m_147 x M = z_th M 0 := c3
    unfold z_op
    rw [mc]
    refine ⟨a1 trivial, ?_, ?_, ?_, ?_⟩
    · unfold p_147; intro M1 e; subst e; exact pr
    · rw [rr]; exact rc
    · rw [mr]; exact z_th6
    · rw [mr]; exact h.th 0
end ZA9
