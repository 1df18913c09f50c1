/-! bits (the first family of BITS.to-paste), numbers, the view of the reference's row; by wip/whole/gen50.py -/
def bt (x : Int32) (i : Nat) : Bool := x.toBitVec.getLsbD i
theorem b_ext {x y : Int32} (h : ∀ i, i < 32 → bt x i = bt y i) : x = y := Int32.toBitVec_inj.mp (BitVec.eq_of_getLsbD_eq (fun i hi => h i hi))
theorem b_or (x y : Int32) (i : Nat) : bt (x ||| y) i = (bt x i || bt y i) := by unfold bt; rw [Int32.toBitVec_or, BitVec.getLsbD_or]
theorem b_and (x y : Int32) (i : Nat) : bt (x &&& y) i = (bt x i && bt y i) := by unfold bt; rw [Int32.toBitVec_and, BitVec.getLsbD_and]
theorem b_xor (x y : Int32) (i : Nat) : bt (x ^^^ y) i = (bt x i ^^ bt y i) := by unfold bt; rw [Int32.toBitVec_xor, BitVec.getLsbD_xor]
theorem b_big {x : Int32} {i : Nat} (h : 32 ≤ i) : bt x i = false := BitVec.getLsbD_of_ge _ _ h
theorem b_255 (i : Nat) : bt 255 i = decide (i < 8) := by
  rcases Nat.lt_or_ge i 32 with h | h
  · exact (by decide +kernel : ∀ i, i < 32 → bt 255 i = decide (i < 8)) i h
  · rw [b_big h, decide_eq_false (by omega)]
theorem b_65535 (i : Nat) : bt 65535 i = decide (i < 16) := by
  rcases Nat.lt_or_ge i 32 with h | h
  · exact (by decide +kernel : ∀ i, i < 32 → bt 65535 i = decide (i < 16)) i h
  · rw [b_big h, decide_eq_false (by omega)]
theorem b_m1 : ∀ i, i < 32 → bt (-1) i = true := by decide +kernel
theorem b_0 (i : Nat) : bt 0 i = false := BitVec.getLsbD_zero
theorem s_l : ∀ n, n < 32 → ((nI n &&& 31).toBitVec.smod 32).toNat = n := by decide +kernel
theorem s_u : ∀ n, n < 32 → (((nI n).toUInt32 &&& Int32.toUInt32 31).toBitVec % 32).toNat = n := by decide +kernel
theorem b_shl (n : Nat) (hn : n < 32) (x : Int32) {i : Nat} (hi : i < 32) : bt (x <<< (nI n &&& 31)) i = (decide (n ≤ i) && bt x (i - n)) := by
  unfold bt
  rw [Int32.toBitVec_shiftLeft]
  show (x.toBitVec <<< ((nI n &&& 31).toBitVec.smod 32).toNat).getLsbD i = _
  rw [s_l n hn, BitVec.getLsbD_shiftLeft]
  rcases Nat.lt_or_ge i n with h | h
  · simp [h, Nat.not_le.mpr h]
  · simp [hi, h, Nat.not_lt.mpr h]
theorem b_ushr (n : Nat) (hn : n < 32) (x : Int32) (i : Nat) : bt ((x.toUInt32 >>> ((nI n).toUInt32 &&& Int32.toUInt32 31)).toInt32) i = bt x (n + i) := by
  show (x.toUInt32 >>> ((nI n).toUInt32 &&& Int32.toUInt32 31)).toBitVec.getLsbD i = x.toUInt32.toBitVec.getLsbD (n + i)
  rw [UInt32.toBitVec_shiftRight]
  show (x.toUInt32.toBitVec >>> (((nI n).toUInt32 &&& Int32.toUInt32 31).toBitVec % 32).toNat).getLsbD i = _
  rw [s_u n hn, BitVec.getLsbD_ushiftRight]
theorem b_sshr (n : Nat) (hn : n < 32) (x : Int32) {i : Nat} (hi : i < 32) : bt (x >>> (nI n &&& 31)) i = if n + i < 32 then bt x (n + i) else bt x 31 := by
  unfold bt
  rw [Int32.toBitVec_shiftRight]
  show (x.toBitVec.sshiftRight ((nI n &&& 31).toBitVec.smod 32).toNat).getLsbD i = _
  rw [s_l n hn, BitVec.getLsbD_sshiftRight, BitVec.msb_eq_getLsbD_last]
  simp [hi]
theorem z_m1 {i : Nat} (h : i < 32) : bt (-1) i = true := b_m1 i h
theorem z_not (x : Int32) {i : Nat} (h : i < 32) : bt (x ^^^ ((-1) : Int32)) i = !(bt x i) := by rw [b_xor, b_m1 i h]; simp
theorem z_b1 : ∀ i, i < 32 → bt 1 i = decide (i = 0) := by decide +kernel
theorem z_bit {u : Nat} (hu : u < 32) {i : Nat} (hi : i < 32) : bt ((1 : Int32) <<< (nI u &&& 31)) i = decide (i = u) := by
  rw [b_shl u hu 1 hi]
  rcases Nat.lt_or_ge i u with h | h
  · simp [Nat.not_le.mpr h]; omega
  · rw [z_b1 (i - u) (by omega)]; simp [h]; omega
theorem z_nz {x : Int32} : x = 0 ↔ ∀ i, i < 32 → bt x i = false := ⟨fun h i _ => by rw [h, b_0], fun h => b_ext (fun i hi => by rw [h i hi, b_0])⟩
theorem z_andb (x : Int32) {u : Nat} (hu : u < 32) : (x &&& ((1 : Int32) <<< (nI u &&& 31))) = 0 ↔ bt x u = false := by
  rw [z_nz]
  constructor
  · intro h; have := h u hu; rw [b_and, z_bit hu hu] at this; simpa using this
  · intro h i hi
    rw [b_and, z_bit hu hi]
    by_cases e : i = u
    · subst e; simp [h]
    · simp [e]
theorem z_shr (x : Int32) {u : Nat} (hu : u < 32) : ((x >>> (nI u &&& 31)) &&& (1 : Int32)) = 0 ↔ bt x u = false := by
  rw [z_nz]
  constructor
  · intro h; have := h 0 (by omega); rw [b_and, b_sshr u hu x (by omega), z_b1 0 (by omega)] at this; simpa [hu] using this
  · intro h i hi
    rw [b_and, z_b1 i hi]
    by_cases e : i = 0
    · subst e; rw [b_sshr u hu x (by omega)]; simp [hu, h]
    · simp [e]
theorem z_shr01 (x : Int32) {u : Nat} (hu : u < 32) : ((x >>> (nI u &&& 31)) &&& (1 : Int32)) = if bt x u then 1 else 0 := by
  apply b_ext
  intro i hi
  rw [b_and, z_b1 i hi]
  by_cases e : i = 0
  · subst e; rw [b_sshr u hu x (by omega)]; simp only [Nat.add_zero, hu, if_true, decide_true, Bool.and_true]
    cases h : bt x u <;> decide +kernel
  · simp only [e, decide_false, Bool.and_false]
    cases h : bt x u
    · exact (b_0 i).symm
    · exact ((z_b1 i hi).trans (by simp [e])).symm
theorem z_shr1 (x : Int32) {u : Nat} (hu : u < 32) : ((x >>> (nI u &&& 31)) &&& (1 : Int32)) = 1 ↔ bt x u = true := by
  rw [z_shr01 x hu]; cases bt x u <;> decide
theorem z_10 : ¬ (1 : Int32) = 0 := by decide
theorem z_01 : ¬ (0 : Int32) = 1 := by decide
theorem z_cl {u : Nat} (h : u < 16) : (nI u).toNatClampNeg = u := nI_clamp (by omega)
theorem z_cls {u : Nat} (h : u < 2000000000) : (nI u).toNatClampNeg = u := nI_clamp (by omega)
theorem z_in {u n : Nat} (h : u < n) (hn : n < 2000000) : vp_in (nI u) n := vp_in_nI h (by omega)
theorem z_i16 {u : Nat} (h : u < 16) : vp_in (nI u) 16 := vp_in_nI h (by omega)
theorem z_nx (u : Nat) : nI u + (1 : Int32) = nI (u + 1) := nI_1 u
theorem z_le {a b : Nat} (ha : a < 2000000000) (hb : b < 2000000000) : nI a ≤ nI b ↔ a ≤ b := nI_leI (by omega) (by omega)
theorem z_lt {a b : Nat} (ha : a < 2000000000) (hb : b < 2000000000) : nI a < nI b ↔ a < b := nI_ltI (by omega) (by omega)
theorem z_eq {a b : Nat} (ha : a < 2000000000) (hb : b < 2000000000) : nI a = nI b ↔ a = b := nI_eq (by omega) (by omega)
theorem z_fuel : 2000 < ux_fuel := by rw [ux_fuel_eq]; omega
theorem z_f1 {n : Nat} (h : n < ux_fuel) : ∃ f, ux_fuel = f + 1 ∧ n ≤ f := ⟨ux_fuel - 1, by omega, by omega⟩
/-! memories -/
theorem z_set (M : ux_M) (k s r i : Nat) (v : Int32) (a b c d : Nat) : ux_set M k s r i v a b c d = if a = k ∧ b = s ∧ c = r ∧ d = i then v else M a b c d := rfl
theorem z_ss {M : ux_M} {k s r i : Nat} {v : Int32} : ux_set M k s r i v k s r i = v := by rw [z_set, if_pos ⟨rfl, rfl, rfl, rfl⟩]
theorem z_sk {M : ux_M} {k s r i a b c d : Nat} {v : Int32} (h : ¬ a = k) : ux_set M k s r i v a b c d = M a b c d := by rw [z_set, if_neg (fun q => h q.1)]
theorem z_so {M : ux_M} {k s r i a b c d : Nat} {v : Int32} (h : ¬ b = s) : ux_set M k s r i v a b c d = M a b c d := by rw [z_set, if_neg (fun q => h q.2.1)]
theorem z_si {M : ux_M} {k s r i a b c d : Nat} {v : Int32} (h : ¬ d = i) : ux_set M k s r i v a b c d = M a b c d := by rw [z_set, if_neg (fun q => h q.2.2.2)]
/-- an attribute of a unit in the reference's row, and writing it -/
def z_Y (m : ux_M) (a u : Nat) : Int32 := m 5 844257 0 (188 + 56 * u + a)
def z_P (m : ux_M) (a u : Nat) (v : Int32) : ux_M := ux_set m 5 844257 0 (188 + 56 * u + a) v
theorem z_YP (m : ux_M) {a b : Nat} (u w : Nat) (v : Int32) (ha : a < 56) (hb : b < 56) : z_Y (z_P m a u v) b w = if b = a ∧ w = u then v else z_Y m b w := by
  unfold z_Y z_P
  rw [z_set]
  by_cases h : b = a ∧ w = u
  · rw [if_pos h, if_pos ⟨rfl, rfl, rfl, by rw [h.1, h.2]⟩]
  · rw [if_neg h, if_neg (fun q => h (by omega))]
theorem z_Yc (m : ux_M) (a u : Nat) (v : Int32) {k s r i : Nat} (h : ¬ k = 5 ∨ ¬ s = 844257 ∨ i < 188) : z_P m a u v k s r i = m k s r i := by
  unfold z_P; rw [z_set, if_neg (fun q => by omega)]
theorem z_PY (m : ux_M) {k s r i : Nat} (v : Int32) (a u : Nat) (h : ¬ k = 5 ∨ ¬ s = 844257 ∨ i < 188) : z_Y (ux_set m k s r i v) a u = z_Y m a u := by
  unfold z_Y; rw [z_set, if_neg (fun q => by omega)]
theorem z_ix (a u : Nat) (ha : a < 56) (h : u < 16) : (((188 : Int32) + ((56 : Int32) * nI u)) + nI a).toNatClampNeg = 188 + 56 * u + a := by
  have e : ((188 : Int32) + ((56 : Int32) * nI u)) + nI a = nI (188 + 56 * u + a) := by
    show (Int32.ofNat 188 + Int32.ofNat 56 * Int32.ofNat u) + Int32.ofNat a = Int32.ofNat _
    rw [← Int32.ofNat_mul, ← Int32.ofNat_add, ← Int32.ofNat_add]
  rw [e, nI_clamp (by omega)]
theorem z_iv (a u : Nat) (ha : a < 56) (h : u < 16) : vp_in (((188 : Int32) + ((56 : Int32) * nI u)) + nI a) 1084 := by
  have e : ((188 : Int32) + ((56 : Int32) * nI u)) + nI a = nI (188 + 56 * u + a) := by
    show (Int32.ofNat 188 + Int32.ofNat 56 * Int32.ofNat u) + Int32.ofNat a = Int32.ofNat _
    rw [← Int32.ofNat_mul, ← Int32.ofNat_add, ← Int32.ofNat_add]
  rw [e]; exact vp_in_nI (by omega) (by omega)
theorem z_of (m : ux_M) (a u : Nat) (ha : a < 56) (h : u < 16) : ux_of m (nI u) (nI a) = z_Y m a u := by unfold ux_of z_Y; rw [z_ix a u ha h]
theorem z_pu (m : ux_M) (a u : Nat) (v : Int32) (ha : a < 56) (h : u < 16) : ux_put m (nI u) (nI a) v = z_P m a u v := by unfold ux_put z_P; rw [z_ix a u ha h]
theorem z_uu (a u : Nat) (ha : a < 56) (h : u < 16) : ux_u (nI u) (nI a) := z_iv a u ha h
theorem z_w0 (m : ux_M) : m 5 844257 0 (0 : Int32).toNatClampNeg = m 5 844257 0 0 := rfl
theorem z_c0 : (0 : Int32).toNatClampNeg = 0 := nI_clamp (n := 0) (by omega)
theorem z_c1 : (1 : Int32).toNatClampNeg = 1 := nI_clamp (n := 1) (by omega)
theorem z_c2 : (2 : Int32).toNatClampNeg = 2 := nI_clamp (n := 2) (by omega)
theorem z_c3 : (3 : Int32).toNatClampNeg = 3 := nI_clamp (n := 3) (by omega)
theorem z_c4 : (4 : Int32).toNatClampNeg = 4 := nI_clamp (n := 4) (by omega)
theorem z_c5 : (5 : Int32).toNatClampNeg = 5 := nI_clamp (n := 5) (by omega)
theorem z_v0 : vp_in 0 1084 := vp_in_nI (n := 0) (by omega) (by omega)
theorem z_v1 : vp_in 1 1084 := vp_in_nI (n := 1) (by omega) (by omega)
theorem z_v2 : vp_in 2 1084 := vp_in_nI (n := 2) (by omega) (by omega)
theorem z_r0 : vp_in 0 6 := vp_in_nI (n := 0) (by omega) (by omega)
theorem z_r1 : vp_in 1 6 := vp_in_nI (n := 1) (by omega) (by omega)
theorem z_r2 : vp_in 2 6 := vp_in_nI (n := 2) (by omega) (by omega)
theorem z_r3 : vp_in 3 6 := vp_in_nI (n := 3) (by omega) (by omega)
theorem z_r4 : vp_in 4 6 := vp_in_nI (n := 4) (by omega) (by omega)
theorem z_r5 : vp_in 5 6 := vp_in_nI (n := 5) (by omega) (by omega)
theorem z_k0 : vp_in 0 4 := vp_in_nI (n := 0) (by omega) (by omega)
theorem z_k1 : vp_in 1 4 := vp_in_nI (n := 1) (by omega) (by omega)
theorem z_k2 : vp_in 2 4 := vp_in_nI (n := 2) (by omega) (by omega)
theorem z_k3 : vp_in 3 4 := vp_in_nI (n := 3) (by omega) (by omega)
theorem of0 (m : ux_M) {u : Nat} (h : u < 16) : ux_of m (nI u) 0 = z_Y m 0 u := z_of m 0 u (by omega) h
theorem uu0 {u : Nat} (h : u < 16) : ux_u (nI u) 0 := z_uu 0 u (by omega) h
theorem of1 (m : ux_M) {u : Nat} (h : u < 16) : ux_of m (nI u) 1 = z_Y m 1 u := z_of m 1 u (by omega) h
theorem uu1 {u : Nat} (h : u < 16) : ux_u (nI u) 1 := z_uu 1 u (by omega) h
theorem of2 (m : ux_M) {u : Nat} (h : u < 16) : ux_of m (nI u) 2 = z_Y m 2 u := z_of m 2 u (by omega) h
theorem uu2 {u : Nat} (h : u < 16) : ux_u (nI u) 2 := z_uu 2 u (by omega) h
theorem of3 (m : ux_M) {u : Nat} (h : u < 16) : ux_of m (nI u) 3 = z_Y m 3 u := z_of m 3 u (by omega) h
theorem uu3 {u : Nat} (h : u < 16) : ux_u (nI u) 3 := z_uu 3 u (by omega) h
theorem of4 (m : ux_M) {u : Nat} (h : u < 16) : ux_of m (nI u) 4 = z_Y m 4 u := z_of m 4 u (by omega) h
theorem uu4 {u : Nat} (h : u < 16) : ux_u (nI u) 4 := z_uu 4 u (by omega) h
theorem of5 (m : ux_M) {u : Nat} (h : u < 16) : ux_of m (nI u) 5 = z_Y m 5 u := z_of m 5 u (by omega) h
theorem uu5 {u : Nat} (h : u < 16) : ux_u (nI u) 5 := z_uu 5 u (by omega) h
theorem of6 (m : ux_M) {u : Nat} (h : u < 16) : ux_of m (nI u) 6 = z_Y m 6 u := z_of m 6 u (by omega) h
theorem uu6 {u : Nat} (h : u < 16) : ux_u (nI u) 6 := z_uu 6 u (by omega) h
theorem of7 (m : ux_M) {u : Nat} (h : u < 16) : ux_of m (nI u) 7 = z_Y m 7 u := z_of m 7 u (by omega) h
theorem uu7 {u : Nat} (h : u < 16) : ux_u (nI u) 7 := z_uu 7 u (by omega) h
theorem of8 (m : ux_M) {u : Nat} (h : u < 16) : ux_of m (nI u) 8 = z_Y m 8 u := z_of m 8 u (by omega) h
theorem uu8 {u : Nat} (h : u < 16) : ux_u (nI u) 8 := z_uu 8 u (by omega) h
theorem of9 (m : ux_M) {u : Nat} (h : u < 16) : ux_of m (nI u) 9 = z_Y m 9 u := z_of m 9 u (by omega) h
theorem uu9 {u : Nat} (h : u < 16) : ux_u (nI u) 9 := z_uu 9 u (by omega) h
theorem of10 (m : ux_M) {u : Nat} (h : u < 16) : ux_of m (nI u) 10 = z_Y m 10 u := z_of m 10 u (by omega) h
theorem uu10 {u : Nat} (h : u < 16) : ux_u (nI u) 10 := z_uu 10 u (by omega) h
theorem of11 (m : ux_M) {u : Nat} (h : u < 16) : ux_of m (nI u) 11 = z_Y m 11 u := z_of m 11 u (by omega) h
theorem uu11 {u : Nat} (h : u < 16) : ux_u (nI u) 11 := z_uu 11 u (by omega) h
theorem of12 (m : ux_M) {u : Nat} (h : u < 16) : ux_of m (nI u) 12 = z_Y m 12 u := z_of m 12 u (by omega) h
theorem uu12 {u : Nat} (h : u < 16) : ux_u (nI u) 12 := z_uu 12 u (by omega) h
theorem of13 (m : ux_M) {u : Nat} (h : u < 16) : ux_of m (nI u) 13 = z_Y m 13 u := z_of m 13 u (by omega) h
theorem uu13 {u : Nat} (h : u < 16) : ux_u (nI u) 13 := z_uu 13 u (by omega) h
theorem of14 (m : ux_M) {u : Nat} (h : u < 16) : ux_of m (nI u) 14 = z_Y m 14 u := z_of m 14 u (by omega) h
theorem uu14 {u : Nat} (h : u < 16) : ux_u (nI u) 14 := z_uu 14 u (by omega) h
theorem of15 (m : ux_M) {u : Nat} (h : u < 16) : ux_of m (nI u) 15 = z_Y m 15 u := z_of m 15 u (by omega) h
theorem uu15 {u : Nat} (h : u < 16) : ux_u (nI u) 15 := z_uu 15 u (by omega) h
theorem of16 (m : ux_M) {u : Nat} (h : u < 16) : ux_of m (nI u) 16 = z_Y m 16 u := z_of m 16 u (by omega) h
theorem uu16 {u : Nat} (h : u < 16) : ux_u (nI u) 16 := z_uu 16 u (by omega) h
theorem of17 (m : ux_M) {u : Nat} (h : u < 16) : ux_of m (nI u) 17 = z_Y m 17 u := z_of m 17 u (by omega) h
theorem uu17 {u : Nat} (h : u < 16) : ux_u (nI u) 17 := z_uu 17 u (by omega) h
theorem of18 (m : ux_M) {u : Nat} (h : u < 16) : ux_of m (nI u) 18 = z_Y m 18 u := z_of m 18 u (by omega) h
theorem uu18 {u : Nat} (h : u < 16) : ux_u (nI u) 18 := z_uu 18 u (by omega) h
theorem of19 (m : ux_M) {u : Nat} (h : u < 16) : ux_of m (nI u) 19 = z_Y m 19 u := z_of m 19 u (by omega) h
theorem uu19 {u : Nat} (h : u < 16) : ux_u (nI u) 19 := z_uu 19 u (by omega) h
theorem of20 (m : ux_M) {u : Nat} (h : u < 16) : ux_of m (nI u) 20 = z_Y m 20 u := z_of m 20 u (by omega) h
theorem uu20 {u : Nat} (h : u < 16) : ux_u (nI u) 20 := z_uu 20 u (by omega) h
theorem of21 (m : ux_M) {u : Nat} (h : u < 16) : ux_of m (nI u) 21 = z_Y m 21 u := z_of m 21 u (by omega) h
theorem uu21 {u : Nat} (h : u < 16) : ux_u (nI u) 21 := z_uu 21 u (by omega) h
theorem of22 (m : ux_M) {u : Nat} (h : u < 16) : ux_of m (nI u) 22 = z_Y m 22 u := z_of m 22 u (by omega) h
theorem uu22 {u : Nat} (h : u < 16) : ux_u (nI u) 22 := z_uu 22 u (by omega) h
theorem of23 (m : ux_M) {u : Nat} (h : u < 16) : ux_of m (nI u) 23 = z_Y m 23 u := z_of m 23 u (by omega) h
theorem uu23 {u : Nat} (h : u < 16) : ux_u (nI u) 23 := z_uu 23 u (by omega) h
theorem of24 (m : ux_M) {u : Nat} (h : u < 16) : ux_of m (nI u) 24 = z_Y m 24 u := z_of m 24 u (by omega) h
theorem uu24 {u : Nat} (h : u < 16) : ux_u (nI u) 24 := z_uu 24 u (by omega) h
theorem of25 (m : ux_M) {u : Nat} (h : u < 16) : ux_of m (nI u) 25 = z_Y m 25 u := z_of m 25 u (by omega) h
theorem uu25 {u : Nat} (h : u < 16) : ux_u (nI u) 25 := z_uu 25 u (by omega) h
theorem of26 (m : ux_M) {u : Nat} (h : u < 16) : ux_of m (nI u) 26 = z_Y m 26 u := z_of m 26 u (by omega) h
theorem uu26 {u : Nat} (h : u < 16) : ux_u (nI u) 26 := z_uu 26 u (by omega) h
theorem of27 (m : ux_M) {u : Nat} (h : u < 16) : ux_of m (nI u) 27 = z_Y m 27 u := z_of m 27 u (by omega) h
theorem uu27 {u : Nat} (h : u < 16) : ux_u (nI u) 27 := z_uu 27 u (by omega) h
theorem of28 (m : ux_M) {u : Nat} (h : u < 16) : ux_of m (nI u) 28 = z_Y m 28 u := z_of m 28 u (by omega) h
theorem pu28 (m : ux_M) {u : Nat} (v : Int32) (h : u < 16) : ux_put m (nI u) 28 v = z_P m 28 u v := z_pu m 28 u v (by omega) h
theorem uu28 {u : Nat} (h : u < 16) : ux_u (nI u) 28 := z_uu 28 u (by omega) h
theorem of29 (m : ux_M) {u : Nat} (h : u < 16) : ux_of m (nI u) 29 = z_Y m 29 u := z_of m 29 u (by omega) h
theorem pu29 (m : ux_M) {u : Nat} (v : Int32) (h : u < 16) : ux_put m (nI u) 29 v = z_P m 29 u v := z_pu m 29 u v (by omega) h
theorem uu29 {u : Nat} (h : u < 16) : ux_u (nI u) 29 := z_uu 29 u (by omega) h
theorem of30 (m : ux_M) {u : Nat} (h : u < 16) : ux_of m (nI u) 30 = z_Y m 30 u := z_of m 30 u (by omega) h
theorem pu30 (m : ux_M) {u : Nat} (v : Int32) (h : u < 16) : ux_put m (nI u) 30 v = z_P m 30 u v := z_pu m 30 u v (by omega) h
theorem uu30 {u : Nat} (h : u < 16) : ux_u (nI u) 30 := z_uu 30 u (by omega) h
theorem of31 (m : ux_M) {u : Nat} (h : u < 16) : ux_of m (nI u) 31 = z_Y m 31 u := z_of m 31 u (by omega) h
theorem pu31 (m : ux_M) {u : Nat} (v : Int32) (h : u < 16) : ux_put m (nI u) 31 v = z_P m 31 u v := z_pu m 31 u v (by omega) h
theorem uu31 {u : Nat} (h : u < 16) : ux_u (nI u) 31 := z_uu 31 u (by omega) h
theorem of32 (m : ux_M) {u : Nat} (h : u < 16) : ux_of m (nI u) 32 = z_Y m 32 u := z_of m 32 u (by omega) h
theorem pu32 (m : ux_M) {u : Nat} (v : Int32) (h : u < 16) : ux_put m (nI u) 32 v = z_P m 32 u v := z_pu m 32 u v (by omega) h
theorem uu32 {u : Nat} (h : u < 16) : ux_u (nI u) 32 := z_uu 32 u (by omega) h
theorem of33 (m : ux_M) {u : Nat} (h : u < 16) : ux_of m (nI u) 33 = z_Y m 33 u := z_of m 33 u (by omega) h
theorem pu33 (m : ux_M) {u : Nat} (v : Int32) (h : u < 16) : ux_put m (nI u) 33 v = z_P m 33 u v := z_pu m 33 u v (by omega) h
theorem uu33 {u : Nat} (h : u < 16) : ux_u (nI u) 33 := z_uu 33 u (by omega) h
theorem of34 (m : ux_M) {u : Nat} (h : u < 16) : ux_of m (nI u) 34 = z_Y m 34 u := z_of m 34 u (by omega) h
theorem pu34 (m : ux_M) {u : Nat} (v : Int32) (h : u < 16) : ux_put m (nI u) 34 v = z_P m 34 u v := z_pu m 34 u v (by omega) h
theorem uu34 {u : Nat} (h : u < 16) : ux_u (nI u) 34 := z_uu 34 u (by omega) h
theorem of35 (m : ux_M) {u : Nat} (h : u < 16) : ux_of m (nI u) 35 = z_Y m 35 u := z_of m 35 u (by omega) h
theorem pu35 (m : ux_M) {u : Nat} (v : Int32) (h : u < 16) : ux_put m (nI u) 35 v = z_P m 35 u v := z_pu m 35 u v (by omega) h
theorem uu35 {u : Nat} (h : u < 16) : ux_u (nI u) 35 := z_uu 35 u (by omega) h
theorem of36 (m : ux_M) {u : Nat} (h : u < 16) : ux_of m (nI u) 36 = z_Y m 36 u := z_of m 36 u (by omega) h
theorem pu36 (m : ux_M) {u : Nat} (v : Int32) (h : u < 16) : ux_put m (nI u) 36 v = z_P m 36 u v := z_pu m 36 u v (by omega) h
theorem uu36 {u : Nat} (h : u < 16) : ux_u (nI u) 36 := z_uu 36 u (by omega) h
theorem of37 (m : ux_M) {u : Nat} (h : u < 16) : ux_of m (nI u) 37 = z_Y m 37 u := z_of m 37 u (by omega) h
theorem pu37 (m : ux_M) {u : Nat} (v : Int32) (h : u < 16) : ux_put m (nI u) 37 v = z_P m 37 u v := z_pu m 37 u v (by omega) h
theorem uu37 {u : Nat} (h : u < 16) : ux_u (nI u) 37 := z_uu 37 u (by omega) h
theorem of38 (m : ux_M) {u : Nat} (h : u < 16) : ux_of m (nI u) 38 = z_Y m 38 u := z_of m 38 u (by omega) h
theorem pu38 (m : ux_M) {u : Nat} (v : Int32) (h : u < 16) : ux_put m (nI u) 38 v = z_P m 38 u v := z_pu m 38 u v (by omega) h
theorem uu38 {u : Nat} (h : u < 16) : ux_u (nI u) 38 := z_uu 38 u (by omega) h
theorem of39 (m : ux_M) {u : Nat} (h : u < 16) : ux_of m (nI u) 39 = z_Y m 39 u := z_of m 39 u (by omega) h
theorem pu39 (m : ux_M) {u : Nat} (v : Int32) (h : u < 16) : ux_put m (nI u) 39 v = z_P m 39 u v := z_pu m 39 u v (by omega) h
theorem uu39 {u : Nat} (h : u < 16) : ux_u (nI u) 39 := z_uu 39 u (by omega) h
theorem of40 (m : ux_M) {u : Nat} (h : u < 16) : ux_of m (nI u) 40 = z_Y m 40 u := z_of m 40 u (by omega) h
theorem pu40 (m : ux_M) {u : Nat} (v : Int32) (h : u < 16) : ux_put m (nI u) 40 v = z_P m 40 u v := z_pu m 40 u v (by omega) h
theorem uu40 {u : Nat} (h : u < 16) : ux_u (nI u) 40 := z_uu 40 u (by omega) h
theorem of41 (m : ux_M) {u : Nat} (h : u < 16) : ux_of m (nI u) 41 = z_Y m 41 u := z_of m 41 u (by omega) h
theorem pu41 (m : ux_M) {u : Nat} (v : Int32) (h : u < 16) : ux_put m (nI u) 41 v = z_P m 41 u v := z_pu m 41 u v (by omega) h
theorem uu41 {u : Nat} (h : u < 16) : ux_u (nI u) 41 := z_uu 41 u (by omega) h
theorem of42 (m : ux_M) {u : Nat} (h : u < 16) : ux_of m (nI u) 42 = z_Y m 42 u := z_of m 42 u (by omega) h
theorem pu42 (m : ux_M) {u : Nat} (v : Int32) (h : u < 16) : ux_put m (nI u) 42 v = z_P m 42 u v := z_pu m 42 u v (by omega) h
theorem uu42 {u : Nat} (h : u < 16) : ux_u (nI u) 42 := z_uu 42 u (by omega) h
theorem of43 (m : ux_M) {u : Nat} (h : u < 16) : ux_of m (nI u) 43 = z_Y m 43 u := z_of m 43 u (by omega) h
theorem pu43 (m : ux_M) {u : Nat} (v : Int32) (h : u < 16) : ux_put m (nI u) 43 v = z_P m 43 u v := z_pu m 43 u v (by omega) h
theorem uu43 {u : Nat} (h : u < 16) : ux_u (nI u) 43 := z_uu 43 u (by omega) h
theorem of44 (m : ux_M) {u : Nat} (h : u < 16) : ux_of m (nI u) 44 = z_Y m 44 u := z_of m 44 u (by omega) h
theorem pu44 (m : ux_M) {u : Nat} (v : Int32) (h : u < 16) : ux_put m (nI u) 44 v = z_P m 44 u v := z_pu m 44 u v (by omega) h
theorem uu44 {u : Nat} (h : u < 16) : ux_u (nI u) 44 := z_uu 44 u (by omega) h
theorem of45 (m : ux_M) {u : Nat} (h : u < 16) : ux_of m (nI u) 45 = z_Y m 45 u := z_of m 45 u (by omega) h
theorem pu45 (m : ux_M) {u : Nat} (v : Int32) (h : u < 16) : ux_put m (nI u) 45 v = z_P m 45 u v := z_pu m 45 u v (by omega) h
theorem uu45 {u : Nat} (h : u < 16) : ux_u (nI u) 45 := z_uu 45 u (by omega) h
theorem of46 (m : ux_M) {u : Nat} (h : u < 16) : ux_of m (nI u) 46 = z_Y m 46 u := z_of m 46 u (by omega) h
theorem pu46 (m : ux_M) {u : Nat} (v : Int32) (h : u < 16) : ux_put m (nI u) 46 v = z_P m 46 u v := z_pu m 46 u v (by omega) h
theorem uu46 {u : Nat} (h : u < 16) : ux_u (nI u) 46 := z_uu 46 u (by omega) h
theorem z_pr (u i : Nat) (hu : u < 16) (hi : i < 10) : (nI u * (10 : Int32) + nI i).toNatClampNeg = u * 10 + i := by
  have e : nI u * (10 : Int32) + nI i = nI (u * 10 + i) := by
    show Int32.ofNat u * Int32.ofNat 10 + Int32.ofNat i = Int32.ofNat _
    rw [← Int32.ofNat_mul, ← Int32.ofNat_add]
  rw [e, nI_clamp (by omega)]
theorem z_pv (u i : Nat) (hu : u < 16) (hi : i < 10) : vp_in (nI u * (10 : Int32) + nI i) 160 := by
  have e : nI u * (10 : Int32) + nI i = nI (u * 10 + i) := by
    show Int32.ofNat u * Int32.ofNat 10 + Int32.ofNat i = Int32.ofNat _
    rw [← Int32.ofNat_mul, ← Int32.ofNat_add]
  rw [e]; exact vp_in_nI (by omega) (by omega)
theorem pr0 {u : Nat} (h : u < 16) : (nI u * (10 : Int32) + (0 : Int32)).toNatClampNeg = u * 10 + 0 := z_pr u 0 h (by omega)
theorem pv0 {u : Nat} (h : u < 16) : vp_in (nI u * (10 : Int32) + (0 : Int32)) 160 := z_pv u 0 h (by omega)
theorem pr1 {u : Nat} (h : u < 16) : (nI u * (10 : Int32) + (1 : Int32)).toNatClampNeg = u * 10 + 1 := z_pr u 1 h (by omega)
theorem pv1 {u : Nat} (h : u < 16) : vp_in (nI u * (10 : Int32) + (1 : Int32)) 160 := z_pv u 1 h (by omega)
theorem pr2 {u : Nat} (h : u < 16) : (nI u * (10 : Int32) + (2 : Int32)).toNatClampNeg = u * 10 + 2 := z_pr u 2 h (by omega)
theorem pv2 {u : Nat} (h : u < 16) : vp_in (nI u * (10 : Int32) + (2 : Int32)) 160 := z_pv u 2 h (by omega)
theorem pr3 {u : Nat} (h : u < 16) : (nI u * (10 : Int32) + (3 : Int32)).toNatClampNeg = u * 10 + 3 := z_pr u 3 h (by omega)
theorem pv3 {u : Nat} (h : u < 16) : vp_in (nI u * (10 : Int32) + (3 : Int32)) 160 := z_pv u 3 h (by omega)
theorem pr4 {u : Nat} (h : u < 16) : (nI u * (10 : Int32) + (4 : Int32)).toNatClampNeg = u * 10 + 4 := z_pr u 4 h (by omega)
theorem pv4 {u : Nat} (h : u < 16) : vp_in (nI u * (10 : Int32) + (4 : Int32)) 160 := z_pv u 4 h (by omega)
theorem pr5 {u : Nat} (h : u < 16) : (nI u * (10 : Int32) + (5 : Int32)).toNatClampNeg = u * 10 + 5 := z_pr u 5 h (by omega)
theorem pv5 {u : Nat} (h : u < 16) : vp_in (nI u * (10 : Int32) + (5 : Int32)) 160 := z_pv u 5 h (by omega)
theorem pr6 {u : Nat} (h : u < 16) : (nI u * (10 : Int32) + (6 : Int32)).toNatClampNeg = u * 10 + 6 := z_pr u 6 h (by omega)
theorem pv6 {u : Nat} (h : u < 16) : vp_in (nI u * (10 : Int32) + (6 : Int32)) 160 := z_pv u 6 h (by omega)
theorem pr7 {u : Nat} (h : u < 16) : (nI u * (10 : Int32) + (7 : Int32)).toNatClampNeg = u * 10 + 7 := z_pr u 7 h (by omega)
theorem pv7 {u : Nat} (h : u < 16) : vp_in (nI u * (10 : Int32) + (7 : Int32)) 160 := z_pv u 7 h (by omega)
theorem pr8 {u : Nat} (h : u < 16) : (nI u * (10 : Int32) + (8 : Int32)).toNatClampNeg = u * 10 + 8 := z_pr u 8 h (by omega)
theorem pv8 {u : Nat} (h : u < 16) : vp_in (nI u * (10 : Int32) + (8 : Int32)) 160 := z_pv u 8 h (by omega)
theorem pr9 {u : Nat} (h : u < 16) : (nI u * (10 : Int32) + (9 : Int32)).toNatClampNeg = u * 10 + 9 := z_pr u 9 h (by omega)
theorem pv9 {u : Nat} (h : u < 16) : vp_in (nI u * (10 : Int32) + (9 : Int32)) 160 := z_pv u 9 h (by omega)
