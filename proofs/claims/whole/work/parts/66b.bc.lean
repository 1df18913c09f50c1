/-! the number of bits -/
theorem z_of32 (x : Int32) : ∃ n, n < 2 ^ 32 ∧ x = nI n := by
  refine ⟨x.toBitVec.toNat, x.toBitVec.isLt, ?_⟩
  apply Int32.toBitVec_inj.1
  show x.toBitVec = BitVec.ofNat 32 x.toBitVec.toNat
  simp
theorem z_btn {n i : Nat} (hi : i < 32) : bt (nI n) i = n.testBit i := by
  show (BitVec.ofNat 32 n).getLsbD i = _
  rw [BitVec.getLsbD_ofNat]; simp [hi]
theorem z_andn (a b : Nat) : nI a &&& nI b = nI (a &&& b) := by
  apply Int32.toBitVec_inj.1
  show BitVec.ofNat 32 a &&& BitVec.ofNat 32 b = BitVec.ofNat 32 (a &&& b)
  apply BitVec.eq_of_getLsbD_eq
  intro i hi
  simp [hi]
theorem z_subn {a b : Nat} (h : b ≤ a) : nI a - nI b = nI (a - b) := by
  have e : nI a = nI (a - b) + nI b := by rw [z_add]; congr 1; omega
  rw [e, Int32.add_sub_cancel]
def z_bcn (n : Nat) : Nat :=
  let a := n - ((n / 2) &&& 1431655765)
  let b := (a &&& 858993459) + ((a / 4) &&& 858993459)
  let c := (b + b / 16) &&& 252645135
  let e := c + c / 256
  let f := e + e / 65536
  f &&& 63
theorem z_us1 {n : Nat} (hn : n < 2 ^ 32) : ((nI n).toUInt32 >>> ((1 : Int32).toUInt32 &&& Int32.toUInt32 31)).toInt32 = nI (n / 2) := pk_ushrN hn 1 1 (by decide)
theorem z_us2 {n : Nat} (hn : n < 2 ^ 32) : ((nI n).toUInt32 >>> ((2 : Int32).toUInt32 &&& Int32.toUInt32 31)).toInt32 = nI (n / 4) := pk_ushrN hn 2 2 (by decide)
theorem z_us4 {n : Nat} (hn : n < 2 ^ 32) : ((nI n).toUInt32 >>> ((4 : Int32).toUInt32 &&& Int32.toUInt32 31)).toInt32 = nI (n / 16) := pk_ushrN hn 4 4 (by decide)
theorem z_us8 {n : Nat} (hn : n < 2 ^ 32) : ((nI n).toUInt32 >>> ((8 : Int32).toUInt32 &&& Int32.toUInt32 31)).toInt32 = nI (n / 256) := pk_ushrN hn 8 8 (by decide)
theorem z_us16 {n : Nat} (hn : n < 2 ^ 32) : ((nI n).toUInt32 >>> ((16 : Int32).toUInt32 &&& Int32.toUInt32 31)).toInt32 = nI (n / 65536) := pk_ushrN hn 16 16 (by decide)
theorem z_bc1 {n : Nat} (hn : n < 65536) : ux_bc (nI n) = nI (z_bcn n) := by
  unfold ux_bc z_bcn
  dsimp only
  have h1 : n - ((n / 2) &&& 1431655765) < 65536 := by omega
  rw [z_us1 (show n < 2 ^ 32 by omega), show (1431655765 : Int32) = nI 1431655765 from rfl, z_andn, z_subn (Nat.le_trans Nat.and_le_left (by omega))]
  generalize n - ((n / 2) &&& 1431655765) = a at h1 ⊢
  have h2 : a &&& 858993459 ≤ a := Nat.and_le_left
  have h3 : (a / 4) &&& 858993459 ≤ a / 4 := Nat.and_le_left
  rw [z_us2 (show a < 2 ^ 32 by omega), show (858993459 : Int32) = nI 858993459 from rfl, z_andn, z_andn, z_add]
  have h4 : (a &&& 858993459) + ((a / 4) &&& 858993459) < 131072 := by omega
  generalize (a &&& 858993459) + ((a / 4) &&& 858993459) = b at h4 ⊢
  have h5 : (b + b / 16) &&& 252645135 ≤ b + b / 16 := Nat.and_le_left
  rw [z_us4 (show b < 2 ^ 32 by omega), z_add, show (252645135 : Int32) = nI 252645135 from rfl, z_andn]
  have h6 : (b + b / 16) &&& 252645135 < 200000 := by omega
  generalize (b + b / 16) &&& 252645135 = c at h6 ⊢
  rw [z_us8 (show c < 2 ^ 32 by omega), z_add]
  have h7 : c + c / 256 < 300000 := by omega
  generalize c + c / 256 = e at h7 ⊢
  rw [z_us16 (show e < 2 ^ 32 by omega), z_add, show (63 : Int32) = nI 63 from rfl, z_andn]
def z_pon (n : Nat) : Nat → Nat
  | 0 => 0
  | k + 1 => z_pon n k + (n >>> k) % 2
def z_chk (a b : Nat) : Bool := Nat.beq (z_bcn (a * 256 + b)) (z_pon (a * 256 + b) 16)
def z_all (P : Nat → Bool) : Nat → Bool
  | 0 => true
  | n + 1 => (P n).and (z_all P n)
theorem z_all.at (P : Nat → Bool) : ∀ n, z_all P n = true → ∀ i, i < n → P i = true
  | 0, _, i, hi => absurd hi (by omega)
  | n + 1, h, i, hi => by
    unfold z_all at h
    have h1 : P n = true := by cases e : P n <;> simp [e, Bool.and] at h ⊢
    have h2 : z_all P n = true := by cases e : z_all P n <;> simp [e, h1, Bool.and] at h ⊢
    by_cases q : i = n
    · subst q; exact h1
    · exact z_all.at P n h2 i (by omega)
theorem z_ck0 : z_all (fun a => z_all (fun b => z_chk (0 + a) b) 256) 16 = true := by decide +kernel
theorem z_ck1 : z_all (fun a => z_all (fun b => z_chk (16 + a) b) 256) 16 = true := by decide +kernel
theorem z_ck2 : z_all (fun a => z_all (fun b => z_chk (32 + a) b) 256) 16 = true := by decide +kernel
theorem z_ck3 : z_all (fun a => z_all (fun b => z_chk (48 + a) b) 256) 16 = true := by decide +kernel
theorem z_ck4 : z_all (fun a => z_all (fun b => z_chk (64 + a) b) 256) 16 = true := by decide +kernel
theorem z_ck5 : z_all (fun a => z_all (fun b => z_chk (80 + a) b) 256) 16 = true := by decide +kernel
theorem z_ck6 : z_all (fun a => z_all (fun b => z_chk (96 + a) b) 256) 16 = true := by decide +kernel
theorem z_ck7 : z_all (fun a => z_all (fun b => z_chk (112 + a) b) 256) 16 = true := by decide +kernel
theorem z_ck8 : z_all (fun a => z_all (fun b => z_chk (128 + a) b) 256) 16 = true := by decide +kernel
theorem z_ck9 : z_all (fun a => z_all (fun b => z_chk (144 + a) b) 256) 16 = true := by decide +kernel
theorem z_ck10 : z_all (fun a => z_all (fun b => z_chk (160 + a) b) 256) 16 = true := by decide +kernel
theorem z_ck11 : z_all (fun a => z_all (fun b => z_chk (176 + a) b) 256) 16 = true := by decide +kernel
theorem z_ck12 : z_all (fun a => z_all (fun b => z_chk (192 + a) b) 256) 16 = true := by decide +kernel
theorem z_ck13 : z_all (fun a => z_all (fun b => z_chk (208 + a) b) 256) 16 = true := by decide +kernel
theorem z_ck14 : z_all (fun a => z_all (fun b => z_chk (224 + a) b) 256) 16 = true := by decide +kernel
theorem z_ck15 : z_all (fun a => z_all (fun b => z_chk (240 + a) b) 256) 16 = true := by decide +kernel
theorem z_c65 (a b : Nat) (ha : a < 256) (hb : b < 256) : z_chk a b = true := by
  have h : a / 16 = 0 ∨ a / 16 = 1 ∨ a / 16 = 2 ∨ a / 16 = 3 ∨ a / 16 = 4 ∨ a / 16 = 5 ∨ a / 16 = 6 ∨ a / 16 = 7 ∨ a / 16 = 8 ∨ a / 16 = 9 ∨ a / 16 = 10 ∨ a / 16 = 11 ∨ a / 16 = 12 ∨ a / 16 = 13 ∨ a / 16 = 14 ∨ a / 16 = 15 := by omega
  rcases h with h | h | h | h | h | h | h | h | h | h | h | h | h | h | h | h
  · have e : 0 + a % 16 = a := by omega
    have r := z_all.at _ _ (z_all.at _ _ z_ck0 (a % 16) (by omega)) b hb
    rw [e] at r; exact r
  · have e : 16 + a % 16 = a := by omega
    have r := z_all.at _ _ (z_all.at _ _ z_ck1 (a % 16) (by omega)) b hb
    rw [e] at r; exact r
  · have e : 32 + a % 16 = a := by omega
    have r := z_all.at _ _ (z_all.at _ _ z_ck2 (a % 16) (by omega)) b hb
    rw [e] at r; exact r
  · have e : 48 + a % 16 = a := by omega
    have r := z_all.at _ _ (z_all.at _ _ z_ck3 (a % 16) (by omega)) b hb
    rw [e] at r; exact r
  · have e : 64 + a % 16 = a := by omega
    have r := z_all.at _ _ (z_all.at _ _ z_ck4 (a % 16) (by omega)) b hb
    rw [e] at r; exact r
  · have e : 80 + a % 16 = a := by omega
    have r := z_all.at _ _ (z_all.at _ _ z_ck5 (a % 16) (by omega)) b hb
    rw [e] at r; exact r
  · have e : 96 + a % 16 = a := by omega
    have r := z_all.at _ _ (z_all.at _ _ z_ck6 (a % 16) (by omega)) b hb
    rw [e] at r; exact r
  · have e : 112 + a % 16 = a := by omega
    have r := z_all.at _ _ (z_all.at _ _ z_ck7 (a % 16) (by omega)) b hb
    rw [e] at r; exact r
  · have e : 128 + a % 16 = a := by omega
    have r := z_all.at _ _ (z_all.at _ _ z_ck8 (a % 16) (by omega)) b hb
    rw [e] at r; exact r
  · have e : 144 + a % 16 = a := by omega
    have r := z_all.at _ _ (z_all.at _ _ z_ck9 (a % 16) (by omega)) b hb
    rw [e] at r; exact r
  · have e : 160 + a % 16 = a := by omega
    have r := z_all.at _ _ (z_all.at _ _ z_ck10 (a % 16) (by omega)) b hb
    rw [e] at r; exact r
  · have e : 176 + a % 16 = a := by omega
    have r := z_all.at _ _ (z_all.at _ _ z_ck11 (a % 16) (by omega)) b hb
    rw [e] at r; exact r
  · have e : 192 + a % 16 = a := by omega
    have r := z_all.at _ _ (z_all.at _ _ z_ck12 (a % 16) (by omega)) b hb
    rw [e] at r; exact r
  · have e : 208 + a % 16 = a := by omega
    have r := z_all.at _ _ (z_all.at _ _ z_ck13 (a % 16) (by omega)) b hb
    rw [e] at r; exact r
  · have e : 224 + a % 16 = a := by omega
    have r := z_all.at _ _ (z_all.at _ _ z_ck14 (a % 16) (by omega)) b hb
    rw [e] at r; exact r
  · have e : 240 + a % 16 = a := by omega
    have r := z_all.at _ _ (z_all.at _ _ z_ck15 (a % 16) (by omega)) b hb
    rw [e] at r; exact r
theorem z_pp (n : Nat) (hn : n < 2 ^ 32) : ∀ k, k ≤ 16 → z_pop (nI n) k = z_pon n k
  | 0, _ => rfl
  | k + 1, h => by
    unfold z_pop z_pon
    rw [z_pp n hn k (by omega), z_btn (by omega), Nat.testBit]
    congr 1
    rw [Nat.and_comm, Nat.and_one_is_mod]
    have : n >>> k % 2 = 0 ∨ n >>> k % 2 = 1 := by omega
    rcases this with q | q <;> simp [q]
theorem z_bc : z_BC := fun x h => by
  obtain ⟨n, hn, rfl⟩ := z_of32 x
  have h16 : n < 65536 := by
    have := Nat.lt_pow_two_of_testBit (n := 16) n (fun i hi => by
      by_cases q : i < 32
      · have := h i hi q; rw [z_btn q] at this; exact this
      · exact Nat.testBit_lt_two_pow (Nat.lt_of_lt_of_le hn (Nat.pow_le_pow_right (by omega) (by omega))))
    omega
  rw [z_bc1 h16, z_pp n hn 16 (Nat.le_refl _)]
  congr 1
  have c := z_c65 (n / 256) (n % 256) (by omega) (by omega)
  unfold z_chk at c
  have e : n / 256 * 256 + n % 256 = n := by omega
  rw [e] at c
  exact Nat.eq_of_beq_eq_true c
