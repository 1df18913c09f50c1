/-! NEEDLESS JOBS, THE GREATEST OF A SET: both sides -/
section ZD3
variable {k c t B x b u T n v : Nat} {m m' m1 : ux_M} {M C : ux_M} {g : Nat → Int32} {eS eR eO aS aO : Int32}
theorem z_dn : ∀ i, i < 16 → 1 ≤ i → nI i - 1 = nI (i - 1) ∧ nI i + (-1) = nI (i - 1) ∧ ¬ nI i ≤ 0 := by decide
theorem z_l72 {y : Int32} (hv : v < 16) (h1 : bt y v = true) (h2 : ∀ w, v < w → w < 16 → bt y w = false) (M : ux_M) : ∀ (n f : Nat), v + n < 16 → n < f →
    p_72_6 f y ((1 : Int32) <<< (nI (v + n) &&& 31)) (nI (v + n)) M ∧ r_72_6 f y ((1 : Int32) <<< (nI (v + n) &&& 31)) (nI (v + n)) M = (1 : Int32) <<< (nI v &&& 31) := by
  intro n
  induction n with
  | zero =>
    intro f hn hf
    obtain ⟨f, rfl⟩ : ∃ z, f = z + 1 := ⟨f - 1, by omega⟩
    have ne : ¬ (y &&& ((1 : Int32) <<< (nI (v + 0) &&& 31))) = 0 := fun z => by rw [z_andb _ (by omega)] at z; rw [Nat.add_zero, h1] at z; cases z
    rw [p_72_6, r_72_6]
    refine ⟨⟨fun _ => trivial, fun _ => ⟨fun _ => trivial, fun z => absurd z ne⟩⟩, ?_⟩
    split
    · rfl
    · rfl
  | succ n ih =>
    intro f hn hf
    obtain ⟨f, rfl⟩ : ∃ z, f = z + 1 := ⟨f - 1, by omega⟩
    obtain ⟨d1, d2, d3⟩ := z_dn (v + (n + 1)) hn (by omega)
    have ez : (y &&& ((1 : Int32) <<< (nI (v + (n + 1)) &&& 31))) = 0 := (z_andb _ (by omega)).mpr (h2 _ (by omega) hn)
    obtain ⟨r1, r2⟩ := ih f (by omega) (by omega)
    have e : v + (n + 1) - 1 = v + n := by omega
    rw [e] at d1 d2
    rw [p_72_6, r_72_6, if_neg d3, if_pos ez, d1, d2]
    exact ⟨⟨fun z => absurd z d3, fun _ => ⟨fun z => absurd ez z, fun _ => r1⟩⟩, r2⟩
/-- GREATEST -/
theorem z_72 {y : Int32} (hv : v < 16) (h1 : bt y v = true) (h2 : ∀ w, v < w → w < 16 → bt y w = false) (M : ux_M) : p_72 y M ∧ r_72 y M = (1 : Int32) <<< (nI v &&& 31) := by
  have l := z_l72 hv h1 h2 M (15 - v) ux_fuel (by omega) (by have := z_fuel; omega)
  have e : v + (15 - v) = 15 := by omega
  rw [e] at l
  have s : (1 : Int32) <<< (nI 15 &&& 31) = 32768 := by decide
  rw [s] at l
  exact l
/-- after the needless jobs are dropped -/
theorem z_ndl (hv : z_tv m1) (f8 : z_f8 m1 m) (hj : ∀ X w, w < 32 → z_j m X w = (z_j m1 X w && !((decide (X = 1) && z_nl1 m1 c w) || (decide (X = 2) && z_nl2 m1 c w))))
    (hcf : ∀ w, w < 32 → (z_V m1 2 w && z_V m1 0 w) = false) (hlt : ∀ w, w < 32 → (z_V m1 0 w = true → w < c) ∧ (z_V m1 2 w = true → w < c))
    (c0 : ∀ w, w < 32 → bt (C k 32805 0 0) w = (z_V m1 0 w && !(z_nl1 m1 c w && !z_V m1 1 w))) (c1 : ∀ w, w < 32 → bt (C k 32805 0 1) w = z_V m1 1 w) (c2 : ∀ w, w < 32 → bt (C k 32805 0 2) w = (z_V m1 2 w && !z_nl2 m1 c w)) : z_tr k c C m := by
  intro w hw
  obtain ⟨v1, v2, v3, v4, v5⟩ := hv w hw
  have cf := hcf w hw
  obtain ⟨l0, l2⟩ := hlt w hw
  have j1 := hj 1 w hw
  have j2 := hj 2 w hw
  have j3 := hj 3 w hw
  have e1 : bt (m 5 950305 0 1) w = z_j m 1 w := rfl
  have e2 : bt (m 5 950305 0 2) w = z_j m 2 w := rfl
  have e3 : bt (m 5 950305 0 3) w = z_j m 3 w := rfl
  rw [e1, e2, e3, c0 w hw, c1 w hw, c2 w hw, j1, j2, j3]
  simp only [z_V] at cf l0 l2 ⊢
  cases a1 : z_j m1 1 w <;> cases a2 : z_j m1 2 w <;> cases a3 : z_j m1 3 w <;> simp only [a1, a2, a3] at cf v1 l0 l2 <;>
    first
      | (exact absurd cf (by decide))
      | (exact absurd v1 (by decide))
      | (have wc : w < c := by first | exact l0 rfl | exact l0 trivial
         have wn : ¬ c ≤ w := by omega
         cases z_nl1 m1 c w <;> cases z_nl2 m1 c w <;> simp [wc, wn])
      | (have wc : w < c := l2 trivial
         have wn : ¬ c ≤ w := by omega
         cases z_nl1 m1 c w <;> cases z_nl2 m1 c w <;> simp [wc, wn])
      | (cases z_nl1 m1 c w <;> cases z_nl2 m1 c w <;> simp)
/-- which jobs are essential -/
theorem z_esq (hv : z_tv m1) (f8 : z_f8 m1 m) (hT : z_tr k c C m) (hj3 : ∀ w, w < 32 → z_j m 3 w = z_j m1 3 w) {w : Nat} (hw : w < c) (hc : c ≤ 16) (h0 : ¬ r_208 (nI w) m = 0) (s3 : ∀ w, w < 32 → z_V m1 3 w = bt eS w) (s4 : ∀ w, w < 32 → z_V m1 4 w = bt eO w) :
    z_ess m w = ((bt (C k 32805 0 0) w && bt eS w) || (bt (C k 32805 0 2) w && bt eO w)) ∧ (r_208 (nI w) m = 1 ∨ r_208 (nI w) m = 2 ∨ r_208 (nI w) m = 3)
    ∧ (z_ess m w = false → (r_208 (nI w) m = 1 ∧ bt (C k 32805 0 0) w = true ∧ bt eS w = false) ∨ (r_208 (nI w) m = 2 ∧ bt (C k 32805 0 0) w = false ∧ bt (C k 32805 0 2) w = true ∧ bt eO w = false)) := by
  have w32 : w < 32 := by omega
  obtain ⟨t1, t2, t3, t4, t5, t6, t7⟩ := hT w w32
  obtain ⟨v1, v2, v3, v4, v5⟩ := hv w w32
  obtain ⟨_, _, _, ev⟩ := z_ttp hT hw hc
  have ee : ∀ X, bt (m 5 966689 0 X) w = z_e m1 X w := fun X => by rw [f8 5 966689 0 X (by omega)]; rfl
  have j3 := hj3 w w32
  have e3 : bt (m 5 950305 0 3) w = z_j m 3 w := rfl
  have p3 := s3 w w32
  have p4 := s4 w w32
  simp only [z_V] at p3 p4
  unfold z_ess
  rw [t1, t3, ← p3, ← p4]
  rw [ev] at h0 ⊢
  cases a2 : bt (m 5 950305 0 2) w
  · cases a3 : bt (m 5 950305 0 3) w
    · cases a1 : bt (m 5 950305 0 1) w
      · rw [a1, a2, a3] at h0; exact absurd rfl h0
      · have z3 : z_e m1 3 w = false := by rw [v2, ← j3, ← e3]; exact a3
        simp [z_c1, ee, hw, z3]
    · have z3 : z_e m1 3 w = true := by rw [v2, ← j3, ← e3]; exact a3
      simp [z_c3, ee, hw, z3]
  · have a1 : bt (m 5 950305 0 1) w = false := by simpa [a2] using t4
    have a3 : bt (m 5 950305 0 3) w = false := by simpa [a2] using t6
    simp [z_c2, ee, hw, a1, a3]
end ZD3
