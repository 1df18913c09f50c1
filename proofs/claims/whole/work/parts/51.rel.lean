/-! THE RELATION of a world of the class (instance k of M) and the reference's row (in m); by wip/whole/gen51.py -/
/-- count of units c, time t -/
def z_H (k c t : Nat) (M m : ux_M) : Prop := c ≤ 16 ∧ t ≤ 1003000 ∧ M k 344085 0 0 = nI c ∧ m 5 844257 0 1 = nI c ∧ M k 16413 0 3 = nI t ∧ m 5 844257 0 0 = nI t
/-- what a text says (F: the class's cells, G: the reference's attributes below 28) -/
def z_CF (c : Nat) (F : Nat → Nat → Nat → Int32) (G : Nat → Nat → Int32) : Prop :=
  (∀ u, u < c → F 360577 0 u = G 0 u ∧ F 376961 0 u = G 1 u ∧ F 426113 0 u = G 20 u ∧ F 442497 0 u = G 21 u
    ∧ (∃ n, 1 ≤ n ∧ n ≤ 8 ∧ G 1 u = nI n ∧ ∀ i, i < n → F 394241 0 (u * 8 + i) = G (2 + i) u)
    ∧ (∀ i, i < 10 → F 410881 0 (u * 10 + i) = G (10 + i) u)
    ∧ (∀ r, r < 6 → F 475265 r u = G (22 + r) u)
    ∧ (G 0 u = 0 ∨ G 0 u = 1 ∨ G 0 u = 2)
    ∧ (∃ n, n ≤ 100 ∧ G 10 u = nI n) ∧ (∃ n, n ≤ 100 ∧ G 11 u = nI n) ∧ (∃ n, n ≤ 1000 ∧ G 12 u = nI n) ∧ (∃ n, n ≤ 255 ∧ G 13 u = nI n) ∧ (∃ n, n ≤ 9 ∧ G 14 u = nI n)
    ∧ (∃ n, n ≤ 2 ∧ G 15 u = nI n) ∧ (∃ n, 1 ≤ n ∧ n ≤ 100 ∧ G 16 u = nI n) ∧ (∃ n, 1 ≤ n ∧ n ≤ 9 ∧ G 17 u = nI n) ∧ (∃ n, 1 ≤ n ∧ n ≤ 1000 ∧ G 18 u = nI n) ∧ (∃ n, n ≤ 1000 ∧ G 19 u = nI n)
    ∧ (¬ G 0 u = 0 → G 14 u = 0 ∧ G 15 u = 0)
    ∧ (G 0 u = 1 → ∃ s, s < c ∧ G 20 u = nI s ∧ G 0 s = 0) ∧ (¬ G 0 u = 1 → G 20 u = -1)
    ∧ (∀ r, r < 6 → ∀ v, bt (G (22 + r) u) v = true → v < c ∧ ¬ v = u)
    ∧ (∀ v, bt (F 491649 0 u) v = (bt (G 22 u) v || bt (G 24 u) v))
    ∧ (∀ v, v < c → bt (F 508033 0 u) v = (bt (G 26 u) v || bt (G 26 v) u))
    ∧ (∀ v, v < c → bt (F 524417 0 u) v = (bt (G 22 v) u || bt (G 24 v) u || bt (G 25 v) u))
    ∧ (∀ v, v < c → bt (F 540801 0 u) v = bt (G 27 v) u)
    ∧ (∀ v, c ≤ v → bt (F 491649 0 u) v = false ∧ bt (F 508033 0 u) v = false ∧ bt (F 524417 0 u) v = false ∧ bt (F 540801 0 u) v = false))
  ∧ (∀ u, c ≤ u → u < 16 → F 491649 0 u = 0 ∧ F 508033 0 u = 0 ∧ F 524417 0 u = 0 ∧ F 540801 0 u = 0 ∧ ∀ r, r < 6 → F 475265 r u = 0)
def z_C (k c : Nat) (M m : ux_M) : Prop := z_CF c (fun s r i => if 344085 ≤ s ∧ s < 600000 then M k s r i else 0) (fun a u => if a < 28 then z_Y m a u else 0)
def z_tab : List (Nat × Nat) := [(28, 65665), (32, 98433), (33, 114817), (34, 82049), (37, 131201), (38, 147585), (39, 180353), (40, 196737), (41, 327809), (42, 213121), (43, 229505), (44, 245889)]
/-- the attributes that are kept alike on both sides -/
def z_D (k c : Nat) (M m : ux_M) : Prop := ∀ q, q ∈ z_tab → ∀ u, u < c → M k q.2 0 u = z_Y m q.1 u
/-- the jobs' masks -/
def z_JF (c : Nat) (S R T N K : Int32) (j n x : Nat → Int32) : Prop := ∀ u, u < 32 →
  bt S u = (decide (u < c) && (decide (j u = 1) || decide (j u = 3))) ∧ bt R u = (decide (u < c) && decide (j u = 3)) ∧ bt T u = (decide (u < c) && decide (j u = 2))
  ∧ bt N u = (decide (u < c) && decide (n u = 1)) ∧ bt K u = (decide (u < c) && decide (x u = 1))
def z_J (k c : Nat) (M m : ux_M) : Prop := z_JF c (M k 49197 0 0) (M k 49197 0 1) (M k 49197 0 2) (M k 49197 0 3) (M k 16413 0 4) (z_Y m 29) (z_Y m 30) (z_Y m 31)
/-- the log: the class's ring A with count a, the reference's row (from 8) with count b -/
def z_LF (a b : Int32) (A : Nat → Int32) (B : Nat → Int32) : Prop := ∃ L, L < 120 ∧ a = nI L ∧ b = nI (min L 60) ∧
  ∀ i, i < min L 60 → ∀ p, p < 3 → B (3 * i + p) = A (((if L < 60 then 0 else L) + i) % 60 * 3 + p)
def z_L (k : Nat) (M m : ux_M) : Prop := z_LF (M k 16413 0 18) (m 5 844257 0 2) (M k 263585 0) (fun i => m 5 844257 0 (8 + i))
/-- the begins: at most B since a unit was reset; the ring of nine -/
def z_TF (c B : Nat) (A : Nat → Int32) (j : Nat → Int32) (n : Nat → Int32) (x : Nat → Nat → Int32) : Prop := ∀ u, u < c → ∃ a, a ≤ B ∧ j u = nI a ∧ n u = nI (min a 9) ∧
  ∀ i, i < min a 9 → x i u = A (u * 9 + (a - min a 9 + i) % 9)
def z_T (k c B : Nat) (M m : ux_M) : Prop := z_TF c B (M k 164993 0) (z_Y m 38) (z_Y m 45) (fun i u => z_Y m (46 + i) u)
def z_W (k c t B : Nat) (M m : ux_M) : Prop := z_H k c t M m ∧ z_C k c M m ∧ z_D k c M m ∧ z_J k c M m ∧ z_L k M m ∧ z_T k c B M m
section ZR
variable {k c t B u v a s : Nat} {M m M' m' : ux_M}
theorem z_W.le (h : z_W k c t B M m) : c ≤ 16 := h.1.1
theorem z_W.cnt (h : z_W k c t B M m) : M k 344085 0 0 = nI c := h.1.2.2.1
theorem z_W.cn (h : z_W k c t B M m) : m 5 844257 0 1 = nI c := h.1.2.2.2.1
theorem z_W.nw (h : z_W k c t B M m) : M k 16413 0 3 = nI t := h.1.2.2.2.2.1
theorem z_W.now (h : z_W k c t B M m) : m 5 844257 0 0 = nI t := h.1.2.2.2.2.2
theorem z_W.tl (h : z_W k c t B M m) : t ≤ 1003000 := h.1.2.1
theorem z_W.u16 (h : z_W k c t B M m) (hu : u < c) : u < 16 := Nat.lt_of_lt_of_le hu h.1.1
theorem z_W.d28 (h : z_W k c t B M m) (hu : u < c) : M k 65665 0 u = z_Y m 28 u := h.2.2.1 (28, 65665) (List.mem_of_getElem? (i := 0) rfl) u hu
theorem z_W.d32 (h : z_W k c t B M m) (hu : u < c) : M k 98433 0 u = z_Y m 32 u := h.2.2.1 (32, 98433) (List.mem_of_getElem? (i := 1) rfl) u hu
theorem z_W.d33 (h : z_W k c t B M m) (hu : u < c) : M k 114817 0 u = z_Y m 33 u := h.2.2.1 (33, 114817) (List.mem_of_getElem? (i := 2) rfl) u hu
theorem z_W.d34 (h : z_W k c t B M m) (hu : u < c) : M k 82049 0 u = z_Y m 34 u := h.2.2.1 (34, 82049) (List.mem_of_getElem? (i := 3) rfl) u hu
theorem z_W.d37 (h : z_W k c t B M m) (hu : u < c) : M k 131201 0 u = z_Y m 37 u := h.2.2.1 (37, 131201) (List.mem_of_getElem? (i := 4) rfl) u hu
theorem z_W.d38 (h : z_W k c t B M m) (hu : u < c) : M k 147585 0 u = z_Y m 38 u := h.2.2.1 (38, 147585) (List.mem_of_getElem? (i := 5) rfl) u hu
theorem z_W.d39 (h : z_W k c t B M m) (hu : u < c) : M k 180353 0 u = z_Y m 39 u := h.2.2.1 (39, 180353) (List.mem_of_getElem? (i := 6) rfl) u hu
theorem z_W.d40 (h : z_W k c t B M m) (hu : u < c) : M k 196737 0 u = z_Y m 40 u := h.2.2.1 (40, 196737) (List.mem_of_getElem? (i := 7) rfl) u hu
theorem z_W.d41 (h : z_W k c t B M m) (hu : u < c) : M k 327809 0 u = z_Y m 41 u := h.2.2.1 (41, 327809) (List.mem_of_getElem? (i := 8) rfl) u hu
theorem z_W.d42 (h : z_W k c t B M m) (hu : u < c) : M k 213121 0 u = z_Y m 42 u := h.2.2.1 (42, 213121) (List.mem_of_getElem? (i := 9) rfl) u hu
theorem z_W.d43 (h : z_W k c t B M m) (hu : u < c) : M k 229505 0 u = z_Y m 43 u := h.2.2.1 (43, 229505) (List.mem_of_getElem? (i := 10) rfl) u hu
theorem z_W.d44 (h : z_W k c t B M m) (hu : u < c) : M k 245889 0 u = z_Y m 44 u := h.2.2.1 (44, 245889) (List.mem_of_getElem? (i := 11) rfl) u hu
theorem z_W.cf (h : z_W k c t B M m) : z_CF c (fun s r i => if 344085 ≤ s ∧ s < 600000 then M k s r i else 0) (fun a u => if a < 28 then z_Y m a u else 0) := h.2.1
theorem z_W.kd (h : z_W k c t B M m) (hu : u < c) : M k 360577 0 u = z_Y m 0 u := (h.2.1.1 u hu).1
theorem z_W.nl (h : z_W k c t B M m) (hu : u < c) : M k 376961 0 u = z_Y m 1 u := (h.2.1.1 u hu).2.1
theorem z_W.sv (h : z_W k c t B M m) (hu : u < c) : M k 426113 0 u = z_Y m 20 u := (h.2.1.1 u hu).2.2.1
theorem z_W.bl (h : z_W k c t B M m) (hu : u < c) : M k 442497 0 u = z_Y m 21 u := (h.2.1.1 u hu).2.2.2.1
theorem z_W.pp (h : z_W k c t B M m) (hu : u < c) (i : Nat) (hi : i < 10) : M k 410881 0 (u * 10 + i) = z_Y m (10 + i) u := by
  have := (h.2.1.1 u hu).2.2.2.2.2.1 i hi
  simp only [show 10 + i < 28 by omega, if_true] at this
  exact this
theorem z_W.rl (h : z_W k c t B M m) (hu : u < c) (r : Nat) (hr : r < 6) : M k 475265 r u = z_Y m (22 + r) u := by
  have := (h.2.1.1 u hu).2.2.2.2.2.2.1 r hr
  simp only [show 22 + r < 28 by omega, if_true] at this
  exact this
theorem z_W.p0 (h : z_W k c t B M m) (hu : u < c) : M k 410881 0 (u * 10 + 0) = z_Y m 10 u := h.pp hu 0 (by omega)
theorem z_W.p1 (h : z_W k c t B M m) (hu : u < c) : M k 410881 0 (u * 10 + 1) = z_Y m 11 u := h.pp hu 1 (by omega)
theorem z_W.p2 (h : z_W k c t B M m) (hu : u < c) : M k 410881 0 (u * 10 + 2) = z_Y m 12 u := h.pp hu 2 (by omega)
theorem z_W.p3 (h : z_W k c t B M m) (hu : u < c) : M k 410881 0 (u * 10 + 3) = z_Y m 13 u := h.pp hu 3 (by omega)
theorem z_W.p4 (h : z_W k c t B M m) (hu : u < c) : M k 410881 0 (u * 10 + 4) = z_Y m 14 u := h.pp hu 4 (by omega)
theorem z_W.p5 (h : z_W k c t B M m) (hu : u < c) : M k 410881 0 (u * 10 + 5) = z_Y m 15 u := h.pp hu 5 (by omega)
theorem z_W.p6 (h : z_W k c t B M m) (hu : u < c) : M k 410881 0 (u * 10 + 6) = z_Y m 16 u := h.pp hu 6 (by omega)
theorem z_W.p7 (h : z_W k c t B M m) (hu : u < c) : M k 410881 0 (u * 10 + 7) = z_Y m 17 u := h.pp hu 7 (by omega)
theorem z_W.p8 (h : z_W k c t B M m) (hu : u < c) : M k 410881 0 (u * 10 + 8) = z_Y m 18 u := h.pp hu 8 (by omega)
theorem z_W.p9 (h : z_W k c t B M m) (hu : u < c) : M k 410881 0 (u * 10 + 9) = z_Y m 19 u := h.pp hu 9 (by omega)
theorem z_W.r0 (h : z_W k c t B M m) (hu : u < c) : M k 475265 0 u = z_Y m 22 u := h.rl hu 0 (by omega)
theorem z_W.r1 (h : z_W k c t B M m) (hu : u < c) : M k 475265 1 u = z_Y m 23 u := h.rl hu 1 (by omega)
theorem z_W.r2 (h : z_W k c t B M m) (hu : u < c) : M k 475265 2 u = z_Y m 24 u := h.rl hu 2 (by omega)
theorem z_W.r3 (h : z_W k c t B M m) (hu : u < c) : M k 475265 3 u = z_Y m 25 u := h.rl hu 3 (by omega)
theorem z_W.r4 (h : z_W k c t B M m) (hu : u < c) : M k 475265 4 u = z_Y m 26 u := h.rl hu 4 (by omega)
theorem z_W.r5 (h : z_W k c t B M m) (hu : u < c) : M k 475265 5 u = z_Y m 27 u := h.rl hu 5 (by omega)
theorem z_W.k012 (h : z_W k c t B M m) (hu : u < c) : z_Y m 0 u = 0 ∨ z_Y m 0 u = 1 ∨ z_Y m 0 u = 2 := (h.2.1.1 u hu).2.2.2.2.2.2.2.1
theorem z_W.rng (h : z_W k c t B M m) (hu : u < c) : (∃ n, n ≤ 100 ∧ z_Y m 10 u = nI n) ∧ (∃ n, n ≤ 100 ∧ z_Y m 11 u = nI n) ∧ (∃ n, n ≤ 1000 ∧ z_Y m 12 u = nI n) ∧ (∃ n, n ≤ 255 ∧ z_Y m 13 u = nI n) ∧ (∃ n, n ≤ 9 ∧ z_Y m 14 u = nI n)
    ∧ (∃ n, n ≤ 2 ∧ z_Y m 15 u = nI n) ∧ (∃ n, 1 ≤ n ∧ n ≤ 100 ∧ z_Y m 16 u = nI n) ∧ (∃ n, 1 ≤ n ∧ n ≤ 9 ∧ z_Y m 17 u = nI n) ∧ (∃ n, 1 ≤ n ∧ n ≤ 1000 ∧ z_Y m 18 u = nI n) ∧ (∃ n, n ≤ 1000 ∧ z_Y m 19 u = nI n) := by
  have q := (h.2.1.1 u hu).2.2.2.2.2.2.2.2
  exact ⟨q.1, q.2.1, q.2.2.1, q.2.2.2.1, q.2.2.2.2.1, q.2.2.2.2.2.1, q.2.2.2.2.2.2.1, q.2.2.2.2.2.2.2.1, q.2.2.2.2.2.2.2.2.1, q.2.2.2.2.2.2.2.2.2.1⟩
theorem z_W.ns (h : z_W k c t B M m) (hu : u < c) : ¬ z_Y m 0 u = 0 → z_Y m 14 u = 0 ∧ z_Y m 15 u = 0 := (h.2.1.1 u hu).2.2.2.2.2.2.2.2.2.2.2.2.2.2.2.2.2.2.1
theorem z_W.sk (h : z_W k c t B M m) (hu : u < c) : z_Y m 0 u = 1 → ∃ s, s < c ∧ z_Y m 20 u = nI s ∧ z_Y m 0 s = 0 := (h.2.1.1 u hu).2.2.2.2.2.2.2.2.2.2.2.2.2.2.2.2.2.2.2.1
theorem z_W.nk (h : z_W k c t B M m) (hu : u < c) : ¬ z_Y m 0 u = 1 → z_Y m 20 u = -1 := (h.2.1.1 u hu).2.2.2.2.2.2.2.2.2.2.2.2.2.2.2.2.2.2.2.2.1
theorem z_W.rb (h : z_W k c t B M m) (hu : u < c) (r : Nat) (hr : r < 6) (v : Nat) (hv : bt (z_Y m (22 + r) u) v = true) : v < c ∧ ¬ v = u := by
  have := (h.2.1.1 u hu).2.2.2.2.2.2.2.2.2.2.2.2.2.2.2.2.2.2.2.2.2.1 r hr v
  simp only [show 22 + r < 28 by omega, if_true] at this
  exact this hv
theorem z_W.bN (h : z_W k c t B M m) (hu : u < c) (v : Nat) : bt (M k 491649 0 u) v = (bt (z_Y m 22 u) v || bt (z_Y m 24 u) v) := (h.2.1.1 u hu).2.2.2.2.2.2.2.2.2.2.2.2.2.2.2.2.2.2.2.2.2.2.1 v
theorem z_W.bO (h : z_W k c t B M m) (hu : u < c) (hv : v < c) : bt (M k 508033 0 u) v = (bt (z_Y m 26 u) v || bt (z_Y m 26 v) u) := (h.2.1.1 u hu).2.2.2.2.2.2.2.2.2.2.2.2.2.2.2.2.2.2.2.2.2.2.2.1 v hv
theorem z_W.bF (h : z_W k c t B M m) (hu : u < c) (hv : v < c) : bt (M k 524417 0 u) v = (bt (z_Y m 22 v) u || bt (z_Y m 24 v) u || bt (z_Y m 25 v) u) := (h.2.1.1 u hu).2.2.2.2.2.2.2.2.2.2.2.2.2.2.2.2.2.2.2.2.2.2.2.2.1 v hv
theorem z_W.bL (h : z_W k c t B M m) (hu : u < c) (hv : v < c) : bt (M k 540801 0 u) v = bt (z_Y m 27 v) u := (h.2.1.1 u hu).2.2.2.2.2.2.2.2.2.2.2.2.2.2.2.2.2.2.2.2.2.2.2.2.2.1 v hv
theorem z_W.bZ (h : z_W k c t B M m) (hu : u < c) (hv : c ≤ v) : bt (M k 491649 0 u) v = false ∧ bt (M k 508033 0 u) v = false ∧ bt (M k 524417 0 u) v = false ∧ bt (M k 540801 0 u) v = false := (h.2.1.1 u hu).2.2.2.2.2.2.2.2.2.2.2.2.2.2.2.2.2.2.2.2.2.2.2.2.2.2 v hv
theorem z_W.cz (h : z_W k c t B M m) (hu : c ≤ u) (h16 : u < 16) : M k 491649 0 u = 0 ∧ M k 508033 0 u = 0 ∧ M k 524417 0 u = 0 ∧ M k 540801 0 u = 0 ∧ ∀ r, r < 6 → M k 475265 r u = 0 := h.2.1.2 u hu h16
theorem z_W.js (h : z_W k c t B M m) (hu : u < 32) : bt (M k 49197 0 0) u = (decide (u < c) && (decide (z_Y m 29 u = 1) || decide (z_Y m 29 u = 3))) := (h.2.2.2.1 u hu).1
theorem z_W.jr (h : z_W k c t B M m) (hu : u < 32) : bt (M k 49197 0 1) u = (decide (u < c) && decide (z_Y m 29 u = 3)) := (h.2.2.2.1 u hu).2.1
theorem z_W.jt (h : z_W k c t B M m) (hu : u < 32) : bt (M k 49197 0 2) u = (decide (u < c) && decide (z_Y m 29 u = 2)) := (h.2.2.2.1 u hu).2.2.1
theorem z_W.jn (h : z_W k c t B M m) (hu : u < 32) : bt (M k 49197 0 3) u = (decide (u < c) && decide (z_Y m 30 u = 1)) := (h.2.2.2.1 u hu).2.2.2.1
theorem z_W.jk (h : z_W k c t B M m) (hu : u < 32) : bt (M k 16413 0 4) u = (decide (u < c) && decide (z_Y m 31 u = 1)) := (h.2.2.2.1 u hu).2.2.2.2
theorem z_tf {a s : Nat} (h : (a, s) ∈ z_tab) : 28 ≤ a ∧ a < 45 ∧ ¬ a = 29 ∧ ¬ a = 30 ∧ ¬ a = 31 ∧ ¬ a = 35 ∧ ¬ a = 36 ∧ 60000 < s ∧ s < 344085 ∧ ¬ s = 263585 ∧ ¬ s = 164993 := by
  have q : ∀ p ∈ z_tab, 28 ≤ p.1 ∧ p.1 < 45 ∧ ¬ p.1 = 29 ∧ ¬ p.1 = 30 ∧ ¬ p.1 = 31 ∧ ¬ p.1 = 35 ∧ ¬ p.1 = 36 ∧ 60000 < p.2 ∧ p.2 < 344085 ∧ ¬ p.2 = 263585 ∧ ¬ p.2 = 164993 := by decide +kernel
  exact q (a, s) h
theorem z_ti {a s a' s' : Nat} (h : (a, s) ∈ z_tab) (h' : (a', s') ∈ z_tab) : s' = s ↔ a' = a := by
  have q : ∀ p ∈ z_tab, ∀ p' ∈ z_tab, (p'.2 = p.2 ↔ p'.1 = p.1) := by decide +kernel
  exact q (a, s) h (a', s') h'
/-- congruence: what the relation reads -/
theorem z_C.cong (h : z_C k c M m) (h1 : ∀ s r i, 344085 ≤ s → s < 600000 → M' k s r i = M k s r i) (h2 : ∀ a u, a < 28 → z_Y m' a u = z_Y m a u) : z_C k c M' m' := by
  have e1 : (fun s r i => if 344085 ≤ s ∧ s < 600000 then M' k s r i else 0) = (fun s r i => if 344085 ≤ s ∧ s < 600000 then M k s r i else 0) := by
    funext s r i; by_cases q : 344085 ≤ s ∧ s < 600000
    · rw [if_pos q, if_pos q, h1 s r i q.1 q.2]
    · rw [if_neg q, if_neg q]
  have e2 : (fun a u => if a < 28 then z_Y m' a u else 0) = (fun a u => if a < 28 then z_Y m a u else 0) := by
    funext a u; by_cases q : a < 28
    · rw [if_pos q, if_pos q, h2 a u q]
    · rw [if_neg q, if_neg q]
  unfold z_C; rw [e1, e2]; exact h
/-- THE FRAME: both memories may change where the relation does not read -/
theorem z_W.cong (h : z_W k c t B M m) (h1 : ∀ s r i, s < 20000 ∨ (40000 < s ∧ s < 270000) ∨ (320000 < s ∧ s < 600000) → M' k s r i = M k s r i) (h2 : ∀ i, m' 5 844257 0 i = m 5 844257 0 i) : z_W k c t B M' m' := by
  have hY : ∀ a u, z_Y m' a u = z_Y m a u := fun a u => h2 _
  obtain ⟨hH, hC, hD, hJ, hL, hT⟩ := h
  refine ⟨?_, hC.cong (fun s r i q q2 => h1 s r i (by omega)) (fun a u _ => hY a u), fun q hq u hu => ?_, ?_, ?_, ?_⟩
  · unfold z_H; rw [h1 344085 _ _ (by omega), h1 16413 _ _ (by omega), h2, h2]; exact hH
  · rw [hY, ← hD q hq u hu]
    have q2 : ∀ p ∈ z_tab, p.2 < 20000 ∨ (40000 < p.2 ∧ p.2 < 270000) ∨ (320000 < p.2 ∧ p.2 < 600000) := by decide +kernel
    exact h1 q.2 0 u (q2 q hq)
  · have e : z_Y m' 29 = z_Y m 29 := funext (hY 29)
    have e2 : z_Y m' 30 = z_Y m 30 := funext (hY 30)
    have e3 : z_Y m' 31 = z_Y m 31 := funext (hY 31)
    unfold z_J; rw [e, e2, e3, h1 49197 _ _ (by omega), h1 49197 _ _ (by omega), h1 49197 _ _ (by omega), h1 49197 _ _ (by omega), h1 16413 _ _ (by omega)]; exact hJ
  · have e : M' k 263585 0 = M k 263585 0 := funext (fun i => h1 263585 0 i (by omega))
    have e2 : (fun i => m' 5 844257 0 (8 + i)) = (fun i => m 5 844257 0 (8 + i)) := funext (fun i => h2 _)
    unfold z_L; rw [e, e2, h2, h1 16413 _ _ (by omega)]; exact hL
  · have e : M' k 164993 0 = M k 164993 0 := funext (fun i => h1 164993 0 i (by omega))
    have e2 : z_Y m' 38 = z_Y m 38 := funext (hY 38)
    have e3 : z_Y m' 45 = z_Y m 45 := funext (hY 45)
    have e4 : (fun i u => z_Y m' (46 + i) u) = (fun i u => z_Y m (46 + i) u) := by funext i u; exact hY _ _
    unfold z_T; rw [e, e2, e3, e4]; exact hT
/-- A WRITE ON BOTH SIDES -/
theorem z_W.wr (h : z_W k c t B M m) (hq : (a, s) ∈ z_tab) (ha : ¬ a = 38) (hu : u < c) (v : Int32) : z_W k c t B (ux_set M k s 0 u v) (z_P m a u v) := by
  obtain ⟨f1, f2, f3, f4, f5, f6, f7, f8, f9, f10, f11⟩ := z_tf hq
  obtain ⟨hH, hC, hD, hJ, hL, hT⟩ := h
  have hY : ∀ b w, b < 56 → ¬ b = a → z_Y (z_P m a u v) b w = z_Y m b w := fun b w hb hn => by rw [z_YP m u w v (by omega) hb, if_neg (fun q => hn q.1)]
  have hX : ∀ s' r i, ¬ s' = s → ux_set M k s 0 u v k s' r i = M k s' r i := fun s' r i hn => z_so hn
  have hI : ∀ i, i < 188 → z_P m a u v 5 844257 0 i = m 5 844257 0 i := fun i hi => z_Yc m a u v (Or.inr (Or.inr hi))
  refine ⟨?_, hC.cong (fun s' r i q _ => hX s' r i (by omega)) (fun b w hb => hY b w (by omega) (by omega)), fun q hq' w hw => ?_, ?_, ?_, ?_⟩
  · unfold z_H; rw [hX _ _ _ (by omega), hX _ _ _ (by omega), hI _ (by omega), hI _ (by omega)]; exact hH
  · have e := z_ti hq hq'
    have g := (z_tf (a := q.1) (s := q.2) hq').2.1
    rw [z_YP m u w v (by omega) (by omega), z_set, hD q hq' w hw]
    by_cases z : q.1 = a ∧ w = u
    · rw [if_pos z, if_pos ⟨rfl, e.mpr z.1, rfl, z.2⟩]
    · rw [if_neg z, if_neg (fun y => z ⟨e.mp y.2.1, y.2.2.2⟩)]
  · have e : z_Y (z_P m a u v) 29 = z_Y m 29 := funext (fun w => hY _ _ (by omega) (by omega))
    have e2 : z_Y (z_P m a u v) 30 = z_Y m 30 := funext (fun w => hY _ _ (by omega) (by omega))
    have e3 : z_Y (z_P m a u v) 31 = z_Y m 31 := funext (fun w => hY _ _ (by omega) (by omega))
    unfold z_J; rw [e, e2, e3, hX 49197 _ _ (by omega), hX 49197 _ _ (by omega), hX 49197 _ _ (by omega), hX 49197 _ _ (by omega), hX 16413 _ _ (by omega)]; exact hJ
  · have e : ux_set M k s 0 u v k 263585 0 = M k 263585 0 := funext (fun i => hX _ _ _ (by omega))
    have e2 : z_LF (M k 16413 0 18) (m 5 844257 0 2) (M k 263585 0) (fun i => z_P m a u v 5 844257 0 (8 + i)) := by
      obtain ⟨L, h1, h2, h3, h4⟩ := hL
      exact ⟨L, h1, h2, h3, fun i hi p hp => (hI _ (by omega)).trans (h4 i hi p hp)⟩
    unfold z_L; rw [e, hI _ (by omega), hX _ _ _ (by omega)]; exact e2
  · have e : ux_set M k s 0 u v k 164993 0 = M k 164993 0 := funext (fun i => hX _ _ _ (by omega))
    have e2 : z_Y (z_P m a u v) 38 = z_Y m 38 := funext (fun w => hY _ _ (by omega) (by omega))
    have e3 : z_Y (z_P m a u v) 45 = z_Y m 45 := funext (fun w => hY _ _ (by omega) (by omega))
    have e4 : z_TF c B (M k 164993 0) (z_Y m 38) (z_Y m 45) (fun i w => z_Y (z_P m a u v) (46 + i) w) := by
      intro w hw
      obtain ⟨n, h1, h2, h3, h4⟩ := hT w hw
      exact ⟨n, h1, h2, h3, fun i hi => (hY _ _ (by omega) (by omega)).trans (h4 i hi)⟩
    unfold z_T; rw [e, e2, e3]; exact e4
/-- a write of the reference alone: due, active-at -/
theorem z_W.wd (h : z_W k c t B M m) (ha : a = 35 ∨ a = 36) (u : Nat) (v : Int32) : z_W k c t B M (z_P m a u v) := by
  obtain ⟨hH, hC, hD, hJ, hL, hT⟩ := h
  have hY : ∀ b w, b < 56 → ¬ b = a → z_Y (z_P m a u v) b w = z_Y m b w := fun b w hb hn => by rw [z_YP m u w v (by omega) hb, if_neg (fun q => hn q.1)]
  have hI : ∀ i, i < 188 → z_P m a u v 5 844257 0 i = m 5 844257 0 i := fun i hi => z_Yc m a u v (Or.inr (Or.inr hi))
  refine ⟨?_, hC.cong (fun _ _ _ _ _ => rfl) (fun b w hb => hY b w (by omega) (by omega)), fun q hq' w hw => ?_, ?_, ?_, ?_⟩
  · unfold z_H; rw [hI _ (by omega), hI _ (by omega)]; exact hH
  · have g := z_tf (a := q.1) (s := q.2) hq'
    rw [hY _ _ (by omega) (by omega)]; exact hD q hq' w hw
  · have e : z_Y (z_P m a u v) 29 = z_Y m 29 := funext (fun w => hY _ _ (by omega) (by omega))
    have e2 : z_Y (z_P m a u v) 30 = z_Y m 30 := funext (fun w => hY _ _ (by omega) (by omega))
    have e3 : z_Y (z_P m a u v) 31 = z_Y m 31 := funext (fun w => hY _ _ (by omega) (by omega))
    unfold z_J; rw [e, e2, e3]; exact hJ
  · have e2 : z_LF (M k 16413 0 18) (m 5 844257 0 2) (M k 263585 0) (fun i => z_P m a u v 5 844257 0 (8 + i)) := by
      obtain ⟨L, h1, h2, h3, h4⟩ := hL
      exact ⟨L, h1, h2, h3, fun i hi p hp => (hI _ (by omega)).trans (h4 i hi p hp)⟩
    unfold z_L; rw [hI _ (by omega)]; exact e2
  · have e2 : z_Y (z_P m a u v) 38 = z_Y m 38 := funext (fun w => hY _ _ (by omega) (by omega))
    have e3 : z_Y (z_P m a u v) 45 = z_Y m 45 := funext (fun w => hY _ _ (by omega) (by omega))
    have e4 : z_TF c B (M k 164993 0) (z_Y m 38) (z_Y m 45) (fun i w => z_Y (z_P m a u v) (46 + i) w) := by
      intro w hw
      obtain ⟨n, h1, h2, h3, h4⟩ := hT w hw
      exact ⟨n, h1, h2, h3, fun i hi => (hY _ _ (by omega) (by omega)).trans (h4 i hi)⟩
    unfold z_T; rw [e2, e3]; exact e4
/-- A WRITE OF A JOB'S MASKS: the class's four masks (new values S R T N), the reference's job and running of the unit (new values j n) -/
theorem z_W.jb (h : z_W k c t B M m) (hu : u < c) (j n : Int32) (hM : ∀ s r i, ¬ s = 49197 → M' k s r i = M k s r i) (hi : ∀ i, m' 5 844257 0 i = if i = 188 + 56 * u + 29 then j else if i = 188 + 56 * u + 30 then n else m 5 844257 0 i)
    (hb : ∀ w, w < 32 → bt (M' k 49197 0 0) w = (if w = u then decide (j = 1) || decide (j = 3) else bt (M k 49197 0 0) w) ∧ bt (M' k 49197 0 1) w = (if w = u then decide (j = 3) else bt (M k 49197 0 1) w)
      ∧ bt (M' k 49197 0 2) w = (if w = u then decide (j = 2) else bt (M k 49197 0 2) w) ∧ bt (M' k 49197 0 3) w = (if w = u then decide (n = 1) else bt (M k 49197 0 3) w)) : z_W k c t B M' m' := by
  obtain ⟨hH, hC, hD, hJ, hL, hT⟩ := h
  have hc := hH.1
  have hY : ∀ b w, b < 56 → ¬ (b = 29 ∧ w = u) → ¬ (b = 30 ∧ w = u) → z_Y m' b w = z_Y m b w := fun b w hb h1 h2 => by unfold z_Y; rw [hi, if_neg (by omega), if_neg (by omega)]
  have hYj : ∀ w, z_Y m' 29 w = if w = u then j else z_Y m 29 w := fun w => by
    by_cases q : w = u
    · subst q; rw [if_pos rfl]; unfold z_Y; rw [hi, if_pos rfl]
    · rw [if_neg q]; exact hY _ _ (by omega) (fun z => q z.2) (fun z => q z.2)
  have hYn : ∀ w, z_Y m' 30 w = if w = u then n else z_Y m 30 w := fun w => by
    by_cases q : w = u
    · subst q; rw [if_pos rfl]; unfold z_Y; rw [hi, if_neg (by omega), if_pos rfl]
    · rw [if_neg q]; exact hY _ _ (by omega) (fun z => q z.2) (fun z => q z.2)
  have hI : ∀ i, i < 188 → m' 5 844257 0 i = m 5 844257 0 i := fun i hl => by rw [hi, if_neg (by omega), if_neg (by omega)]
  refine ⟨?_, hC.cong (fun s' r i q _ => hM s' r i (by omega)) (fun b w hb => hY b w (by omega) (by omega) (by omega)), fun q hq' w hw => ?_, ?_, ?_, ?_⟩
  · unfold z_H; rw [hM _ _ _ (by omega), hM _ _ _ (by omega), hI _ (by omega), hI _ (by omega)]; exact hH
  · have g := z_tf (a := q.1) (s := q.2) hq'
    rw [hY _ _ (by omega) (by omega) (by omega), hM _ _ _ (by omega)]; exact hD q hq' w hw
  · intro w hw
    obtain ⟨a1, a2, a3, a4⟩ := hb w hw
    obtain ⟨b1, b2, b3, b4, b5⟩ := hJ w hw
    rw [a1, a2, a3, a4, hM _ _ _ (by omega), hYj, hYn, hY 31 _ (by omega) (by omega) (by omega)]
    by_cases q : w = u
    · subst q; simp only [if_true, hu, decide_true, Bool.true_and]; exact ⟨trivial, trivial, trivial, trivial, by rw [b5]; simp [hu]⟩
    · simp only [if_neg q]; exact ⟨b1, b2, b3, b4, b5⟩
  · have e2 : z_LF (M k 16413 0 18) (m 5 844257 0 2) (M k 263585 0) (fun i => m' 5 844257 0 (8 + i)) := by
      obtain ⟨L, h1, h2, h3, h4⟩ := hL
      exact ⟨L, h1, h2, h3, fun i hi p hp => (hI _ (by omega)).trans (h4 i hi p hp)⟩
    have e : M' k 263585 0 = M k 263585 0 := funext (fun i => hM _ _ _ (by omega))
    unfold z_L; rw [e, hI _ (by omega), hM _ _ _ (by omega)]; exact e2
  · have e : M' k 164993 0 = M k 164993 0 := funext (fun i => hM _ _ _ (by omega))
    have e2 : z_Y m' 38 = z_Y m 38 := funext (fun w => hY _ _ (by omega) (by omega) (by omega))
    have e3 : z_Y m' 45 = z_Y m 45 := funext (fun w => hY _ _ (by omega) (by omega) (by omega))
    have e4 : z_TF c B (M k 164993 0) (z_Y m 38) (z_Y m 45) (fun i w => z_Y m' (46 + i) w) := by
      intro w hw
      obtain ⟨n, h1, h2, h3, h4⟩ := hT w hw
      exact ⟨n, h1, h2, h3, fun i hi => (hY _ _ (by omega) (by omega) (by omega)).trans (h4 i hi)⟩
    unfold z_T; rw [e, e2, e3]; exact e4
end ZR
