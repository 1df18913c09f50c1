/-! LOAD, 3: numbers -/
section ZL3
variable {M M' m C : ux_M} {T : Nat → Int32} {N i j p n lo hi : Nat} {a b c v x : Int32}
theorem z_wI {n : Nat} (h : n < 2 ^ 31) : (nI n).toInt64 = Int64.ofNat n := by
  refine Int64.toInt_inj.mp ?_
  rw [Int32.toInt_toInt64, nI_toInt h, Int64.toInt_ofNat_of_lt (by omega)]
theorem z_wlt {a b : Nat} (ha : a < 2 ^ 31) (hb : b < 2 ^ 31) : Int64.ofNat a < Int64.ofNat b ↔ a < b := by
  rw [Int64.lt_iff_toInt_lt, Int64.toInt_ofNat_of_lt (by omega), Int64.toInt_ofNat_of_lt (by omega)]; omega
theorem z_w32 {n : Nat} (h : n < 2 ^ 31) : ((nI n).toInt64).toInt32 = nI n := by
  refine Int32.toInt_inj.mp ?_
  rw [Int64.toInt_toInt32, Int32.toInt_toInt64, nI_toInt h]
  exact Int.bmod_eq_of_le_mul_two (by omega) (by omega)
theorem z_wst {v d : Nat} (hv : v < 100000000) (hd : d < 1000) : ((Int64.ofNat 10) * (nI v).toInt64 + (nI (48 + d)).toInt64) - Int64.ofNat 48 = (nI (10 * v + d)).toInt64 := by
  rw [z_wI (show v < 2 ^ 31 by omega), z_wI (show 48 + d < 2 ^ 31 by omega), z_wI (show 10 * v + d < 2 ^ 31 by omega), ← Int64.ofNat_mul, ← Int64.ofNat_add, show 10 * v + (48 + d) = 10 * v + d + 48 by omega, Int64.ofNat_add, Int64.add_sub_cancel]
theorem z_vst {v d : Nat} : nI v * (10 : Int32) + nI (48 + d) - (48 : Int32) = nI (10 * v + d) := by
  have e : nI v * (10 : Int32) = nI (10 * v) := by
    show Int32.ofNat v * Int32.ofNat 10 = Int32.ofNat _
    rw [← Int32.ofNat_mul, Nat.mul_comm]
  rw [e, z_add, show 10 * v + (48 + d) = 10 * v + d + 48 by omega, ← z_add]
  exact Int32.add_sub_cancel _ _
def z_vn (T : Nat → Int32) (cap : Nat) : Nat → Nat → Nat → Nat
  | 0, _, v => v
  | n + 1, i, v => z_vn T cap n (i + 1) (min (10 * v + ((T i).toNatClampNeg - 48)) cap)
theorem z_dg (h : z_xD T N i = true) : i < N ∧ ∃ d : Nat, d ≤ 9 ∧ T i = nI (48 + d) ∧ (T i).toNatClampNeg - 48 = d := by
  unfold z_xD at h
  simp only [Bool.and_eq_true, decide_eq_true_eq, Bool.not_eq_true', decide_eq_false_iff_not] at h
  obtain ⟨h1, h2, h3⟩ := h
  have h0 : ¬ T i < 0 := by rw [Int32.lt_iff_toInt_lt] at h2 ⊢; have : (48 : Int32).toInt = 48 := by decide
                            have : (0 : Int32).toInt = 0 := by decide
                            omega
  obtain ⟨j, hj, e⟩ := nI_of2 (n := 57) (M := 57) (x := T i) (by decide) h0 ((z_nlI (T i) 57).mp h3)
  have j48 : 48 ≤ j := by
    apply Classical.byContradiction; intro z
    exact h2 (by rw [e]; exact (z_lt (b := 48) (by omega) (by omega)).mpr (by omega))
  refine ⟨h1, j - 48, by omega, ?_, ?_⟩
  · rw [e, show 48 + (j - 48) = j by omega]
  · rw [e, z_cls (by omega)]
theorem z_vn_le {cap : Nat} : ∀ n i v, v ≤ cap → z_vn T cap n i v ≤ cap := by
  intro n
  induction n with
  | zero => intro i v h; exact h
  | succ n ih => intro i v h; exact ih _ _ (by omega)
theorem z_vn2 : ∀ n i v, z_vn T 10000 n i (min v 10000) = min (z_vn T 1000000 n i v) 10000 := by
  intro n
  induction n with
  | zero => intro i v; rfl
  | succ n ih =>
    intro i v
    show z_vn T 10000 n (i + 1) _ = min (z_vn T 1000000 n (i + 1) _) 10000
    rw [← ih]
    congr 1
    omega
/-- both values lie in a range, and are the same there -/
theorem z_vnr (h : hi ≤ 1000) : (lo ≤ z_vn T 10000 n i 0 ∧ z_vn T 10000 n i 0 ≤ hi ↔ lo ≤ z_vn T 1000000 n i 0 ∧ z_vn T 1000000 n i 0 ≤ hi) ∧ (z_vn T 10000 n i 0 ≤ hi → z_vn T 1000000 n i 0 = z_vn T 10000 n i 0) := by
  have e := z_vn2 (T := T) n i 0
  rw [show min 0 10000 = 0 from rfl] at e
  omega
theorem z_xpd (hp : p ≤ N) : (z_xp T N p = 2 ↔ z_xD T N p = true) ∧ (z_xD T N p = true → z_xe T N p = z_xn (z_xD T N) N p ∧ p < z_xn (z_xD T N) N p) := by
  have nl : z_xD T N p = true → ¬ N ≤ p ∧ ¬ z_xL T N p = true := fun g => by
    obtain ⟨g1, d, g2, g3, _⟩ := z_dg g
    refine ⟨by omega, ?_⟩
    have : T p < 97 := by rw [g3]; exact (z_lt (b := 97) (by omega) (by omega)).mpr (by omega)
    unfold z_xL; simp only [this, decide_true, Bool.not_true, Bool.false_and, Bool.and_false]; decide
  refine ⟨?_, fun q => ?_⟩
  · unfold z_xp
    by_cases g : z_xD T N p = true
    · obtain ⟨g1, g2⟩ := nl g
      rw [if_neg g1, if_neg g2, if_pos g]; exact ⟨fun _ => g, fun _ => rfl⟩
    · refine ⟨fun z => absurd z ?_, fun z => absurd z g⟩
      rw [if_neg g]
      split
      · decide
      · split
        · decide
        · split <;> decide
  · obtain ⟨g1, g2⟩ := nl q
    unfold z_xe
    rw [if_neg g1, if_neg g2, if_pos q]
    refine ⟨rfl, ?_⟩
    have := (z_xn_b (P := z_xD T N) (N := N) (N - (p + 1)) (p + 1) (by omega)).1
    rw [z_xn_t (by omega) q]; omega
/-- refuse; fails -/
def z_er (C : ux_M) (k q : Int32) : ux_M := ux_set (ux_set C 4 671757 0 6 k) 4 671757 0 7 q
def z_fw (m : ux_M) (k q : Int32) : ux_M := ux_set (ux_set m 5 819253 0 12 k) 5 819253 0 11 q
theorem z_160 (h12 : m 5 819253 0 12 = 0) : p_160 a m ∧ r_160 a m = 0 ∧ m_160 a m = z_fw m a (m 5 819253 0 10) := by
  unfold p_160 r_160 m_160
  rw [if_pos h12, if_pos h12]
  refine ⟨trivial, rfl, ?_⟩
  show ux_set (ux_set m 5 819253 0 12 a) 5 819253 0 11 (ux_set m 5 819253 0 12 a 5 819253 0 10) = _
  rw [z_si (by decide)]; rfl
theorem z_25l (h : z_rd4 C T N) {e : Nat} (h5 : C 4 671757 0 5 = nI e) (he : e ≤ N) (hd : ∀ j, p ≤ j → j < e → z_xD T N j = true) : ∀ n f i v, i + n = e → p ≤ i → n < f → v ≤ 10000 →
    (p_25_74 a b (nI (z_vn T 10000 n i v)) C → p_25_27 f a b (nI v) (nI i) C) ∧ r_25_27 f a b (nI v) (nI i) C = r_25_74 a b (nI (z_vn T 10000 n i v)) C ∧ m_25_27 f a b (nI v) (nI i) C = m_25_74 a b (nI (z_vn T 10000 n i v)) C := by
  obtain ⟨hN, h1, h2, hT⟩ := h
  intro n
  induction n with
  | zero =>
    intro f i v hi hp hf hv
    obtain ⟨f, rfl⟩ : ∃ g, f = g + 1 := ⟨f - 1, by omega⟩
    have le : nI e ≤ nI i := (z_le (by omega) (by omega)).mpr (by omega)
    rw [p_25_27, r_25_27, m_25_27, h5, if_pos le, if_pos le]
    exact ⟨fun q => ⟨fun _ => q, fun z => absurd le z⟩, rfl, rfl⟩
  | succ n ih =>
    intro f i v hi hp hf hv
    obtain ⟨f, rfl⟩ : ∃ g, f = g + 1 := ⟨f - 1, by omega⟩
    have le : ¬ nI e ≤ nI i := fun z => by have := (z_le (by omega) (by omega)).mp z; omega
    have le8 : ¬ Int32.ofNat 800 ≤ nI i := fun z => by have := (z_le (a := 800) (by omega) (by omega)).mp z; omega
    obtain ⟨d1, d, d2, d3, d4⟩ := z_dg (hd i hp (by omega))
    have ev : (if nI (10 * v + d) < 10000 then nI (10 * v + d) else 10000) = nI (min (10 * v + d) 10000) := by
      by_cases q : 10 * v + d < 10000
      · have q' : nI (10 * v + d) < 10000 := (z_lt (b := 10000) (by omega) (by omega)).mpr q
        rw [if_pos q', show min (10 * v + d) 10000 = 10 * v + d by omega]
      · have q' : ¬ nI (10 * v + d) < 10000 := fun z => q ((z_lt (b := 10000) (by omega) (by omega)).mp z)
        rw [if_neg q', show min (10 * v + d) 10000 = 10000 by omega]; rfl
    obtain ⟨i1, i2, i3⟩ := ih f (i + 1) (min (10 * v + d) 10000) (by omega) (by omega) (by omega) (by omega)
    have evn : z_vn T 10000 (n + 1) i v = z_vn T 10000 n (i + 1) (min (10 * v + d) 10000) := by
      show z_vn T 10000 n (i + 1) (min (10 * v + ((T i).toNatClampNeg - 48)) 10000) = _
      rw [d4]
    rw [p_25_27, r_25_27, m_25_27, h5, if_neg le, if_neg le, if_neg le8, if_neg le8, h1, z_cls (show i < 2000000000 by omega), hT i d1, d3, z_vst, ev, z_nx, evn]
    exact ⟨fun q => ⟨fun z => absurd z le, fun _ => ⟨rfl, fun z => absurd z le8, fun _ => ⟨rfl, vp_in_nI (by omega) (by omega), i1 q⟩⟩⟩, i2, i3⟩
/-- the class's readNumber -/
theorem z_25 (h : z_rd4 C T N) (hp : p ≤ N) (hhi : hi ≤ 1000) (hlo : lo ≤ 1000) (h3 : C 4 671757 0 3 = z_xp T N p) (h4 : C 4 671757 0 4 = nI p) (h5 : C 4 671757 0 5 = nI (z_xe T N p)) (hg : p_10 C) :
    p_25 (nI lo) (nI hi) C ∧ (¬ z_xD T N p = true → r_25 (nI lo) (nI hi) C = -1 ∧ m_25 (nI lo) (nI hi) C = z_er C 1 (nI p))
    ∧ (z_xD T N p = true → (lo ≤ z_vn T 10000 (z_xn (z_xD T N) N p - p) p 0 ∧ z_vn T 10000 (z_xn (z_xD T N) N p - p) p 0 ≤ hi → r_25 (nI lo) (nI hi) C = nI (z_vn T 10000 (z_xn (z_xD T N) N p - p) p 0) ∧ m_25 (nI lo) (nI hi) C = m_10 C)
      ∧ (¬ (lo ≤ z_vn T 10000 (z_xn (z_xD T N) N p - p) p 0 ∧ z_vn T 10000 (z_xn (z_xD T N) N p - p) p 0 ≤ hi) → r_25 (nI lo) (nI hi) C = -1 ∧ m_25 (nI lo) (nI hi) C = z_er C 2 (nI p))) := by
  have hN := h.1
  obtain ⟨x1, x2⟩ := z_xpd (T := T) hp
  unfold p_25 r_25 m_25
  rw [h3, h4]
  by_cases q : z_xD T N p = true
  · obtain ⟨y1, y2⟩ := x2 q
    have e2 := x1.mpr q
    obtain ⟨w1, w2, w3, _⟩ := z_xn_b (P := z_xD T N) (N := N) (N - p) p (by omega)
    rw [y1] at h5
    obtain ⟨a1, a2, a3⟩ := z_25l (a := nI lo) (b := nI hi) h h5 w2 w3 (z_xn (z_xD T N) N p - p) ux_fuel p 0 (by omega) (Nat.le_refl _) (by have := z_fuel; omega) (by omega)
    obtain ⟨V, eV⟩ : ∃ V, V = z_vn T 10000 (z_xn (z_xD T N) N p - p) p 0 := ⟨_, rfl⟩
    have hV : V ≤ 10000 := by rw [eV]; exact z_vn_le _ _ _ (by omega)
    rw [← eV] at a1 a2 a3 ⊢
    have a1' : p_25_74 (nI lo) (nI hi) (nI V) C → p_25_27 ux_fuel (nI lo) (nI hi) 0 (nI p) C := a1
    have a2' : r_25_27 ux_fuel (nI lo) (nI hi) 0 (nI p) C = r_25_74 (nI lo) (nI hi) (nI V) C := a2
    have a3' : m_25_27 ux_fuel (nI lo) (nI hi) 0 (nI p) C = m_25_74 (nI lo) (nI hi) (nI V) C := a3
    rw [if_pos e2, if_pos e2, a2', a3']
    refine ⟨⟨fun _ => a1' ?_, fun z => absurd e2 z⟩, fun z => absurd q z, fun _ => ⟨fun g => ?_, fun g => ?_⟩⟩
    · unfold p_25_74; exact ⟨fun _ => trivial, fun _ => ⟨fun _ => hg, fun _ => trivial⟩⟩
    · have g1 : ¬ nI V < nI lo := fun z => by have := (z_lt (by omega) (by omega)).mp z; omega
      have g2 : nI V ≤ nI hi := (z_le (by omega) (by omega)).mpr g.2
      unfold r_25_74 m_25_74
      rw [if_neg g1, if_pos g2, if_neg g1, if_pos g2]; exact ⟨rfl, rfl⟩
    · unfold r_25_74 m_25_74
      rw [h4]
      by_cases g1 : nI V < nI lo
      · rw [if_pos g1, if_pos g1]; exact ⟨rfl, rfl⟩
      · have g2 : ¬ nI V ≤ nI hi := fun z => g ⟨by
          apply Classical.byContradiction; intro y
          exact g1 ((z_lt (by omega) (by omega)).mpr (by omega)), (z_le (by omega) (by omega)).mp z⟩
        rw [if_neg g1, if_neg g2, if_neg g1, if_neg g2]; exact ⟨rfl, rfl⟩
  · have n2 : ¬ z_xp T N p = 2 := fun z => q (x1.mp z)
    rw [if_neg n2, if_neg n2]
    exact ⟨⟨fun z => absurd z n2, fun _ => trivial⟩, fun _ => ⟨rfl, rfl⟩, fun z => absurd z q⟩
theorem z_166l (h : z_rd5 m T N) (hx : vp_in x 1084) (h12 : m 5 819253 0 12 = 0) : ∀ n f i v, i + n = N → n < f → v ≤ 1000000 →
    ∃ k, k = z_xn (z_xD T N) N i ∧ p_166_25 f x (nI lo) (nI hi) (nI v).toInt64 (z_pnt m (nI i) (nI p)) ∧ (¬ nI (z_vn T 1000000 (k - i) i v) < nI lo ∧ ¬ nI hi < nI (z_vn T 1000000 (k - i) i v) → r_166_25 f x (nI lo) (nI hi) (nI v).toInt64 (z_pnt m (nI i) (nI p)) = 1 ∧ m_166_25 f x (nI lo) (nI hi) (nI v).toInt64 (z_pnt m (nI i) (nI p)) = ux_set (z_pnt m (nI k) (nI p)) 5 877025 0 x.toNatClampNeg (nI (z_vn T 1000000 (k - i) i v)))
      ∧ (¬ (¬ nI (z_vn T 1000000 (k - i) i v) < nI lo ∧ ¬ nI hi < nI (z_vn T 1000000 (k - i) i v)) → r_166_25 f x (nI lo) (nI hi) (nI v).toInt64 (z_pnt m (nI i) (nI p)) = 0 ∧ m_166_25 f x (nI lo) (nI hi) (nI v).toInt64 (z_pnt m (nI i) (nI p)) = z_fw (z_pnt m (nI k) (nI p)) 2 (nI p)) := by
  have hN := h.1
  have h10 : ¬ (1 : Int32) = 0 := by decide
  have stop : ∀ f i v, i ≤ N → ¬ z_xD T N i = true → v ≤ 1000000 →
      p_166_25 (f + 1) x (nI lo) (nI hi) (nI v).toInt64 (z_pnt m (nI i) (nI p)) ∧ (¬ nI v < nI lo ∧ ¬ nI hi < nI v → r_166_25 (f + 1) x (nI lo) (nI hi) (nI v).toInt64 (z_pnt m (nI i) (nI p)) = 1 ∧ m_166_25 (f + 1) x (nI lo) (nI hi) (nI v).toInt64 (z_pnt m (nI i) (nI p)) = ux_set (z_pnt m (nI i) (nI p)) 5 877025 0 x.toNatClampNeg (nI v))
      ∧ (¬ (¬ nI v < nI lo ∧ ¬ nI hi < nI v) → r_166_25 (f + 1) x (nI lo) (nI hi) (nI v).toInt64 (z_pnt m (nI i) (nI p)) = 0 ∧ m_166_25 (f + 1) x (nI lo) (nI hi) (nI v).toInt64 (z_pnt m (nI i) (nI p)) = z_fw (z_pnt m (nI i) (nI p)) 2 (nI p)) := fun f i v hiN q hv => by
    obtain ⟨a1, a2⟩ := z_167 (i := i) (h.pnt (a := nI i) (b := nI p)) (by omega)
    rw [if_neg q] at a2
    obtain ⟨b1, b2, b3⟩ := z_160 (m := z_pnt m (nI i) (nI p)) (a := 2) ((z_pnt_i (by omega)).trans h12)
    rw [z_pnt_10] at b3
    have iff := z_i64 (nI v) (nI lo) (nI hi) (L := (nI hi).toInt64) rfl
    rw [p_166_25, r_166_25, m_166_25, z_pnt_9, a2, if_pos rfl, if_pos rfl, z_w32 (show v < 2 ^ 31 by omega)]
    refine ⟨⟨a1, fun _ => ⟨fun _ => hx, fun _ => ⟨b1, .inl b2⟩⟩, fun z => absurd rfl z⟩, fun g => ?_, fun g => ?_⟩
    · rw [if_pos (iff.mpr g), if_pos (iff.mpr g)]; exact ⟨rfl, rfl⟩
    · have g' := fun z => g (iff.mp z)
      rw [if_neg g', if_neg g']; exact ⟨b2, b3⟩
  intro n
  induction n with
  | zero =>
    intro f i v hi hf hv
    obtain ⟨f, rfl⟩ : ∃ g, f = g + 1 := ⟨f - 1, by omega⟩
    have q : ¬ z_xD T N i = true := fun z => by have := (z_dg z).1; omega
    refine ⟨i, (z_xn_f q).symm, ?_⟩
    rw [Nat.sub_self]; exact stop f i v (by omega) q hv
  | succ n ih =>
    intro f i v hi hf hv
    obtain ⟨f, rfl⟩ : ∃ g, f = g + 1 := ⟨f - 1, by omega⟩
    by_cases q : z_xD T N i = true
    · obtain ⟨d1, d, d2, d3, d4⟩ := z_dg q
      obtain ⟨a1, a2⟩ := z_167 (i := i) (h.pnt (a := nI i) (b := nI p)) (by omega)
      obtain ⟨c1, c2⟩ := z_153 (i := i) (h.pnt (a := nI i) (b := nI p)) (by omega)
      rw [if_pos q] at a2
      rw [if_neg (show ¬ N ≤ i by omega), d3] at c2
      obtain ⟨k, k0, k1, k2, k3⟩ := ih f (i + 1) (min (10 * v + d) 1000000) (by omega) (by omega) (by omega)
      have kb := (z_xn_b (P := z_xD T N) (N := N) (N - (i + 1)) (i + 1) (by omega)).1
      rw [← k0] at kb
      have ev : (if Int64.ofNat 1000000 < (nI (10 * v + d)).toInt64 then Int64.ofNat 1000000 else (nI (10 * v + d)).toInt64) = (nI (min (10 * v + d) 1000000)).toInt64 := by
        rw [z_wI (show 10 * v + d < 2 ^ 31 by omega), z_wI (show min (10 * v + d) 1000000 < 2 ^ 31 by omega)]
        by_cases g : 1000000 < 10 * v + d
        · rw [if_pos ((z_wlt (by omega) (by omega)).mpr g), show min (10 * v + d) 1000000 = 1000000 by omega]
        · rw [if_neg (fun z => g ((z_wlt (by omega) (by omega)).mp z)), show min (10 * v + d) 1000000 = 10 * v + d by omega]
      have evn : z_vn T 1000000 (k - i) i v = z_vn T 1000000 (k - (i + 1)) (i + 1) (min (10 * v + d) 1000000) := by
        rw [show k - i = k - (i + 1) + 1 by omega]
        show z_vn T 1000000 (k - (i + 1)) (i + 1) (min (10 * v + ((T i).toNatClampNeg - 48)) 1000000) = _
        rw [d4]
      refine ⟨k, k0.trans (z_xn_t (by omega) q).symm, ?_⟩
      rw [p_166_25, r_166_25, m_166_25, z_pnt_9, a2, if_neg h10, if_neg h10, c2, z_wst (by omega) (by omega), ev, z_pnt_s9, z_nx, evn]
      exact ⟨⟨a1, fun z => absurd z h10, fun _ => ⟨c1, fun M13 e => by subst e; exact k1⟩⟩, k2, k3⟩
    · refine ⟨i, (z_xn_f q).symm, ?_⟩
      rw [Nat.sub_self]; exact stop f i v (by omega) q hv
/-- the reference's reads -/
theorem z_166 (h : z_rd5 m T N) (hi9 : i ≤ N) (h9 : m 5 819253 0 9 = nI i) (hx : vp_in x 1084) (h12 : m 5 819253 0 12 = 0) (hhi : hi ≤ 1000) (hlo : lo ≤ 1000) (ep : p = z_xn (z_xB T N) N i) :
    p_166 x (nI lo) (nI hi) m ∧ (¬ z_xD T N p = true → r_166 x (nI lo) (nI hi) m = 0 ∧ m_166 x (nI lo) (nI hi) m = z_fw (z_pnt m (nI p) (nI p)) 1 (nI p))
    ∧ (z_xD T N p = true → (lo ≤ z_vn T 1000000 (z_xn (z_xD T N) N p - p) p 0 ∧ z_vn T 1000000 (z_xn (z_xD T N) N p - p) p 0 ≤ hi → r_166 x (nI lo) (nI hi) m = 1 ∧ m_166 x (nI lo) (nI hi) m = ux_set (z_pnt m (nI (z_xn (z_xD T N) N p)) (nI p)) 5 877025 0 x.toNatClampNeg (nI (z_vn T 1000000 (z_xn (z_xD T N) N p - p) p 0)))
      ∧ (¬ (lo ≤ z_vn T 1000000 (z_xn (z_xD T N) N p - p) p 0 ∧ z_vn T 1000000 (z_xn (z_xD T N) N p - p) p 0 ≤ hi) → r_166 x (nI lo) (nI hi) m = 0 ∧ m_166 x (nI lo) (nI hi) m = z_fw (z_pnt m (nI (z_xn (z_xD T N) N p)) (nI p)) 2 (nI p))) := by
  have hN := h.1
  have h10 : ¬ (1 : Int32) = 0 := by decide
  have hp : p ≤ N := by rw [ep]; exact (z_xn_b (P := z_xB T N) (N := N) (N - i) i (by omega)).2.1
  obtain ⟨s1, _, s3⟩ := z_see h hi9 h9
  rw [← ep] at s3
  obtain ⟨a1, a2⟩ := z_167 (i := p) (h.pnt (a := nI p) (b := nI p)) (by omega)
  unfold p_166 r_166 m_166
  rw [s3, z_pnt_9, a2]
  by_cases q : z_xD T N p = true
  · obtain ⟨k, k0, k1, k2, k3⟩ := z_166l (lo := lo) (hi := hi) (p := p) h hx h12 (N - p) ux_fuel p 0 (by omega) (by have := z_fuel; omega) (by omega)
    subst k0
    have hV := z_vn_le (T := T) (cap := 1000000) (z_xn (z_xD T N) N p - p) p 0 (by omega)
    rw [if_pos q, if_neg h10, if_neg h10]
    have iff : ∀ V : Nat, V ≤ 1000000 → ((¬ nI V < nI lo ∧ ¬ nI hi < nI V) ↔ (lo ≤ V ∧ V ≤ hi)) := fun V hV => by
      rw [z_lt (show V < 2000000000 by omega) (show lo < 2000000000 by omega), z_lt (show hi < 2000000000 by omega) (show V < 2000000000 by omega)]; omega
    refine ⟨⟨s1, a1, fun _ => k1, fun z => absurd z h10⟩, fun z => absurd q z, fun _ => ⟨fun g => k2 ((iff _ hV).mpr g), fun g => k3 (fun z => g ((iff _ hV).mp z))⟩⟩
  · obtain ⟨b1, b2, b3⟩ := z_160 (m := z_pnt m (nI p) (nI p)) (a := 1) ((z_pnt_i (by omega)).trans h12)
    rw [z_pnt_10] at b3
    rw [if_neg q, if_pos rfl, if_pos rfl]
    exact ⟨⟨s1, a1, fun z => absurd rfl z, fun _ => ⟨b1, .inl b2⟩⟩, fun _ => ⟨b2, b3⟩, fun z => absurd z q⟩
end ZL3
