/-! LOAD, 2: the reference looks at the text (by wip/whole/gen99w.py) -/
section ZL2
variable {M M' m : ux_M} {T : Nat → Int32} {N i j p n : Nat} {a b c v : Int32} {P : Nat → Bool}
def z_rd5 (M : ux_M) (T : Nat → Int32) (N : Nat) : Prop := N ≤ 800 ∧ M 5 819253 0 8 = nI N ∧ ∀ i, i < N → M 5 940289 0 i = T i
theorem z_153 (h : z_rd5 M T N) (hi : i ≤ 2000) : p_153 (nI i) M ∧ r_153 (nI i) M = if N ≤ i then -1 else T i := by
  obtain ⟨hN, h1, h2⟩ := h
  unfold p_153 r_153
  rw [h1]
  by_cases q : N ≤ i
  · have le : nI N ≤ nI i := (z_le (by omega) (by omega)).mpr q
    rw [if_pos le, if_pos q]
    exact ⟨⟨fun _ => trivial, fun z => absurd le z⟩, rfl⟩
  · have le : ¬ nI N ≤ nI i := fun z => q ((z_le (by omega) (by omega)).mp z)
    rw [if_neg le, if_neg q, z_cls (show i < 2000000000 by omega)]
    exact ⟨⟨fun z => absurd z le, fun _ => vp_in_nI (by omega) (by omega)⟩, h2 i (by omega)⟩
theorem z_156 (h : z_rd5 M T N) (hi : i ≤ 2000) : p_156 (nI i) M ∧ r_156 (nI i) M = if z_xL T N i = true then 1 else 0 := by
  obtain ⟨a1, a2⟩ := z_153 h hi
  refine ⟨a1, ?_⟩
  unfold r_156
  rw [a2]
  have iff := z_i64 (if N ≤ i then -1 else T i) 97 122 (L := Int64.ofNat 122) (by decide)
  have e97 : Int64.ofNat 97 = (97 : Int32).toInt64 := by decide
  rw [e97]
  by_cases q : N ≤ i
  · have ng : ¬ (¬ (if N ≤ i then -1 else T i) < 97 ∧ ¬ 122 < (if N ≤ i then -1 else T i)) := by rw [if_pos q]; decide
    have e : ¬ z_xL T N i = true := by unfold z_xL; simp only [show ¬ i < N by omega, decide_false, Bool.false_and]; decide
    rw [if_neg (fun z => ng (iff.mp z)), if_neg e]
  · rw [if_neg q] at iff ⊢
    have e : z_xL T N i = true ↔ ¬ T i < 97 ∧ ¬ 122 < T i := by
      unfold z_xL; simp only [show i < N by omega, decide_true, Bool.true_and, Bool.and_eq_true, Bool.not_eq_true', decide_eq_false_iff_not]
    by_cases g : z_xL T N i = true
    · rw [if_pos (iff.mpr (e.mp g)), if_pos g]
    · rw [if_neg (fun z => g (e.mpr (iff.mp z))), if_neg g]
theorem z_167 (h : z_rd5 M T N) (hi : i ≤ 2000) : p_167 (nI i) M ∧ r_167 (nI i) M = if z_xD T N i = true then 1 else 0 := by
  obtain ⟨a1, a2⟩ := z_153 h hi
  refine ⟨a1, ?_⟩
  unfold r_167
  rw [a2]
  have iff := z_i64 (if N ≤ i then -1 else T i) 48 57 (L := Int64.ofNat 57) (by decide)
  have e97 : Int64.ofNat 48 = (48 : Int32).toInt64 := by decide
  rw [e97]
  by_cases q : N ≤ i
  · have ng : ¬ (¬ (if N ≤ i then -1 else T i) < 48 ∧ ¬ 57 < (if N ≤ i then -1 else T i)) := by rw [if_pos q]; decide
    have e : ¬ z_xD T N i = true := by unfold z_xD; simp only [show ¬ i < N by omega, decide_false, Bool.false_and]; decide
    rw [if_neg (fun z => ng (iff.mp z)), if_neg e]
  · rw [if_neg q] at iff ⊢
    have e : z_xD T N i = true ↔ ¬ T i < 48 ∧ ¬ 57 < T i := by
      unfold z_xD; simp only [show i < N by omega, decide_true, Bool.true_and, Bool.and_eq_true, Bool.not_eq_true', decide_eq_false_iff_not]
    by_cases g : z_xD T N i = true
    · rw [if_pos (iff.mpr (e.mp g)), if_pos g]
    · rw [if_neg (fun z => g (e.mpr (iff.mp z))), if_neg g]
theorem z_155l (h : z_rd5 M T N) : ∀ n f i, i + n = N → n < f → p_155_5 f (nI i) M ∧ r_155_5 f (nI i) M = nI (z_xn (z_xL T N) N i) := by
  have hN := h.1
  have h10 : ¬ (1 : Int32) = 0 := by decide
  intro n
  induction n with
  | zero =>
    intro f i hi hf
    obtain ⟨f, rfl⟩ : ∃ g, f = g + 1 := ⟨f - 1, by omega⟩
    obtain ⟨a1, a2⟩ := z_156 (i := i) h (by omega)
    have e : ¬ z_xL T N i = true := by unfold z_xL; simp only [show ¬ i < N by omega, decide_false, Bool.false_and]; decide
    rw [if_neg e] at a2
    rw [p_155_5, r_155_5, a2, if_pos rfl, z_xn_f e]
    exact ⟨⟨a1, fun _ => trivial, fun z => absurd rfl z⟩, rfl⟩
  | succ n ih =>
    intro f i hi hf
    obtain ⟨f, rfl⟩ : ∃ g, f = g + 1 := ⟨f - 1, by omega⟩
    obtain ⟨a1, a2⟩ := z_156 (i := i) h (by omega)
    rw [p_155_5, r_155_5, a2, z_nx]
    by_cases e : z_xL T N i = true
    · obtain ⟨i1, i2⟩ := ih f (i + 1) (by omega) (by omega)
      rw [if_pos e, if_neg h10, z_xn_t (by omega) e]
      exact ⟨⟨a1, fun z => absurd z h10, fun _ => i1⟩, i2⟩
    · rw [if_neg e, if_pos rfl, z_xn_f e]
      exact ⟨⟨a1, fun _ => trivial, fun z => absurd rfl z⟩, rfl⟩
theorem z_155 (h : z_rd5 M T N) (hp : p ≤ N) (hb : M 5 819253 0 10 = nI p) : p_155 M ∧ r_155 M = nI (z_xn (z_xL T N) N p) := by
  have := h.1
  unfold p_155 r_155
  rw [hb]
  exact z_155l h (N - p) ux_fuel p (by omega) (by have := z_fuel; omega)
/-- the reference's point and begin -/
def z_pnt (M : ux_M) (a b : Int32) : ux_M := ux_set (ux_set M 5 819253 0 9 a) 5 819253 0 10 b
theorem z_pnt_9 : z_pnt M a b 5 819253 0 9 = a := by unfold z_pnt; rw [z_si (by decide), z_ss]
theorem z_pnt_10 : z_pnt M a b 5 819253 0 10 = b := z_ss
theorem z_pnt_o {k s r i : Nat} (h : ¬ s = 819253) : z_pnt M a b k s r i = M k s r i := by unfold z_pnt; rw [z_so h, z_so h]
theorem z_pnt_i {k s r i : Nat} (h : ¬ (i = 9 ∨ i = 10)) : z_pnt M a b k s r i = M k s r i := by unfold z_pnt; rw [z_si (by omega), z_si (by omega)]
theorem z_pnt_k {k s r i : Nat} (h : ¬ k = 5) : z_pnt M a b k s r i = M k s r i := by unfold z_pnt; rw [z_sk h, z_sk h]
theorem z_pnt_s9 : ux_set (z_pnt M a b) 5 819253 0 9 v = z_pnt M v b := by
  funext k s r i
  unfold z_pnt
  simp only [z_set]
  by_cases h : k = 5 ∧ s = 819253 ∧ r = 0 ∧ i = 9
  · rw [if_pos h, if_neg (by omega), if_pos h]
  · rw [if_neg h, if_neg h, if_neg h]
theorem z_pnt_s10 : ux_set (z_pnt M a b) 5 819253 0 10 v = z_pnt M a v := by
  funext k s r i
  unfold z_pnt
  simp only [z_set]
  by_cases h : k = 5 ∧ s = 819253 ∧ r = 0 ∧ i = 10
  · rw [if_pos h, if_pos h]
  · rw [if_neg h, if_neg h, if_neg h]
theorem z_pnt_self : z_pnt M (M 5 819253 0 9) (M 5 819253 0 10) = M := by
  funext k s r i
  unfold z_pnt
  simp only [z_set]
  by_cases h3 : k = 5 ∧ s = 819253 ∧ r = 0 ∧ i = 10
  · rw [if_pos h3]; obtain ⟨rfl, rfl, rfl, rfl⟩ := h3; rfl
  · rw [if_neg h3]
    by_cases h5 : k = 5 ∧ s = 819253 ∧ r = 0 ∧ i = 9
    · rw [if_pos h5]; obtain ⟨rfl, rfl, rfl, rfl⟩ := h5; rfl
    · rw [if_neg h5]
theorem z_rd5.pnt (h : z_rd5 M T N) : z_rd5 (z_pnt M a b) T N := by
  obtain ⟨h0, h1, h2⟩ := h
  exact ⟨h0, (z_pnt_i (by omega)).trans h1, fun i hi => (z_pnt_o (by decide)).trans (h2 i hi)⟩
theorem z_152l (h : z_rd5 M T N) : ∀ n f i, i + n = N → n < f → p_152_0 f (z_pnt M (nI i) b) ∧ r_152_0 f (z_pnt M (nI i) b) = (if N ≤ z_xn (z_xB T N) N i then -1 else T (z_xn (z_xB T N) N i)) ∧ m_152_0 f (z_pnt M (nI i) b) = z_pnt M (nI (z_xn (z_xB T N) N i)) (nI (z_xn (z_xB T N) N i)) := by
  have hN := h.1
  have stop : ∀ f i, i ≤ N → ¬ (if N ≤ i then -1 else T i) = 32 → p_152_0 (f + 1) (z_pnt M (nI i) b) ∧ r_152_0 (f + 1) (z_pnt M (nI i) b) = (if N ≤ i then -1 else T i) ∧ m_152_0 (f + 1) (z_pnt M (nI i) b) = z_pnt M (nI i) (nI i) := fun f i hi q => by
    obtain ⟨a1, a2⟩ := z_153 (i := i) (h.pnt (a := nI i) (b := b)) (by omega)
    obtain ⟨b1, b2⟩ := z_153 (i := i) (h.pnt (a := nI i) (b := nI i)) (by omega)
    rw [p_152_0, r_152_0, m_152_0, z_pnt_9, a2, if_neg q, if_neg q, z_pnt_s10]
    refine ⟨⟨a1, fun _ M5 e => ?_, fun z => absurd z q⟩, ?_, rfl⟩
    · subst e; rw [z_pnt_9]; exact b1
    · show r_153 (z_pnt M (nI i) (nI i) 5 819253 0 9) (z_pnt M (nI i) (nI i)) = _
      rw [z_pnt_9, b2]
  intro n
  induction n with
  | zero =>
    intro f i hi hf
    obtain ⟨f, rfl⟩ : ∃ g, f = g + 1 := ⟨f - 1, by omega⟩
    rw [z_xn_o (show N ≤ i by omega)]
    exact stop f i (by omega) (by rw [if_pos (show N ≤ i by omega)]; decide)
  | succ n ih =>
    intro f i hi hf
    obtain ⟨f, rfl⟩ : ∃ g, f = g + 1 := ⟨f - 1, by omega⟩
    have iN : ¬ N ≤ i := by omega
    by_cases q : T i = 32
    · have e : z_xB T N i = true := by unfold z_xB; simp only [q, show i < N by omega, decide_true, Bool.and_true]
      obtain ⟨a1, a2⟩ := z_153 (i := i) (h.pnt (a := nI i) (b := b)) (by omega)
      rw [if_neg iN] at a2
      obtain ⟨i1, i2, i3⟩ := ih f (i + 1) (by omega) (by omega)
      rw [z_xn_t (by omega) e, p_152_0, r_152_0, m_152_0, z_pnt_9, a2, if_pos q, if_pos q, z_pnt_s9, z_nx]
      exact ⟨⟨a1, fun z => absurd q z, fun _ M9 e9 => by subst e9; exact i1⟩, i2, i3⟩
    · have e : ¬ z_xB T N i = true := by unfold z_xB; simp only [q, decide_false, Bool.and_false]; decide
      rw [z_xn_f e]
      exact stop f i (by omega) (by rw [if_neg iN]; exact q)
/-- see: on from i -/
theorem z_see (h : z_rd5 M T N) (hi : i ≤ N) (h9 : M 5 819253 0 9 = nI i) : p_152 M ∧ r_152 M = (if N ≤ z_xn (z_xB T N) N i then -1 else T (z_xn (z_xB T N) N i)) ∧ m_152 M = z_pnt M (nI (z_xn (z_xB T N) N i)) (nI (z_xn (z_xB T N) N i)) := by
  have e : z_pnt M (nI i) (M 5 819253 0 10) = M := by rw [← h9]; exact z_pnt_self
  have hN := h.1
  have g := z_152l (b := M 5 819253 0 10) h (N - i) ux_fuel i (by omega) (by have := z_fuel; omega)
  rw [e] at g
  exact g
/-- passes: the point goes to the word's end -/
theorem z_161 (h : z_rd5 M T N) (hp : p ≤ N) (hb : M 5 819253 0 10 = nI p) : p_161 M ∧ r_161 M = 1 ∧ m_161 M = z_pnt M (nI (z_xn (z_xL T N) N p)) (nI p) := by
  obtain ⟨a1, a2⟩ := z_155 h hp hb
  refine ⟨a1, rfl, ?_⟩
  unfold m_161
  rw [a2]
  show ux_set M 5 819253 0 9 (nI (z_xn (z_xL T N) N p)) = _
  have := z_pnt_s9 (M := M) (a := M 5 819253 0 9) (b := M 5 819253 0 10) (v := nI (z_xn (z_xL T N) N p))
  rw [z_pnt_self, hb] at this
  exact this
/-- the word w, L letters, stands at p -/
def z_iwd (T : Nat → Int32) (N p w L : Nat) : Prop := z_xn (z_xL T N) N p - p = L ∧ ∀ j, j < L → T (p + j) = Int32.ofNat ((ux_words.getD w []).getD j 0)
theorem z_xpe (hp : p ≤ N) : (z_xp T N p = 1 ↔ z_xL T N p = true) ∧ (z_xL T N p = true → z_xe T N p = z_xn (z_xL T N) N p ∧ p < z_xn (z_xL T N) N p) ∧ (¬ z_xL T N p = true → z_xn (z_xL T N) N p = p) := by
  have nL : N ≤ p → ¬ z_xL T N p = true := fun q => by unfold z_xL; simp only [show ¬ p < N by omega, decide_false, Bool.false_and]; decide
  refine ⟨?_, fun q => ?_, fun q => z_xn_f q⟩
  · unfold z_xp
    by_cases q : N ≤ p
    · rw [if_pos q]; exact ⟨fun z => absurd z (by decide), fun z => absurd z (nL q)⟩
    · rw [if_neg q]
      by_cases g : z_xL T N p = true
      · rw [if_pos g]; exact ⟨fun _ => g, fun _ => rfl⟩
      · rw [if_neg g]
        refine ⟨fun z => absurd z ?_, fun z => absurd z g⟩
        split
        · decide
        · split <;> decide
  · have pN : ¬ N ≤ p := fun z => nL z q
    unfold z_xe
    rw [if_neg pN, if_pos q]
    refine ⟨rfl, ?_⟩
    have := (z_xn_b (P := z_xL T N) (N := N) (N - (p + 1)) (p + 1) (by omega)).1
    rw [z_xn_t (by omega) q]; omega
theorem z_13w0l (h : z_rd4 M T N) (h4 : M 4 671757 0 4 = nI p) (hp : p + 7 ≤ N) : ∀ n f i, i + n = 7 → n < f → p_13w0_28 f (nI i) M ∧ ((r_13w0_28 f (nI i) M = 1 ∧ ∀ j, i ≤ j → j < 7 → T (p + j) = Int32.ofNat ((ux_words.getD 0 []).getD j 0)) ∨ (r_13w0_28 f (nI i) M = 0 ∧ ¬ ∀ j, i ≤ j → j < 7 → T (p + j) = Int32.ofNat ((ux_words.getD 0 []).getD j 0))) := by
  obtain ⟨hN, h1, h2, hT⟩ := h
  intro n
  induction n with
  | zero =>
    intro f i hi hf
    obtain ⟨f, rfl⟩ : ∃ g, f = g + 1 := ⟨f - 1, by omega⟩
    have le : Int32.ofNat 7 ≤ nI i := (z_le (a := 7) (by omega) (by omega)).mpr (by omega)
    rw [p_13w0_28, r_13w0_28, if_pos le]
    exact ⟨⟨fun _ => trivial, fun z => absurd le z⟩, .inl ⟨rfl, fun j z1 z2 => absurd z2 (by omega)⟩⟩
  | succ n ih =>
    intro f i hi hf
    obtain ⟨f, rfl⟩ : ∃ g, f = g + 1 := ⟨f - 1, by omega⟩
    have le : ¬ Int32.ofNat 7 ≤ nI i := fun z => by have := (z_le (a := 7) (by omega) (by omega)).mp z; omega
    have le8 : ¬ Int32.ofNat 800 ≤ nI (p + i) := fun z => by have := (z_le (a := 800) (by omega) (by omega)).mp z; omega
    rw [p_13w0_28, r_13w0_28, if_neg le, h4, z_add, if_neg le8, h1, z_cls (show p + i < 2000000000 by omega), z_cls (show i < 2000000000 by omega), hT (p + i) (by omega), z_nx]
    have v1 : vp_in (nI (p + i)) 800 := vp_in_nI (by omega) (by omega)
    have v2 : vp_in (nI i) 7 := vp_in_nI (by omega) (by omega)
    by_cases q : T (p + i) = Int32.ofNat ((ux_words.getD 0 []).getD i 0)
    · obtain ⟨i1, i2⟩ := ih f (i + 1) (by omega) (by omega)
      have g : (∀ j, i ≤ j → j < 7 → T (p + j) = Int32.ofNat ((ux_words.getD 0 []).getD j 0)) ↔ ∀ j, i + 1 ≤ j → j < 7 → T (p + j) = Int32.ofNat ((ux_words.getD 0 []).getD j 0) :=
        ⟨fun z j z1 z2 => z j (by omega) z2, fun z j z1 z2 => by
          by_cases e : j = i
          · subst e; exact q
          · exact z j (by omega) z2⟩
      rw [if_pos q, g]
      exact ⟨⟨fun z => absurd z le, fun _ => ⟨rfl, fun z => absurd z le8, fun _ => ⟨rfl, v1, v2, fun _ => i1, fun z => absurd q z⟩⟩⟩, i2⟩
    · rw [if_neg q]
      exact ⟨⟨fun z => absurd z le, fun _ => ⟨rfl, fun z => absurd z le8, fun _ => ⟨rfl, v1, v2, fun z => absurd z q, fun _ => trivial⟩⟩⟩, .inr ⟨rfl, fun z => q (z i (Nat.le_refl _) (by omega))⟩⟩
theorem z_13w0 (h : z_rd4 M T N) (hp : p ≤ N) (h3 : M 4 671757 0 3 = z_xp T N p) (h4 : M 4 671757 0 4 = nI p) (h5 : M 4 671757 0 5 = nI (z_xe T N p)) : p_13w0 M ∧ ((r_13w0 M = 1 ∧ z_iwd T N p 0 7) ∨ (r_13w0 M = 0 ∧ ¬ z_iwd T N p 0 7)) := by
  have hN := h.1
  obtain ⟨x1, x2, x3⟩ := z_xpe (T := T) hp
  unfold p_13w0 r_13w0
  rw [h3]
  by_cases q : z_xL T N p = true
  · obtain ⟨y1, y2⟩ := x2 q
    obtain ⟨_, w2, _, _⟩ := z_xn_b (P := z_xL T N) (N := N) (N - p) p (by omega)
    rw [h4, h5, y1, z_sbn (show p ≤ z_xn (z_xL T N) N p by omega), if_pos (x1.mpr q)]
    by_cases g : z_xn (z_xL T N) N p - p = 7
    · obtain ⟨a1, a2⟩ := z_13w0l h h4 (by omega) 7 ux_fuel 0 (by omega) (by have := z_fuel; omega)
      have e : nI (z_xn (z_xL T N) N p - p) = Int32.ofNat 7 := by rw [g]; rfl
      rw [if_pos e]
      refine ⟨⟨fun z => absurd (x1.mpr q) z, fun _ => ⟨fun _ => a1, fun z => absurd e z⟩⟩, ?_⟩
      rcases a2 with ⟨a2, a3⟩ | ⟨a2, a3⟩
      · exact .inl ⟨a2, g, fun j hj => a3 j (by omega) hj⟩
      · exact .inr ⟨a2, fun z => a3 (fun j _ hj => z.2 j hj)⟩
    · have e : ¬ nI (z_xn (z_xL T N) N p - p) = Int32.ofNat 7 := fun z => g ((z_eq (b := 7) (by omega) (by omega)).mp z)
      rw [if_neg e]
      exact ⟨⟨fun z => absurd (x1.mpr q) z, fun _ => ⟨fun z => absurd z e, fun _ => trivial⟩⟩, .inr ⟨rfl, fun z => g z.1⟩⟩
  · have n1 : ¬ z_xp T N p = 1 := fun z => q (x1.mp z)
    rw [if_neg n1]
    exact ⟨⟨fun _ => trivial, fun z => absurd z n1⟩, .inr ⟨rfl, fun z => by have := z.1; rw [x3 q] at this; omega⟩⟩
theorem z_154w0l (h : z_rd5 M T N) (hb : M 5 819253 0 10 = nI p) (hp : p + 7 ≤ N) : ∀ n f i (x3 : Int32), i + n = 7 → n < f → (x3 = 0 ∨ x3 = 1) → p_154w0_27 f (nI (p + 7)) x3 (nI i) M ∧ ((r_154w0_27 f (nI (p + 7)) x3 (nI i) M = 1 ∧ x3 = 1 ∧ ∀ j, i ≤ j → j < 7 → T (p + j) = Int32.ofNat ((ux_words.getD 0 []).getD j 0)) ∨ (r_154w0_27 f (nI (p + 7)) x3 (nI i) M = 0 ∧ ¬ (x3 = 1 ∧ ∀ j, i ≤ j → j < 7 → T (p + j) = Int32.ofNat ((ux_words.getD 0 []).getD j 0)))) := by
  have hN := h.1
  have h10 : ¬ (1 : Int32) = 0 := by decide
  have h01 : ¬ (0 : Int32) = 1 := by decide
  intro n
  induction n with
  | zero =>
    intro f i x3 hi hf hx
    obtain ⟨f, rfl⟩ : ∃ g, f = g + 1 := ⟨f - 1, by omega⟩
    have le : nI (p + 7) ≤ nI (p + i) := (z_le (by omega) (by omega)).mpr (by omega)
    rw [p_154w0_27, r_154w0_27, hb, z_add]
    rcases hx with rfl | rfl
    · rw [if_pos rfl]
      exact ⟨⟨fun _ => .inl rfl, fun z => absurd rfl z⟩, .inr ⟨rfl, fun z => h01 z.1⟩⟩
    · rw [if_neg h10, if_pos le]
      exact ⟨⟨fun z => absurd z h10, fun _ => ⟨fun _ => .inr rfl, fun z => absurd le z⟩⟩, .inl ⟨rfl, rfl, fun j z1 z2 => absurd z2 (by omega)⟩⟩
  | succ n ih =>
    intro f i x3 hi hf hx
    obtain ⟨f, rfl⟩ : ∃ g, f = g + 1 := ⟨f - 1, by omega⟩
    have le : ¬ nI (p + 7) ≤ nI (p + i) := fun z => by have := (z_le (by omega) (by omega)).mp z; omega
    obtain ⟨b1, b2⟩ := z_153 (i := p + i) h (by omega)
    rw [if_neg (show ¬ N ≤ p + i by omega)] at b2
    rw [p_154w0_27, r_154w0_27, hb, z_add, b2, z_cls (show i < 2000000000 by omega), z_nx]
    rcases hx with rfl | rfl
    · rw [if_pos rfl]
      exact ⟨⟨fun _ => .inl rfl, fun z => absurd rfl z⟩, .inr ⟨rfl, fun z => h01 z.1⟩⟩
    · have v2 : vp_in (nI i) 7 := vp_in_nI (by omega) (by omega)
      rw [if_neg h10, if_neg le]
      by_cases q : T (p + i) = Int32.ofNat ((ux_words.getD 0 []).getD i 0)
      · obtain ⟨i1, i2⟩ := ih f (i + 1) 1 (by omega) (by omega) (.inr rfl)
        have g : (∀ j, i ≤ j → j < 7 → T (p + j) = Int32.ofNat ((ux_words.getD 0 []).getD j 0)) ↔ ∀ j, i + 1 ≤ j → j < 7 → T (p + j) = Int32.ofNat ((ux_words.getD 0 []).getD j 0) :=
          ⟨fun z j z1 z2 => z j (by omega) z2, fun z j z1 z2 => by
            by_cases e : j = i
            · subst e; exact q
            · exact z j (by omega) z2⟩
        rw [if_pos q, g]
        exact ⟨⟨fun z => absurd z h10, fun _ => ⟨fun z => absurd z le, fun _ => ⟨b1, v2, fun z => absurd q z, fun _ => i1⟩⟩⟩, i2⟩
      · obtain ⟨i1, i2⟩ := ih f (i + 1) 0 (by omega) (by omega) (.inl rfl)
        rw [if_neg q]
        refine ⟨⟨fun z => absurd z h10, fun _ => ⟨fun z => absurd z le, fun _ => ⟨b1, v2, fun _ => i1, fun z => absurd z q⟩⟩⟩, .inr ⟨?_, fun z => q (z.2 i (Nat.le_refl _) (by omega))⟩⟩
        rcases i2 with ⟨_, z, _⟩ | ⟨i2, _⟩
        · exact absurd z h01
        · exact i2
theorem z_154w0 (h : z_rd5 M T N) (hp : p ≤ N) (hb : M 5 819253 0 10 = nI p) : p_154w0 M ∧ ((r_154w0 M = 1 ∧ z_iwd T N p 0 7) ∨ (r_154w0 M = 0 ∧ ¬ z_iwd T N p 0 7)) := by
  have hN := h.1
  obtain ⟨a1, a2⟩ := z_155 h hp hb
  obtain ⟨w1, w2, _, _⟩ := z_xn_b (P := z_xL T N) (N := N) (N - p) p (by omega)
  unfold p_154w0 r_154w0
  rw [a2, hb, z_sbn w1]
  by_cases g : z_xn (z_xL T N) N p - p = 7
  · obtain ⟨b1, b2⟩ := z_154w0l h hb (by omega) 7 ux_fuel 0 1 (by omega) (by have := z_fuel; omega) (.inr rfl)
    have e : nI (z_xn (z_xL T N) N p - p) = Int32.ofNat 7 := by rw [g]; rfl
    have e2 : z_xn (z_xL T N) N p = p + 7 := by omega
    rw [if_pos e]
    rw [← e2] at b1 b2
    refine ⟨⟨a1, fun z => absurd e z, fun _ => b1⟩, ?_⟩
    rcases b2 with ⟨b2, _, b3⟩ | ⟨b2, b3⟩
    · exact .inl ⟨b2, g, fun j hj => b3 j (by omega) hj⟩
    · exact .inr ⟨b2, fun z => b3 ⟨rfl, fun j _ hj => z.2 j hj⟩⟩
  · have e : ¬ nI (z_xn (z_xL T N) N p - p) = Int32.ofNat 7 := fun z => g ((z_eq (b := 7) (by omega) (by omega)).mp z)
    obtain ⟨f, hf⟩ : ∃ f, ux_fuel = f + 1 := ⟨ux_fuel - 1, by have := z_fuel; omega⟩
    have e1 : p_154w0_27 ux_fuel (nI (z_xn (z_xL T N) N p)) 0 0 M := by rw [hf, p_154w0_27]; exact ⟨fun _ => .inl rfl, fun z => absurd rfl z⟩
    have e2 : r_154w0_27 ux_fuel (nI (z_xn (z_xL T N) N p)) 0 0 M = 0 := by rw [hf, r_154w0_27, if_pos rfl]
    rw [if_neg e]
    exact ⟨⟨a1, fun _ => e1, fun z => absurd z e⟩, .inr ⟨e2, fun z => g z.1⟩⟩
end ZL2
