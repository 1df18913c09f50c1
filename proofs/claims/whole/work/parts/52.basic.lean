/-! BASIC STEPS ON BOTH SIDES: jobs, a change of state, the log; by wip/whole/gen52.py -/
theorem zn_01 : ¬ (0 : Int32) = 1 := by decide
theorem zn_02 : ¬ (0 : Int32) = 2 := by decide
theorem zn_03 : ¬ (0 : Int32) = 3 := by decide
theorem zn_04 : ¬ (0 : Int32) = 4 := by decide
theorem zn_05 : ¬ (0 : Int32) = 5 := by decide
theorem zn_10 : ¬ (1 : Int32) = 0 := by decide
theorem zn_12 : ¬ (1 : Int32) = 2 := by decide
theorem zn_13 : ¬ (1 : Int32) = 3 := by decide
theorem zn_14 : ¬ (1 : Int32) = 4 := by decide
theorem zn_15 : ¬ (1 : Int32) = 5 := by decide
theorem zn_20 : ¬ (2 : Int32) = 0 := by decide
theorem zn_21 : ¬ (2 : Int32) = 1 := by decide
theorem zn_23 : ¬ (2 : Int32) = 3 := by decide
theorem zn_24 : ¬ (2 : Int32) = 4 := by decide
theorem zn_25 : ¬ (2 : Int32) = 5 := by decide
theorem zn_30 : ¬ (3 : Int32) = 0 := by decide
theorem zn_31 : ¬ (3 : Int32) = 1 := by decide
theorem zn_32 : ¬ (3 : Int32) = 2 := by decide
theorem zn_34 : ¬ (3 : Int32) = 4 := by decide
theorem zn_35 : ¬ (3 : Int32) = 5 := by decide
theorem zn_40 : ¬ (4 : Int32) = 0 := by decide
theorem zn_41 : ¬ (4 : Int32) = 1 := by decide
theorem zn_42 : ¬ (4 : Int32) = 2 := by decide
theorem zn_43 : ¬ (4 : Int32) = 3 := by decide
theorem zn_45 : ¬ (4 : Int32) = 5 := by decide
theorem zn_50 : ¬ (5 : Int32) = 0 := by decide
theorem zn_51 : ¬ (5 : Int32) = 1 := by decide
theorem zn_52 : ¬ (5 : Int32) = 2 := by decide
theorem zn_53 : ¬ (5 : Int32) = 3 := by decide
theorem zn_54 : ¬ (5 : Int32) = 4 := by decide
section ZB
variable {k c t B u v a s : Nat} {M m M' m' : ux_M}
theorem z_clr (x : Int32) {u w : Nat} (hu : u < 32) (hw : w < 32) : bt (x &&& (((1 : Int32) <<< (nI u &&& 31)) ^^^ ((-1) : Int32))) w = if w = u then false else bt x w := by
  rw [b_and, z_not _ hw, z_bit hu hw]
  by_cases q : w = u <;> simp [q]
theorem z_sti (x : Int32) {u w : Nat} (hu : u < 32) (hw : w < 32) : bt (x ||| ((1 : Int32) <<< (nI u &&& 31))) w = if w = u then true else bt x w := by
  rw [b_or, z_bit hu hw]
  by_cases q : w = u <;> simp [q]
theorem z_jbi (m : ux_M) (u : Nat) (j n : Int32) (i : Nat) : z_P (z_P m 29 u j) 30 u n 5 844257 0 i = if i = 188 + 56 * u + 29 then j else if i = 188 + 56 * u + 30 then n else m 5 844257 0 i := by
  unfold z_P
  rw [z_set, z_set]
  by_cases q : i = 188 + 56 * u + 29
  · rw [if_neg (by omega), if_pos ⟨rfl, rfl, rfl, q⟩, if_pos q]
  · rw [if_neg q, if_neg (fun (z : 5 = 5 ∧ 844257 = 844257 ∧ 0 = 0 ∧ i = 188 + 56 * u + 29) => q z.2.2.2)]
    by_cases q2 : i = 188 + 56 * u + 30
    · rw [if_pos ⟨rfl, rfl, rfl, q2⟩, if_pos q2]
    · rw [if_neg q2, if_neg (fun z => q2 z.2.2.2)]
theorem z_ends (m : ux_M) (how : Int32) (hu : u < 16) : m_184 (nI u) how m = z_P (z_P (z_P m 29 u 0) 30 u 0) 41 u how := by
  unfold m_184; simp only [pu29 _ _ hu, pu30 _ _ hu, pu41 _ _ hu]
theorem z_waits (m : ux_M) (j : Int32) (hu : u < 16) : m_195 (nI u) j m = z_P (z_P m 29 u j) 30 u 0 := by
  unfold m_195; simp only [pu29 _ _ hu, pu30 _ _ hu]
theorem z_pends (m : ux_M) (how : Int32) (hu : u < 16) : p_184 (nI u) how m := by
  unfold p_184; exact ⟨uu29 hu, fun _ _ => ⟨uu30 hu, fun _ _ => uu41 hu⟩⟩
theorem z_pwaits (m : ux_M) (how : Int32) (hu : u < 16) : p_195 (nI u) how m := by
  unfold p_195; exact ⟨uu29 hu, fun _ _ => uu30 hu⟩
theorem z_pend (M : ux_M) (k : Nat) (how : Int32) (hu : u < 16) : p_57 k (nI u) how M := by
  unfold p_57; exact fun _ _ _ _ _ _ _ _ => z_i16 hu
/-- a job ends -/
theorem z_W.en (h : z_W k c t B M m) (hu : u < c) (how : Int32) : z_W k c t B (m_57 k (nI u) how M) (z_P (z_P (z_P m 29 u 0) 30 u 0) 41 u how) := by
  have h16 := h.u16 hu
  have q : z_W k c t B (ux_set (ux_set (ux_set (ux_set M k 49197 0 0 ((M k 49197 0 0) &&& (((1 : Int32) <<< (nI u &&& 31)) ^^^ ((-1) : Int32)))) k 49197 0 1 ((M k 49197 0 1) &&& (((1 : Int32) <<< (nI u &&& 31)) ^^^ ((-1) : Int32)))) k 49197 0 2 ((M k 49197 0 2) &&& (((1 : Int32) <<< (nI u &&& 31)) ^^^ ((-1) : Int32)))) k 49197 0 3 ((M k 49197 0 3) &&& (((1 : Int32) <<< (nI u &&& 31)) ^^^ ((-1) : Int32)))) (z_P (z_P m 29 u 0) 30 u 0) := by
    refine h.jb hu 0 0 (fun s r i hs => ?_) (z_jbi m u 0 0) (fun w hw => ?_)
    · rw [z_so hs, z_so hs, z_so hs, z_so hs]
    · simp only [z_set, and_self, and_true, true_and, if_true, Nat.zero_ne_one, if_false, Nat.reduceEqDiff, and_false, Nat.one_ne_zero]
      refine ⟨?_, ?_, ?_, ?_⟩ <;> rw [z_clr _ (by omega) hw] <;> rfl
  have e := q.wr (a := 41) (s := 327809) (List.mem_of_getElem? (i := 8) rfl) (by omega) hu how
  have e2 : m_57 k (nI u) how M = ux_set (ux_set (ux_set (ux_set (ux_set M k 49197 0 0 ((M k 49197 0 0) &&& (((1 : Int32) <<< (nI u &&& 31)) ^^^ ((-1) : Int32)))) k 49197 0 1 ((M k 49197 0 1) &&& (((1 : Int32) <<< (nI u &&& 31)) ^^^ ((-1) : Int32)))) k 49197 0 2 ((M k 49197 0 2) &&& (((1 : Int32) <<< (nI u &&& 31)) ^^^ ((-1) : Int32)))) k 49197 0 3 ((M k 49197 0 3) &&& (((1 : Int32) <<< (nI u &&& 31)) ^^^ ((-1) : Int32)))) k 327809 0 u how := by
    unfold m_57
    simp only [z_cl h16, z_set, and_self, and_true, true_and, if_true, Nat.zero_ne_one, if_false, Nat.reduceEqDiff, and_false, Nat.one_ne_zero]
  rw [e2]; exact e
/-- a job runs -/
theorem z_W.rn (h : z_W k c t B M m) (hu : u < c) : z_W k c t B (ux_set M k 49197 0 3 ((M k 49197 0 3) ||| ((1 : Int32) <<< (nI u &&& 31)))) (z_P m 30 u 1) := by
  have h16 := h.u16 hu
  refine h.jb hu (z_Y m 29 u) 1 (fun s r i hs => z_so hs) (fun i => ?_) (fun w hw => ?_)
  · unfold z_P z_Y
    rw [z_set]
    by_cases q : i = 188 + 56 * u + 29
    · rw [if_neg (by omega), if_pos q, q]
    · rw [if_neg q]
      by_cases q2 : i = 188 + 56 * u + 30
      · rw [if_pos ⟨rfl, rfl, rfl, q2⟩, if_pos q2]
      · rw [if_neg q2, if_neg (fun z => q2 z.2.2.2)]
  · rw [z_si (by omega), z_si (by omega), z_si (by omega), z_ss, z_sti _ (by omega) hw]
    have hs := h.js hw
    have hr := h.jr hw
    have ht := h.jt hw
    by_cases q : w = u
    · subst q; simp only [if_true, decide_true]; rw [hs, hr, ht]; simp [hu]
    · simp only [if_neg q, and_self]
/-- a unit gets a waiting job -/
theorem z_W.pt (h : z_W k c t B M m) (hu : u < c) (j : Int32) (hj : j = 1 ∨ j = 2 ∨ j = 3) : z_W k c t B (m_76 k (nI u) j M) (z_P (z_P m 29 u j) 30 u 0) := by
  have h16 := h.u16 hu
  refine h.jb hu j 0 (fun s r i hs => ?_) (z_jbi m u j 0) (fun w hw => ?_)
  · rcases hj with rfl | rfl | rfl <;> simp only [m_76, m_76_27, m_76_53, zn_12, zn_13, zn_32, zn_23, if_true, if_false, z_so hs]
  · rcases hj with rfl | rfl | rfl <;> simp only [m_76, m_76_27, m_76_53, zn_12, zn_13, zn_32, zn_23, zn_21, zn_31, zn_01, if_true, if_false, z_set, and_self, and_true, true_and, if_true, Nat.zero_ne_one, if_false, Nat.reduceEqDiff, and_false, Nat.one_ne_zero, decide_true, decide_false, Bool.or_false, Bool.false_or, Bool.or_true]
    all_goals refine ⟨?_, ?_, ?_, ?_⟩
    all_goals first | rw [z_clr _ (by omega) hw] | rw [z_sti _ (by omega) hw]
theorem z_pput (M : ux_M) (k : Nat) (x j : Int32) : p_76 k x j M := by
  unfold p_76 p_76_27 p_76_53
  exact ⟨fun _ _ _ => ⟨fun _ => trivial, fun _ => trivial⟩, fun _ _ _ => ⟨fun _ => trivial, fun _ => trivial⟩⟩
/-- what a job's end at a unit's going down leaves in the reference -/
def z_st (m : ux_M) (u : Nat) : ux_M := if z_Y m 29 u = 2 then z_P (z_P (z_P m 29 u 0) 30 u 0) 41 u 0 else if z_Y m 29 u = 3 then z_P (z_P m 29 u 1) 30 u 0 else m
theorem z_W.ps (h : z_W k c t B M m) (hu : u < c) : p_60 k (nI u) M := by
  unfold p_60
  exact ⟨fun _ => trivial, fun _ _ _ _ _ => z_i16 (h.u16 hu)⟩
theorem z_W.rs (h : z_W k c t B M m) (hu : u < c) : r_60 k (nI u) M = if z_Y m 29 u = 2 ∨ z_Y m 29 u = 3 then 1 else 0 := by
  have h16 := h.u16 hu
  unfold r_60
  simp only [z_andb _ (show u < 32 by omega), h.jt (show u < 32 by omega), h.jr (show u < 32 by omega), hu, decide_true, Bool.true_and, decide_eq_false_iff_not]
  by_cases q : z_Y m 29 u = 2
  · simp [q]
  · by_cases q3 : z_Y m 29 u = 3
    · simp [q3]
    · simp [q, q3]
theorem z_W.ms (h : z_W k c t B M m) (hu : u < c) : z_W k c t B (m_60 k (nI u) M) (z_st m u) := by
  have h16 := h.u16 hu
  unfold m_60 z_st
  simp only [z_andb _ (show u < 32 by omega), h.jt (show u < 32 by omega), h.jr (show u < 32 by omega), hu, decide_true, Bool.true_and, decide_eq_false_iff_not]
  by_cases q : z_Y m 29 u = 2
  · rw [if_neg (by simp [q]), if_pos q]
    have qq : z_W k c t B (ux_set (ux_set M k 49197 0 2 ((M k 49197 0 2) &&& (((1 : Int32) <<< (nI u &&& 31)) ^^^ ((-1) : Int32)))) k 49197 0 3 ((M k 49197 0 3) &&& (((1 : Int32) <<< (nI u &&& 31)) ^^^ ((-1) : Int32)))) (z_P (z_P m 29 u 0) 30 u 0) := by
      refine h.jb hu 0 0 (fun s r i hs => ?_) (z_jbi m u 0 0) (fun w hw => ?_)
      · rw [z_so hs, z_so hs]
      · rw [z_si (by omega), z_si (by omega), z_si (by omega), z_si (by omega), z_si (by omega), z_ss, z_ss, z_clr _ (by omega) hw, z_clr _ (by omega) hw, h.js hw, h.jr hw]
        by_cases z : w = u
        · subst z; simp [q]
        · simp [z]
    have e := qq.wr (a := 41) (s := 327809) (List.mem_of_getElem? (i := 8) rfl) (by omega) hu 0
    rw [z_si (by omega), z_cl h16]
    exact e
  · rw [if_pos q, if_neg q]
    by_cases q3 : z_Y m 29 u = 3
    · rw [if_neg (by simp [q3]), if_pos q3, z_si (by omega)]
      refine h.jb hu 1 0 (fun s r i hs => ?_) (z_jbi m u 1 0) (fun w hw => ?_)
      · rw [z_so hs, z_so hs]
      · rw [z_si (by omega), z_si (by omega), z_si (by omega), z_ss, z_si (by omega), z_si (by omega), z_ss, z_clr _ (by omega) hw, z_clr _ (by omega) hw, h.js hw, h.jt hw]
        by_cases z : w = u
        · subst z; simp [q3, hu]
        · simp [z]
    · rw [if_pos q3, if_neg q3]; exact h
/-! the log -/
/-- what the reference's log does to its row (n entries before) -/
def z_lg (g : Nat → Int32) (n : Nat) (x s : Int32) (i : Nat) : Int32 :=
  if n < 60 then (if i = 2 then nI (n + 1) else if i = 8 + 3 * n then g 0 else if i = 8 + 3 * n + 1 then x else if i = 8 + 3 * n + 2 then s else g i)
  else (if i = 2 then nI 60 else if i = 185 then g 0 else if i = 186 then x else if i = 187 then s else if 8 ≤ i ∧ i < 185 then g (i + 3) else g i)
theorem z_ix3 (n p : Nat) (hn : n < 100) (hp : p < 3) : (((8 : Int32) + ((3 : Int32) * nI n)) + nI p) = nI (8 + 3 * n + p) := by
  show (Int32.ofNat 8 + Int32.ofNat 3 * Int32.ofNat n) + Int32.ofNat p = Int32.ofNat _
  rw [← Int32.ofNat_mul, ← Int32.ofNat_add, ← Int32.ofNat_add]
theorem z_ix30 (n : Nat) : ((8 : Int32) + ((3 : Int32) * nI n)) = nI (8 + 3 * n) := by
  show (Int32.ofNat 8 + Int32.ofNat 3 * Int32.ofNat n) = Int32.ofNat _
  rw [← Int32.ofNat_mul, ← Int32.ofNat_add]
theorem z_add (a b : Nat) : nI a + nI b = nI (a + b) := nI_add a b
theorem z_lg51 (x s : Int32) {n : Nat} (hn : n < 60) (h2 : m 5 844257 0 2 = nI n) : p_191_51 x s m ∧ ∀ a b c d, m_191_51 x s m a b c d = if a = 5 ∧ b = 844257 ∧ c = 0 then z_lg (m 5 844257 0) n x s d else m a b c d := by
  have e1 : nI (8 + 3 * n) + (1 : Int32) = nI (8 + 3 * n + 1) := z_add _ 1
  have e2 : nI (8 + 3 * n) + (2 : Int32) = nI (8 + 3 * n + 2) := z_add _ 2
  refine ⟨?_, fun a b c d => ?_⟩
  · unfold p_191_51
    simp only [z_c2, z_c0, h2, z_ix30, e1, e2, forall_eq]
    exact ⟨z_v2, z_v0, z_in (by omega) (by omega), z_in (by omega) (by omega), z_in (by omega) (by omega), z_v2, z_v2⟩
  · unfold m_191_51
    simp only [z_c2, z_c0, h2, z_ix30, e1, e2, z_cls (show 8 + 3 * n < 2000000000 by omega), z_cls (show 8 + 3 * n + 1 < 2000000000 by omega), z_cls (show 8 + 3 * n + 2 < 2000000000 by omega)]
    have r2 : ∀ p q r, ux_set (ux_set (ux_set m 5 844257 0 (8 + 3 * n) p) 5 844257 0 (8 + 3 * n + 1) q) 5 844257 0 (8 + 3 * n + 2) r 5 844257 0 2 = nI n := fun p q r => by rw [z_si (by omega), z_si (by omega), z_si (by omega), h2]
    rw [r2, z_nx]
    by_cases q : a = 5 ∧ b = 844257 ∧ c = 0
    · obtain ⟨rfl, rfl, rfl⟩ := q
      simp only [z_set, true_and, and_self, if_true, z_lg, hn]
      by_cases i2 : d = 2
      · simp [i2]
      · by_cases i3 : d = 8 + 3 * n
        · subst i3; simp
        · by_cases i4 : d = 8 + 3 * n + 1
          · subst i4; simp
          · simp [i2, i3, i4]
    · rw [if_neg q, z_set, z_set, z_set, z_set, if_neg (fun z => q ⟨z.1, z.2.1, z.2.2.1⟩), if_neg (fun z => q ⟨z.1, z.2.1, z.2.2.1⟩), if_neg (fun z => q ⟨z.1, z.2.1, z.2.2.1⟩), if_neg (fun z => q ⟨z.1, z.2.1, z.2.2.1⟩)]
/-- the row moved down by an entry from j on -/
def z_sh (m : ux_M) (j : Nat) : ux_M := fun a b c d => if a = 5 ∧ b = 844257 ∧ c = 0 ∧ j ≤ d ∧ d < 185 then m 5 844257 0 (d + 3) else m a b c d
theorem z_shs (m : ux_M) {j : Nat} (hj : j < 185) : z_sh (ux_set m 5 844257 0 j (m 5 844257 0 (j + 3))) (j + 1) = z_sh m j := by
  funext a b c d
  unfold z_sh
  by_cases q : a = 5 ∧ b = 844257 ∧ c = 0
  · obtain ⟨rfl, rfl, rfl⟩ := q
    simp only [true_and, z_set]
    by_cases i : d = j
    · subst i; rw [if_neg (by omega), if_pos rfl, if_pos ⟨Nat.le_refl _, hj⟩]
    · by_cases z : j ≤ d ∧ d < 185
      · rw [if_pos (by omega), if_neg (by omega), if_pos z]
      · rw [if_neg (by omega), if_neg i, if_neg z]
  · rw [if_neg (fun z => q ⟨z.1, z.2.1, z.2.2.1⟩), if_neg (fun z => q ⟨z.1, z.2.1, z.2.2.1⟩), z_set, if_neg (fun z => q ⟨z.1, z.2.1, z.2.2.1⟩)]
theorem z_lg14 (x s : Int32) : ∀ (n f j : Nat) (m : ux_M), j + n = 185 → n < f → 8 ≤ j → m 5 844257 0 2 = nI 60 → p_191_14 f x s (nI j) m ∧ m_191_14 f x s (nI j) m = m_191_51 x s (ux_set (z_sh m j) 5 844257 0 2 (nI 59)) := by
  intro n
  induction n with
  | zero =>
    intro f j m hj hf h8 h2
    obtain ⟨f, rfl⟩ : ∃ g, f = g + 1 := ⟨f - 1, by omega⟩
    have hle : (185 : Int32) ≤ nI j := (z_le (a := 185) (by omega) (by omega)).mpr (by omega)
    have e5 : z_sh m j = m := by
      funext a b c d; unfold z_sh; rw [if_neg (by omega)]
    have e6 : (nI 60 : Int32) - (1 : Int32) = nI 59 := nI_pred 59
    rw [p_191_14, m_191_14, if_pos hle]
    simp only [z_c2, h2, e6, e5, forall_eq, and_true]
    refine ⟨fun _ => ⟨z_v2, z_v2, ?_⟩, fun q => absurd hle q⟩
    exact (z_lg51 x s (n := 59) (by omega) (by rw [z_ss])).1
  | succ n ih =>
    intro f j m hj hf h8 h2
    obtain ⟨f, rfl⟩ : ∃ g, f = g + 1 := ⟨f - 1, by omega⟩
    have hle : ¬ (185 : Int32) ≤ nI j := fun q => by have := (z_le (a := 185) (by omega) (by omega)).mp q; omega
    have e3 : nI j + (3 : Int32) = nI (j + 3) := z_add _ 3
    rw [p_191_14, m_191_14, if_neg hle]
    simp only [e3, z_nx, z_cls (show j < 2000000000 by omega), z_cls (show j + 3 < 2000000000 by omega), forall_eq]
    have q := ih f (j + 1) (ux_set m 5 844257 0 j (m 5 844257 0 (j + 3))) (by omega) (by omega) (by omega) (by rw [z_si (by omega)]; exact h2)
    rw [z_shs m (by omega)] at q
    exact ⟨⟨fun z => absurd z hle, fun _ => ⟨z_in (by omega) (by omega), z_in (by omega) (by omega), q.1⟩⟩, q.2⟩
theorem z_log (x s : Int32) {n : Nat} (hn : n ≤ 60) (h2 : m 5 844257 0 2 = nI n) : p_191 x s m ∧ ∀ a b c d, m_191 x s m a b c d = if a = 5 ∧ b = 844257 ∧ c = 0 then z_lg (m 5 844257 0) n x s d else m a b c d := by
  unfold p_191 m_191
  simp only [z_c2, h2]
  by_cases q : n = 60
  · subst q
    have e : (nI 60 : Int32) = 60 := rfl
    have h := z_lg14 x s 177 ux_fuel 8 m (by omega) (Nat.lt_trans (by omega) z_fuel) (by omega) h2
    rw [if_pos e]
    refine ⟨⟨z_v2, fun z => absurd e z, fun _ => h.1⟩, fun a b c d => ?_⟩
    have e2 : m_191_14 ux_fuel x s (8 : Int32) m = _ := h.2
    rw [e2, (z_lg51 x s (n := 59) (by omega) (by rw [z_ss])).2]
    by_cases q : a = 5 ∧ b = 844257 ∧ c = 0
    · obtain ⟨rfl, rfl, rfl⟩ := q
      rw [if_pos ⟨rfl, rfl, rfl⟩, if_pos ⟨rfl, rfl, rfl⟩]
      unfold z_lg
      rw [if_pos (show 59 < 60 by omega), if_neg (show ¬ 60 < 60 by omega)]
      by_cases i2 : d = 2
      · subst i2; rfl
      · rw [if_neg i2, if_neg i2]
        by_cases i3 : d = 185
        · subst i3; rw [if_pos rfl, if_pos rfl, z_si (by omega)]; rfl
        · rw [if_neg (by omega), if_neg i3]
          by_cases i4 : d = 186
          · subst i4; rfl
          · rw [if_neg (by omega), if_neg i4]
            by_cases i5 : d = 187
            · subst i5; rfl
            · rw [if_neg (by omega), if_neg i5, z_si i2]
              unfold z_sh
              by_cases i6 : 8 ≤ d ∧ d < 185
              · rw [if_pos ⟨rfl, rfl, rfl, i6⟩, if_pos i6]
              · rw [if_neg (fun z => i6 z.2.2.2), if_neg i6]
    · rw [if_neg q, if_neg q, z_set, if_neg (fun z => q ⟨z.1, z.2.1, z.2.2.1⟩)]
      unfold z_sh; rw [if_neg (fun z => q ⟨z.1, z.2.1, z.2.2.1⟩)]
  · have e : ¬ (nI n : Int32) = 60 := fun z => q ((z_eq (b := 60) (by omega) (by omega)).mp z)
    rw [if_neg e]
    have h := z_lg51 (m := m) x s (n := n) (by omega) h2
    exact ⟨⟨z_v2, fun _ => h.1, fun z => absurd z e⟩, h.2⟩
/-- AN ENTRY OF THE LOG ON BOTH SIDES -/
theorem z_W.lg (h : z_W k c t B M m) {L : Nat} (hL : L < 120) (hl : M k 16413 0 18 = nI L) (x s : Int32)
    (hM : ∀ s' r i, ¬ s' = 263585 → ¬ (s' = 16413 ∧ i = 18) → M' k s' r i = M k s' r i) (h18 : M' k 16413 0 18 = nI (if L = 119 then 60 else L + 1))
    (hA : ∀ i, M' k 263585 0 i = if i = L % 60 * 3 then nI t else if i = L % 60 * 3 + 1 then x else if i = L % 60 * 3 + 2 then s else M k 263585 0 i)
    (hi : ∀ i, m' 5 844257 0 i = z_lg (m 5 844257 0) (min L 60) x s i) : z_W k c t B M' m' := by
  have hnow := h.now
  obtain ⟨hH, hC, hD, hJ, hLo, hT⟩ := h
  have hg : ∀ i, i < 2 ∨ 188 ≤ i → m' 5 844257 0 i = m 5 844257 0 i := fun i z => by
    rw [hi]; unfold z_lg
    by_cases q : min L 60 < 60
    · rw [if_pos q, if_neg (by omega), if_neg (by omega), if_neg (by omega), if_neg (by omega)]
    · rw [if_neg q, if_neg (by omega), if_neg (by omega), if_neg (by omega), if_neg (by omega), if_neg (by omega)]
  have hY : ∀ b w, z_Y m' b w = z_Y m b w := fun b w => hg _ (Or.inr (by omega))
  refine ⟨?_, hC.cong (fun s' r i q q2 => hM _ _ _ (by omega) (by omega)) (fun b w _ => hY b w), fun q hq' w hw => ?_, ?_, ?_, ?_⟩
  · unfold z_H; rw [hM _ _ _ (by omega) (by omega), hM _ _ _ (by omega) (by omega), hg _ (by omega), hg _ (by omega)]; exact hH
  · have g := z_tf (a := q.1) (s := q.2) hq'
    rw [hY, hM _ _ _ (by omega) (by omega)]; exact hD q hq' w hw
  · have e : z_Y m' 29 = z_Y m 29 := funext (fun w => hY _ _)
    have e2 : z_Y m' 30 = z_Y m 30 := funext (fun w => hY _ _)
    have e3 : z_Y m' 31 = z_Y m 31 := funext (fun w => hY _ _)
    unfold z_J; rw [e, e2, e3, hM 49197 _ _ (by omega) (by omega), hM 49197 _ _ (by omega) (by omega), hM 49197 _ _ (by omega) (by omega), hM 49197 _ _ (by omega) (by omega), hM 16413 _ 4 (by omega) (by omega)]; exact hJ
  · obtain ⟨L0, g1, g2, g3, g4⟩ := hLo
    have e0 : L0 = L := (z_eq (by omega) (by omega)).mp (g2.symm.trans hl)
    subst e0
    refine ⟨if L0 = 119 then 60 else L0 + 1, by split <;> omega, h18, ?_, fun i hi2 p hp => ?_⟩
    · rw [hi]; unfold z_lg
      by_cases q : min L0 60 < 60
      · rw [if_pos q, if_pos rfl]; congr 1; split <;> omega
      · rw [if_neg q, if_pos rfl]; congr 1; split <;> omega
    · show m' 5 844257 0 (8 + (3 * i + p)) = _
      rw [hi, hA]
      unfold z_lg
      by_cases q : min L0 60 < 60
      · have q1 : L0 < 60 := by omega
        have q2 : ¬ L0 = 119 := by omega
        have q3 : min L0 60 = L0 := by omega
        rw [if_neg q2] at hi2 ⊢
        rw [if_pos q, if_neg (by omega), q3]
        have q4 : (if L0 + 1 < 60 then 0 else L0 + 1) + i = i ∨ ((if L0 + 1 < 60 then 0 else L0 + 1) + i = 60 + i) := by split <;> omega
        have q5 : ((if L0 + 1 < 60 then 0 else L0 + 1) + i) % 60 = i := by omega
        rw [q5, Nat.mod_eq_of_lt q1]
        by_cases z : i = L0
        · subst z
          have : p = 0 ∨ p = 1 ∨ p = 2 := by omega
          rcases this with rfl | rfl | rfl
          · rw [if_pos (by omega), if_pos (by omega)]; exact hnow
          · rw [if_neg (by omega), if_pos (by omega), if_neg (by omega), if_pos (by omega)]
          · rw [if_neg (by omega), if_neg (by omega), if_pos (by omega), if_neg (by omega), if_neg (by omega), if_pos (by omega)]
        · rw [if_neg (by omega), if_neg (by omega), if_neg (by omega), if_neg (by omega), if_neg (by omega), if_neg (by omega)]
          have := (show m 5 844257 0 (8 + (3 * i + p)) = _ from g4 i (by omega) p hp)
          rw [if_pos q1, Nat.zero_add, Nat.mod_eq_of_lt (by omega)] at this
          rw [← this]
      · have q1 : 60 ≤ L0 := by omega
        have q3 : min L0 60 = 60 := by omega
        rw [if_neg q, if_neg (by omega)]
        have hi60 : i < 60 := by split at hi2 <;> omega
        have q5 : ((if (if L0 = 119 then 60 else L0 + 1) < 60 then 0 else (if L0 = 119 then 60 else L0 + 1)) + i) % 60 = (L0 + 1 + i) % 60 := by
          by_cases z : L0 = 119
          · subst z; rw [if_pos rfl, if_neg (by omega)]; omega
          · rw [if_neg z, if_neg (by omega)]
        rw [q5]
        by_cases z : i = 59
        · subst z
          have q6 : (L0 + 1 + 59) % 60 = L0 % 60 := by omega
          rw [q6]
          have : p = 0 ∨ p = 1 ∨ p = 2 := by omega
          rcases this with rfl | rfl | rfl
          · rw [if_pos (by omega), if_pos (by omega)]; exact hnow
          · rw [if_neg (by omega), if_pos (by omega), if_neg (by omega), if_pos (by omega)]
          · rw [if_neg (by omega), if_neg (by omega), if_pos (by omega), if_neg (by omega), if_neg (by omega), if_pos (by omega)]
        · have q6 : ¬ (L0 + 1 + i) % 60 = L0 % 60 := by omega
          rw [if_neg (by omega), if_neg (by omega), if_neg (by omega), if_pos (by omega), if_neg (by omega), if_neg (by omega), if_neg (by omega)]
          have := (show m 5 844257 0 (8 + (3 * (i + 1) + p)) = _ from g4 (i + 1) (by omega) p hp)
          rw [if_neg (by omega)] at this
          rw [show L0 + 1 + i = L0 + (i + 1) by omega, ← this]; congr 1; omega
  · have e : M' k 164993 0 = M k 164993 0 := funext (fun i => hM _ _ _ (by omega) (by omega))
    have e2 : z_Y m' 38 = z_Y m 38 := funext (fun w => hY _ _)
    have e3 : z_Y m' 45 = z_Y m 45 := funext (fun w => hY _ _)
    have e4 : (fun i u => z_Y m' (46 + i) u) = (fun i u => z_Y m (46 + i) u) := by funext i u; exact hY _ _
    unfold z_T; rw [e, e2, e3, e4]; exact hT
end ZB
