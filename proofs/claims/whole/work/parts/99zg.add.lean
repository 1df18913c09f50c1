/-! LOAD, 12: the class adds a unit -/
section ZLC
variable {C C' M m m' : ux_M} {T : Nat → Int32} {N i j p p' q n u v w c d e L k s r sz : Nat} {V a b x kd : Int32}
/-- a property of which nothing was said -/
def z_df (w : Nat) : Int32 := if w = 6 then 1 else if w = 7 then 5 else if w = 8 then 10 else 0
theorem z_20b (hc : c < 16) : ∀ n f w M, w + n = 10 → n < f → p_20_102 f 4 (nI c) (nI w) M ∧ r_20_102 f 4 (nI c) (nI w) M = nI c
    ∧ (∀ w', w' < 10 → m_20_102 f 4 (nI c) (nI w) M 4 410881 0 (c * 10 + w') = if w' = 6 then 1 else if w' = 7 then 5 else if w' = 8 then 10 else if w ≤ w' then 0 else M 4 410881 0 (c * 10 + w'))
    ∧ m_20_102 f 4 (nI c) (nI w) M 4 426113 0 c = -1 ∧ m_20_102 f 4 (nI c) (nI w) M 4 442497 0 c = 0
    ∧ (∀ a s r i, ¬ (a = 4 ∧ ((s = 410881 ∧ c * 10 ≤ i ∧ i < c * 10 + 10) ∨ ((s = 426113 ∨ s = 442497) ∧ i = c))) → m_20_102 f 4 (nI c) (nI w) M a s r i = M a s r i) := by
  intro n
  induction n with
  | zero =>
    intro f w M hi hf
    obtain ⟨f, rfl⟩ : ∃ g, f = g + 1 := ⟨f - 1, by omega⟩
    have le : (10 : Int32) ≤ nI w := (z_le (a := 10) (by omega) (by omega)).mpr (by omega)
    have i6 : (nI c * (10 : Int32) + (6 : Int32)).toNatClampNeg = c * 10 + 6 := z_pr c 6 (by omega) (by omega)
    have i7 : (nI c * (10 : Int32) + (7 : Int32)).toNatClampNeg = c * 10 + 7 := z_pr c 7 (by omega) (by omega)
    have i8 : (nI c * (10 : Int32) + (8 : Int32)).toNatClampNeg = c * 10 + 8 := z_pr c 8 (by omega) (by omega)
    obtain ⟨R, eR⟩ : ∃ R, R = ux_set (ux_set (ux_set (ux_set (ux_set M 4 410881 0 (c * 10 + 6) 1) 4 410881 0 (c * 10 + 7) 5) 4 410881 0 (c * 10 + 8) 10) 4 426113 0 c (-1)) 4 442497 0 c 0 := ⟨_, rfl⟩
    have em : m_20_102 (f + 1) 4 (nI c) (nI w) M = R := by rw [m_20_102, if_pos le, i6, i7, i8, z_cl hc, eR]
    rw [em, p_20_102, r_20_102, if_pos le, eR]
    refine ⟨⟨fun _ => ⟨z_pv c 6 hc (by omega), fun _ _ => ⟨z_pv c 7 hc (by omega), fun _ _ => ⟨z_pv c 8 hc (by omega), fun _ _ => ⟨z_i16 hc, fun _ _ => z_i16 hc⟩⟩⟩⟩, fun z => absurd le z⟩, rfl, fun w' hw' => ?_, ?_, z_ss, fun a s r i q => ?_⟩
    · rw [z_so (by decide), z_so (by decide), z_set, z_set, z_set]
      by_cases q6 : w' = 6
      · subst q6; rw [if_neg (by omega), if_neg (by omega), if_pos ⟨rfl, rfl, rfl, rfl⟩]; rfl
      · by_cases q7 : w' = 7
        · subst q7; rw [if_neg (by omega), if_pos ⟨rfl, rfl, rfl, rfl⟩]; rfl
        · by_cases q8 : w' = 8
          · subst q8; rw [if_pos ⟨rfl, rfl, rfl, rfl⟩]; rfl
          · rw [if_neg (by omega), if_neg (by omega), if_neg (by omega), if_neg q6, if_neg q7, if_neg q8, if_neg (by omega)]
    · rw [z_so (by decide)]; exact z_ss
    · rw [z_set, if_neg (by omega), z_set, if_neg (by omega), z_set, if_neg (by omega), z_set, if_neg (by omega), z_set, if_neg (by omega)]
  | succ n ih =>
    intro f w M hi hf
    obtain ⟨f, rfl⟩ : ∃ g, f = g + 1 := ⟨f - 1, by omega⟩
    have le : ¬ (10 : Int32) ≤ nI w := fun z => by have := (z_le (a := 10) (by omega) (by omega)).mp z; omega
    have iw : (nI c * (10 : Int32) + nI w).toNatClampNeg = c * 10 + w := z_pr c w (by omega) (by omega)
    obtain ⟨i1, i2, i3, i4, i5, i6⟩ := ih f (w + 1) (ux_set M 4 410881 0 (c * 10 + w) 0) (by omega) (by omega)
    have em : m_20_102 (f + 1) 4 (nI c) (nI w) M = m_20_102 f 4 (nI c) (nI (w + 1)) (ux_set M 4 410881 0 (c * 10 + w) 0) := by rw [m_20_102, if_neg le, iw, z_nx]
    have er : r_20_102 (f + 1) 4 (nI c) (nI w) M = r_20_102 f 4 (nI c) (nI (w + 1)) (ux_set M 4 410881 0 (c * 10 + w) 0) := by rw [r_20_102, if_neg le, iw, z_nx]
    rw [em, er, p_20_102, iw, z_nx]
    refine ⟨⟨fun z => absurd z le, fun _ => ⟨z_pv c w hc (by omega), fun M7 e => by subst e; exact i1⟩⟩, i2, fun w' hw' => ?_, i4, i5, fun a s r i q => ?_⟩
    · rw [i3 w' hw', z_set]
      by_cases q : w' = w
      · subst q
        rw [if_pos (show (4 : Nat) = 4 ∧ (410881 : Nat) = 410881 ∧ (0 : Nat) = 0 ∧ c * 10 + w' = c * 10 + w' from ⟨rfl, rfl, rfl, rfl⟩), if_neg (show ¬ w' + 1 ≤ w' by omega), if_pos (Nat.le_refl w')]
      · rw [if_neg (show ¬ ((4 : Nat) = 4 ∧ (410881 : Nat) = 410881 ∧ (0 : Nat) = 0 ∧ c * 10 + w' = c * 10 + w) by omega)]
        by_cases g : w ≤ w'
        · rw [if_pos (show w + 1 ≤ w' by omega), if_pos g]
        · rw [if_neg (show ¬ w + 1 ≤ w' by omega), if_neg g]
    · rw [i6 a s r i q, z_set, if_neg (by omega)]
theorem z_20a (hc : c < 16) (hs : sz ≤ 8) (hN : N ≤ 800) (hz : p + sz ≤ N) : ∀ n f j M, j + n = sz → n < f → (∀ i, i < N → M 4 694529 0 i = T i) → ∃ R : ux_M, (p_20_102 ux_fuel 4 (nI c) 0 R → p_20_67 f 4 (nI p) (nI sz) (nI c) (nI j) M) ∧ r_20_67 f 4 (nI p) (nI sz) (nI c) (nI j) M = r_20_102 ux_fuel 4 (nI c) 0 R ∧ m_20_67 f 4 (nI p) (nI sz) (nI c) (nI j) M = m_20_102 ux_fuel 4 (nI c) 0 R
    ∧ (∀ j', j ≤ j' → j' < sz → R 4 394241 0 (c * 8 + j') = T (p + j')) ∧ (∀ a s r i, ¬ (a = 4 ∧ s = 394241 ∧ c * 8 + j ≤ i ∧ i < c * 8 + sz) → R a s r i = M a s r i) := by
  intro n
  induction n with
  | zero =>
    intro f j M hj hf hT
    obtain ⟨f, rfl⟩ : ∃ g, f = g + 1 := ⟨f - 1, by omega⟩
    have le : nI sz ≤ nI j := (z_le (by omega) (by omega)).mpr (by omega)
    refine ⟨M, ?_, ?_, ?_, fun j' h1 h2 => by omega, fun _ _ _ _ _ => rfl⟩
    · rw [p_20_67]; exact fun q => ⟨fun _ => q, fun z => absurd le z⟩
    · rw [r_20_67, if_pos le]
    · rw [m_20_67, if_pos le]
  | succ n ih =>
    intro f j M hj hf hT
    obtain ⟨f, rfl⟩ : ∃ g, f = g + 1 := ⟨f - 1, by omega⟩
    have le : ¬ nI sz ≤ nI j := fun z => by have := (z_le (by omega) (by omega)).mp z; omega
    obtain ⟨R, r1, r2, r3, r4, r5⟩ := ih f (j + 1) (ux_set M 4 394241 0 (c * 8 + j) (T (p + j))) (by omega) (by omega) (fun i hi => (z_so (by decide)).trans (hT i hi))
    have v1 : vp_in (nI (p + j)) 800 := vp_in_nI (by omega) (by omega)
    have v2 : vp_in (nI (c * 8 + j)) 128 := vp_in_nI (by omega) (by omega)
    refine ⟨R, ?_, ?_, ?_, fun j' h1 h2 => ?_, fun a s r i q => ?_⟩
    · rw [p_20_67, z_add, z_ix8, z_cls (show p + j < 2000000000 by omega), z_cls (show c * 8 + j < 2000000000 by omega), hT (p + j) (by omega), z_nx]
      exact fun q => ⟨fun z => absurd z le, fun _ => ⟨v1, v2, fun M2 e => by subst e; exact r1 q⟩⟩
    · rw [r_20_67, if_neg le, z_add, z_ix8, z_cls (show p + j < 2000000000 by omega), z_cls (show c * 8 + j < 2000000000 by omega), hT (p + j) (by omega), z_nx]; exact r2
    · rw [m_20_67, if_neg le, z_add, z_ix8, z_cls (show p + j < 2000000000 by omega), z_cls (show c * 8 + j < 2000000000 by omega), hT (p + j) (by omega), z_nx]; exact r3
    · by_cases e : j' = j
      · subst e; rw [r5 _ _ _ _ (by omega), z_ss]
      · exact r4 j' (by omega) h2
    · rw [r5 a s r i (by omega), z_set, if_neg (by omega)]
/-- add -/
theorem z_20 (h : z_rd4 C T N) (hcn : C 4 344085 0 0 = nI c) (hc : c < 16) (hs : sz ≤ 8) (hz : p + sz ≤ N) : ∃ R : ux_M, p_20 4 kd (nI p) (nI sz) C ∧ r_20 4 kd (nI p) (nI sz) C = nI c ∧ m_20 4 kd (nI p) (nI sz) C = R
    ∧ R 4 344085 0 0 = nI (c + 1) ∧ R 4 360577 0 c = kd ∧ R 4 376961 0 c = nI sz ∧ R 4 426113 0 c = -1 ∧ R 4 442497 0 c = 0 ∧ (∀ j, j < sz → R 4 394241 0 (c * 8 + j) = T (p + j)) ∧ (∀ w, w < 10 → R 4 410881 0 (c * 10 + w) = z_df w)
    ∧ (∀ a s r i, ¬ (a = 4 ∧ ((s = 344085 ∧ i = 0) ∨ ((s = 360577 ∨ s = 376961 ∨ s = 426113 ∨ s = 442497) ∧ i = c) ∨ (s = 394241 ∧ c * 8 ≤ i ∧ i < c * 8 + 8) ∨ (s = 410881 ∧ c * 10 ≤ i ∧ i < c * 10 + 10))) → R a s r i = C a s r i) := by
  obtain ⟨hN, h1, h2, hT⟩ := h
  have hf := z_fuel
  have n16 : ¬ (16 : Int32) ≤ nI c := fun z => by have := (z_le (a := 16) (by omega) (by omega)).mp z; omega
  have n0 : ¬ nI p < 0 := nI_pos (by omega)
  have n8 : ¬ (8 : Int32) < nI sz := fun z => by have := (z_lt (a := 8) (by omega) (by omega)).mp z; omega
  have le : nI p + nI sz ≤ Int32.ofNat 800 := by rw [z_add]; exact (z_le (b := 800) (by omega) (by omega)).mpr (by omega)
  obtain ⟨M7, e7⟩ : ∃ M7, M7 = ux_set (ux_set (ux_set C 4 344085 0 0 (nI (c + 1))) 4 360577 0 c kd) 4 376961 0 c (nI sz) := ⟨_, rfl⟩
  have hT7 : ∀ i, i < N → M7 4 694529 0 i = T i := fun i hi => by rw [e7, z_so (by decide), z_so (by decide), z_so (by decide)]; exact hT i hi
  obtain ⟨R, r1, r2, r3, r4, r5⟩ := z_20a (T := T) hc hs hN hz sz ux_fuel 0 M7 (by omega) (by omega) hT7
  obtain ⟨q1, q2, q3, q4, q5, q6⟩ := z_20b hc 10 ux_fuel 0 R (by omega) (by omega)
  have fr : ∀ a s r i, ¬ (a = 4 ∧ ((s = 394241 ∧ c * 8 ≤ i ∧ i < c * 8 + 8) ∨ (s = 426113 ∨ s = 442497) ∧ i = c ∨ (s = 410881 ∧ c * 10 ≤ i ∧ i < c * 10 + 10))) → m_20_102 ux_fuel 4 (nI c) (nI 0) R a s r i = M7 a s r i := fun a s r i q => by
    rw [q6 a s r i (by omega), r5 a s r i (by omega)]
  have e0 : (0 : Int32) = nI 0 := rfl
  refine ⟨m_20_102 ux_fuel 4 (nI c) (nI 0) R, ?_, ?_, ?_, ?_, ?_, ?_, q4, q5, fun j hj => ?_, fun w hw => ?_, fun a s r i q => ?_⟩
  · unfold p_20
    rw [hcn, z_nx, z_cl hc]
    refine ⟨fun z => absurd z n16, fun _ => ⟨fun z => absurd z n0, fun _ => ⟨fun z => absurd z n8, fun _ => ⟨fun _ M5 e5 => ⟨z_i16 hc, fun M6 e6 => ⟨z_i16 hc, fun M7' e7' => ?_⟩⟩, fun z => absurd le z⟩⟩⟩⟩
    subst e5; subst e6; rw [← e7] at e7'; subst e7'
    exact r1 q1
  · unfold r_20
    rw [hcn, if_neg n16, if_neg n0, if_neg n8, if_pos le, z_nx, z_cl hc]
    show r_20_67 ux_fuel 4 (nI p) (nI sz) (nI c) 0 (ux_set (ux_set (ux_set C 4 344085 0 0 (nI (c + 1))) 4 360577 0 c kd) 4 376961 0 c (nI sz)) = _
    rw [← e7]; exact r2.trans q2
  · unfold m_20
    rw [hcn, if_neg n16, if_neg n0, if_neg n8, if_pos le, z_nx, z_cl hc]
    show m_20_67 ux_fuel 4 (nI p) (nI sz) (nI c) 0 (ux_set (ux_set (ux_set C 4 344085 0 0 (nI (c + 1))) 4 360577 0 c kd) 4 376961 0 c (nI sz)) = _
    rw [← e7]; exact r3
  · rw [fr _ _ _ _ (by omega), e7, z_so (by decide), z_so (by decide), z_ss]
  · rw [fr _ _ _ _ (by omega), e7, z_so (by decide), z_ss]
  · rw [fr _ _ _ _ (by omega), e7, z_ss]
  · rw [q6 _ _ _ _ (by omega)]; exact r4 j (Nat.zero_le _) hj
  · rw [q3 w hw]
    unfold z_df
    rw [if_pos (Nat.zero_le w)]
  · rw [fr a s r i (by omega), e7, z_set, if_neg (by omega), z_set, if_neg (by omega), z_set, if_neg (by omega)]
end ZLC
