/-! the note of a begin; leaving; the end of an activation -/
section ZG
variable {k c t B B' u v a b s x n : Nat} {M m M' m' : ux_M}
theorem z_W.mono (h : z_W k c t B M m) (hB : B ≤ B') : z_W k c t B' M m := by
  obtain ⟨h1, h2, h3, h4, h5, h6⟩ := h
  refine ⟨h1, h2, h3, h4, h5, fun u hu => ?_⟩
  obtain ⟨a, q1, q2⟩ := h6 u hu
  exact ⟨a, Nat.le_trans q1 hB, q2⟩
theorem z_R.mono (h : z_R x b k c t B M m) (hB : B ≤ B') : z_R x b k c t B' M m := ⟨h.1.mono hB, h.2⟩
theorem z_W.tm (h : z_W k c t B M m) (hu : u < c) (ha : z_Y m 38 u = nI a) (haB : a ≤ B)
    (hM : ∀ s r i, ¬ s = 164993 → ¬ (s = 147585 ∧ i = u) → ¬ (s = 180353 ∧ i = u) → M' k s r i = M k s r i)
    (h1 : ∀ i, M' k 164993 0 i = if i = u * 9 + a % 9 then nI t else M k 164993 0 i) (h2 : M' k 147585 0 u = nI (a + 1)) (h3 : M' k 180353 0 u = z_Y m 39 u + 1)
    (hm : ∀ i, i < 188 + 56 * u + 38 ∨ 188 + 56 * u + 55 ≤ i ∨ (188 + 56 * u + 39 < i ∧ i < 188 + 56 * u + 45) → m' 5 844257 0 i = m 5 844257 0 i)
    (g38 : z_Y m' 38 u = nI (a + 1)) (g39 : z_Y m' 39 u = z_Y m 39 u + 1) (g45 : z_Y m' 45 u = nI (min (a + 1) 9))
    (g46 : ∀ i, i < min (a + 1) 9 → z_Y m' (46 + i) u = if i + 1 = min (a + 1) 9 then nI t else if a < 9 then z_Y m (46 + i) u else z_Y m (46 + i + 1) u) (haL : a < 2000000000) (hBL : B < 2000000000) : z_W k c t (B + 1) M' m' := by
  obtain ⟨hH, hC, hD, hJ, hL, hT⟩ := h
  have hc := hH.1
  have hY : ∀ b w, b < 56 → ¬ w = u → z_Y m' b w = z_Y m b w := fun b w hb hw => hm _ (by omega)
  have hY2 : ∀ b w, b < 45 → ¬ b = 38 → ¬ b = 39 → z_Y m' b w = z_Y m b w := fun b w hb q1 q2 => by
    by_cases q : w = u
    · subst q; exact hm _ (by omega)
    · exact hY b w (by omega) q
  refine ⟨?_, hC.cong (fun s' r i q _ => hM s' r i (by omega) (by omega) (by omega)) (fun b w hb => hY2 b w (by omega) (by omega) (by omega)), fun q hq' w hw => ?_, ?_, ?_, ?_⟩
  · unfold z_H; rw [hM _ _ _ (by omega) (by omega) (by omega), hM _ _ _ (by omega) (by omega) (by omega), hm _ (by omega), hm _ (by omega)]; exact hH
  · have g := z_tf (a := q.1) (s := q.2) hq'
    by_cases e : w = u
    · subst e
      by_cases q38 : q.1 = 38
      · have q2 : q.2 = 147585 := (z_ti (a := 38) (s := 147585) (List.mem_of_getElem? (i := 5) rfl) hq').mpr q38
        rw [q38, q2, h2, g38]
      · by_cases q39 : q.1 = 39
        · have q2 : q.2 = 180353 := (z_ti (a := 39) (s := 180353) (List.mem_of_getElem? (i := 6) rfl) hq').mpr q39
          rw [q39, q2, h3, g39]
        · have n38 : ¬ q.2 = 147585 := fun z => q38 ((z_ti (a := 38) (s := 147585) (List.mem_of_getElem? (i := 5) rfl) hq').mp z)
          have n39 : ¬ q.2 = 180353 := fun z => q39 ((z_ti (a := 39) (s := 180353) (List.mem_of_getElem? (i := 6) rfl) hq').mp z)
          rw [hY2 _ _ (by omega) q38 q39, hM _ _ _ (by omega) (by omega) (by omega)]; exact hD q hq' w hw
    · rw [hY _ _ (by omega) e, hM _ _ _ (by omega) (by omega) (by omega)]; exact hD q hq' w hw
  · have e : z_Y m' 29 = z_Y m 29 := funext (fun w => hY2 _ _ (by omega) (by omega) (by omega))
    have e2 : z_Y m' 30 = z_Y m 30 := funext (fun w => hY2 _ _ (by omega) (by omega) (by omega))
    have e3 : z_Y m' 31 = z_Y m 31 := funext (fun w => hY2 _ _ (by omega) (by omega) (by omega))
    unfold z_J; rw [e, e2, e3, hM 49197 _ _ (by omega) (by omega) (by omega), hM 49197 _ _ (by omega) (by omega) (by omega), hM 49197 _ _ (by omega) (by omega) (by omega), hM 49197 _ _ (by omega) (by omega) (by omega), hM 16413 _ _ (by omega) (by omega) (by omega)]; exact hJ
  · have e : M' k 263585 0 = M k 263585 0 := funext (fun i => hM _ _ _ (by omega) (by omega) (by omega))
    have e2 : z_LF (M k 16413 0 18) (m 5 844257 0 2) (M k 263585 0) (fun i => m' 5 844257 0 (8 + i)) := by
      obtain ⟨L, q1, q2, q3, q4⟩ := hL
      exact ⟨L, q1, q2, q3, fun i hi p hp => (hm _ (by omega)).trans (q4 i hi p hp)⟩
    unfold z_L; rw [e, hm _ (by omega), hM _ _ _ (by omega) (by omega) (by omega)]; exact e2
  · intro w hw
    obtain ⟨a', q1, q2, q3, q4⟩ := hT w hw
    by_cases e : w = u
    · subst e
      have ea : a' = a := (z_eq (by omega) haL).mp (q2.symm.trans ha)
      subst ea
      refine ⟨a' + 1, by omega, g38, g45, fun i hi => (g46 i hi).trans ?_⟩
      rw [h1]
      by_cases l9 : a' < 9
      · rw [show min (a' + 1) 9 = a' + 1 by omega] at hi ⊢
        by_cases z : i = a'
        · subst z; rw [if_pos rfl, if_pos (by omega)]
        · rw [if_neg (by omega), if_pos l9, if_neg (by omega)]
          have := (show z_Y m (46 + i) w = _ from q4 i (by omega))
          rw [this]; congr 2; omega
      · rw [show min (a' + 1) 9 = 9 by omega] at hi ⊢
        by_cases z : i = 8
        · subst z; rw [if_pos rfl, if_pos (by omega)]
        · rw [if_neg (by omega), if_neg l9, if_neg (by omega)]
          have := (show z_Y m (46 + (i + 1)) w = _ from q4 (i + 1) (by omega))
          rw [show 46 + i + 1 = 46 + (i + 1) by omega, this]; congr 2; omega
    · refine ⟨a', by omega, (hY 38 w (by omega) e).trans q2, (hY 45 w (by omega) e).trans q3, fun i hi => ?_⟩
      rw [h1, if_neg (by omega)]
      exact (hY (46 + i) w (by omega) e).trans (q4 i hi)
/-- the reference's note of a begin -/
def z_n54 (m : ux_M) (u n t : Nat) : ux_M := z_P (z_P (z_P (z_P m (46 + n) u (nI t)) 45 u (nI (n + 1))) 39 u (z_Y m 39 u + 1)) 38 u (z_Y m 38 u + 1)
theorem z_54 (hu : u < 16) {n : Nat} (hn : n < 9) (h45 : z_Y m 45 u = nI n) (h0 : m 5 844257 0 0 = nI t) : p_229_54 (nI u) m ∧ m_229_54 (nI u) m = z_n54 m u n t := by
  have e : (46 : Int32) + nI n = nI (46 + n) := z_add 46 n
  have i45 : z_Y (z_P m (46 + n) u (nI t)) 45 u = nI n := by rw [z_up1 _ _ _ _ (by omega) (by omega) (by omega)]; exact h45
  have i39 : z_Y (z_P (z_P m (46 + n) u (nI t)) 45 u (nI (n + 1))) 39 u = z_Y m 39 u := by rw [z_up1 _ _ _ _ (by omega) (by omega) (by omega), z_up1 _ _ _ _ (by omega) (by omega) (by omega)]
  have i38 : z_Y (z_P (z_P (z_P m (46 + n) u (nI t)) 45 u (nI (n + 1))) 39 u (z_Y m 39 u + 1)) 38 u = z_Y m 38 u := by rw [z_up1 _ _ _ _ (by omega) (by omega) (by omega), z_up1 _ _ _ _ (by omega) (by omega) (by omega), z_up1 _ _ _ _ (by omega) (by omega) (by omega)]
  unfold p_229_54 m_229_54 z_n54
  simp only [of45 _ hu, h45, e, z_c0, h0, z_pu m (46 + n) u (nI t) (by omega) hu, forall_eq, i45, z_nx, pu45 _ _ hu, of39 _ hu, i39, pu39 _ _ hu, of38 _ hu, i38, pu38 _ _ hu, and_true]
  exact ⟨uu45 hu, z_v0, z_uu (46 + n) u (by omega) hu, uu45 hu, uu39 hu, uu38 hu⟩
def z_s9 (m : ux_M) (u j : Nat) : ux_M := fun a b c d => if a = 5 ∧ b = 844257 ∧ c = 0 ∧ 188 + 56 * u + 45 + j ≤ d ∧ d < 188 + 56 * u + 54 then m 5 844257 0 (d + 1) else m a b c d
theorem z_s9s (m : ux_M) {u j : Nat} (hj : j < 9) : z_s9 (z_P m (45 + j) u (z_Y m (46 + j) u)) u (j + 1) = z_s9 m u j := by
  funext a b c d
  unfold z_s9 z_P z_Y
  by_cases q : a = 5 ∧ b = 844257 ∧ c = 0
  · obtain ⟨rfl, rfl, rfl⟩ := q
    simp only [true_and, z_set]
    by_cases i : d = 188 + 56 * u + (45 + j)
    · rw [if_neg (by omega), if_pos i, if_pos (by omega)]; congr 1; omega
    · by_cases z : 188 + 56 * u + 45 + j ≤ d ∧ d < 188 + 56 * u + 54
      · rw [if_pos (by omega), if_neg (by omega), if_pos z]
      · rw [if_neg (by omega), if_neg i, if_neg z]
  · rw [if_neg (fun z => q ⟨z.1, z.2.1, z.2.2.1⟩), if_neg (fun z => q ⟨z.1, z.2.1, z.2.2.1⟩), z_set, if_neg (fun z => q ⟨z.1, z.2.1, z.2.2.1⟩)]
theorem z_14 (hu : u < 16) : ∀ (n f j : Nat) (m : ux_M), j + n = 9 → n < f → 1 ≤ j → z_Y m 45 u = nI 9 → m 5 844257 0 0 = nI t → p_229_14 f (nI u) (nI j) m ∧ m_229_14 f (nI u) (nI j) m = z_n54 (z_P (z_s9 m u j) 45 u (nI 8)) u 8 t := by
  intro n
  induction n with
  | zero =>
    intro f j m hj hf h1 h45 h0
    obtain ⟨f, rfl⟩ : ∃ g, f = g + 1 := ⟨f - 1, by omega⟩
    have hle : (9 : Int32) ≤ nI j := (z_le (a := 9) (by omega) (by omega)).mpr (by omega)
    have e9 : (nI 9 : Int32) + (-1) = nI 8 := by decide
    have es : z_s9 m u j = m := by funext a b c d; unfold z_s9; rw [if_neg (by omega)]
    obtain ⟨q1, q2⟩ := z_54 (m := z_P m 45 u (nI 8)) (t := t) hu (n := 8) (by omega) (z_up2 _ _ _ _ (by omega)) (by rw [z_Yc _ _ _ _ (by omega)]; exact h0)
    rw [p_229_14, m_229_14, if_pos hle]
    simp only [of45 _ hu, h45, e9, pu45 _ _ hu, forall_eq, es]
    exact ⟨⟨fun _ => ⟨uu45 hu, q1⟩, fun z => absurd hle z⟩, q2⟩
  | succ n ih =>
    intro f j m hj hf h1 h45 h0
    obtain ⟨f, rfl⟩ : ∃ g, f = g + 1 := ⟨f - 1, by omega⟩
    have hle : ¬ (9 : Int32) ≤ nI j := fun q => by have := (z_le (a := 9) (by omega) (by omega)).mp q; omega
    have e : (46 : Int32) + nI j = nI (46 + j) := z_add 46 j
    have e2 : nI (46 + j) - (1 : Int32) = nI (45 + j) := by rw [show 46 + j = 45 + j + 1 by omega]; exact nI_pred (45 + j)
    obtain ⟨q1, q2⟩ := ih f (j + 1) (z_P m (45 + j) u (z_Y m (46 + j) u)) (by omega) (by omega) (by omega) (by rw [z_YP _ _ _ _ (by omega) (by omega), if_neg (by omega)]; exact h45) (by rw [z_Yc _ _ _ _ (by omega)]; exact h0)
    rw [z_s9s m (by omega)] at q2
    rw [p_229_14, m_229_14, if_neg hle]
    simp only [e, e2, z_of m (46 + j) u (by omega) hu, z_pu m (45 + j) u _ (by omega) hu, z_nx, forall_eq]
    exact ⟨⟨fun z => absurd z hle, fun _ => ⟨z_uu (46 + j) u (by omega) hu, z_uu (45 + j) u (by omega) hu, q1⟩⟩, q2⟩
theorem z_229 (hu : u < 16) {n : Nat} (hn : n ≤ 9) (h45 : z_Y m 45 u = nI n) (h0 : m 5 844257 0 0 = nI t) : p_229 (nI u) m ∧ m_229 (nI u) m = if n < 9 then z_n54 m u n t else z_n54 (z_P (z_s9 m u 1) 45 u (nI 8)) u 8 t := by
  unfold p_229 m_229
  simp only [of45 _ hu, h45]
  by_cases q : n = 9
  · subst q
    have e : (nI 9 : Int32) = 9 := rfl
    obtain ⟨q1, q2⟩ := z_14 (t := t) hu 8 ux_fuel 1 m (by omega) (Nat.lt_trans (by omega) z_fuel) (by omega) h45 h0
    rw [if_pos e, if_neg (by omega)]
    exact ⟨⟨uu45 hu, fun z => absurd e z, fun _ => q1⟩, q2⟩
  · have e : ¬ (nI n : Int32) = 9 := fun z => q ((z_eq (b := 9) (by omega) (by omega)).mp z)
    obtain ⟨q1, q2⟩ := z_54 (m := m) (t := t) hu (n := n) (by omega) h45 h0
    rw [if_neg e, if_pos (by omega)]
    exact ⟨⟨uu45 hu, fun _ => q1, fun z => absurd z e⟩, q2⟩
theorem z_fm {a : Nat} (ha : a < 2000000000) : ux_fm (nI a) 9 = nI (a % 9) := by
  have e : nI a - nI a / (9 : Int32) * (9 : Int32) = nI (a % 9) := pk_rem (a := a) (d := 9) (by omega) (by omega) (by omega)
  have e2 : nI a ^^^ (9 : Int32) = nI (a ^^^ 9) := by
    apply Int32.toBitVec_inj.1
    show BitVec.ofNat 32 a ^^^ BitVec.ofNat 32 9 = BitVec.ofNat 32 (a ^^^ 9)
    apply BitVec.eq_of_getLsbD_eq
    intro i hi
    simp [hi]
  have e3 : a ^^^ 9 < 2 ^ 31 := Nat.xor_lt_two_pow (by omega) (by omega)
  unfold ux_fm
  rw [e, e2]
  simp only
  rw [if_neg (fun z => nI_pos e3 z.1)]
/-- NOTING A BEGIN -/
theorem z_W.nb (h : z_W k c t B M m) (hB : B < 1999999999) (hu : u < c) : ∃ a, a ≤ B ∧ z_Y m 38 u = nI a ∧ p_229 (nI u) m
    ∧ z_W k c t (B + 1) (ux_set (ux_set (ux_set M k 164993 0 (u * 9 + a % 9) (nI t)) k 147585 0 u (nI (a + 1))) k 180353 0 u (z_Y m 39 u + 1)) (m_229 (nI u) m)
    ∧ (∀ a w, a < 45 → ¬ a = 38 → ¬ a = 39 → z_Y (m_229 (nI u) m) a w = z_Y m a w) ∧ z_Y (m_229 (nI u) m) 38 u = nI (a + 1) := by
  have h16 := h.u16 hu
  obtain ⟨a, ha, ea, en, ex⟩ := h.2.2.2.2.2 u hu
  obtain ⟨q1, q2⟩ := z_229 (m := m) (t := t) h16 (n := min a 9) (by omega) en h.now
  have y54 : ∀ (m0 : ux_M) (n a' w : Nat), n < 9 → a' < 45 → ¬ a' = 38 → ¬ a' = 39 → z_Y (z_n54 m0 u n t) a' w = z_Y m0 a' w := fun m0 n a' w hn h1 h2 h3 => by
    unfold z_n54
    rw [z_up1 _ _ _ _ (by omega) (by omega) h2, z_up1 _ _ _ _ (by omega) (by omega) h3, z_up1 _ _ _ _ (by omega) (by omega) (by omega), z_up1 _ _ _ _ (by omega) (by omega) (by omega)]
  have s9 : ∀ a' w, a' < 46 → z_Y (z_s9 m u 1) a' w = z_Y m a' w := fun a' w ha' => by
    unfold z_Y z_s9; rw [if_neg (by omega)]
  have s9' : ∀ a' w, a' < 45 → z_Y (z_P (z_s9 m u 1) 45 u (nI 8)) a' w = z_Y m a' w := fun a' w ha' => by
    rw [z_up1 _ _ _ _ (by omega) (by omega) (by omega), s9 _ _ (by omega)]
  have hv : ∀ a' w, a' < 45 → ¬ a' = 38 → ¬ a' = 39 → z_Y (m_229 (nI u) m) a' w = z_Y m a' w := fun a' w h1 h2 h3 => by
    rw [q2]; split
    · exact y54 _ _ _ _ (by omega) h1 h2 h3
    · rw [y54 _ _ _ _ (by omega) h1 h2 h3, s9' _ _ h1]
  have hx : z_Y m 38 u + 1 = nI (a + 1) := by rw [ea]; exact z_nx a
  have h38 : z_Y (m_229 (nI u) m) 38 u = nI (a + 1) := by
    rw [q2]; split
    · unfold z_n54; rw [z_up2 _ _ _ _ (by omega), hx]
    · unfold z_n54; rw [z_up2 _ _ _ _ (by omega), s9' _ _ (by omega), hx]
  refine ⟨a, ha, ea, q1, ?_, hv, h38⟩
  refine h.tm hu ea ha ?_ ?_ ?_ ?_ ?_ h38 ?_ ?_ ?_ (by omega) (by omega)
  · intro s r i n1 n2 n3
    rw [z_set, if_neg (fun z => n3 ⟨z.2.1, z.2.2.2⟩), z_set, if_neg (fun z => n2 ⟨z.2.1, z.2.2.2⟩), z_so n1]
  · intro i
    rw [z_so (by omega), z_so (by omega), z_set]; simp only [true_and]
  · rw [z_so (by omega), z_ss]
  · rw [z_ss]
  · intro i hi
    have r54 : ∀ (m0 : ux_M) (n : Nat), n < 9 → z_n54 m0 u n t 5 844257 0 i = m0 5 844257 0 i := fun m0 n hn => by
      unfold z_n54; rw [z_Pr, z_Pr, z_Pr, z_Pr, if_neg (by omega), if_neg (by omega), if_neg (by omega), if_neg (by omega)]
    rw [q2]; split
    · exact r54 _ _ (by omega)
    · rw [r54 _ _ (by omega), z_Pr, if_neg (by omega)]; unfold z_s9; rw [if_neg (by omega)]
  · rw [q2]; split
    · unfold z_n54; rw [z_up1 _ _ _ _ (by omega) (by omega) (by omega), z_up2 _ _ _ _ (by omega)]
    · unfold z_n54; rw [z_up1 _ _ _ _ (by omega) (by omega) (by omega), z_up2 _ _ _ _ (by omega), s9' _ _ (by omega)]
  · rw [q2]; split
    · unfold z_n54; rw [z_up1 _ _ _ _ (by omega) (by omega) (by omega), z_up1 _ _ _ _ (by omega) (by omega) (by omega), z_up2 _ _ _ _ (by omega)]; congr 1; omega
    · unfold z_n54; rw [z_up1 _ _ _ _ (by omega) (by omega) (by omega), z_up1 _ _ _ _ (by omega) (by omega) (by omega), z_up2 _ _ _ _ (by omega)]; congr 1; omega
  · intro i hi
    by_cases l9 : a < 9
    · have l9' : min a 9 < 9 := by omega
      rw [q2, if_pos l9', if_pos l9, show min a 9 = a by omega]
      unfold z_n54
      rw [z_up1 _ _ _ _ (by omega) (by omega) (by omega), z_up1 _ _ _ _ (by omega) (by omega) (by omega), z_up1 _ _ _ _ (by omega) (by omega) (by omega), z_YP _ _ _ _ (by omega) (by omega)]
      by_cases z : i = a
      · subst z; rw [if_pos ⟨rfl, rfl⟩, if_pos (by omega)]
      · rw [if_neg (by omega), if_neg (by omega)]
    · have l9' : ¬ min a 9 < 9 := by omega
      rw [q2, if_neg l9', if_neg l9]
      unfold z_n54
      rw [z_up1 _ _ _ _ (by omega) (by omega) (by omega), z_up1 _ _ _ _ (by omega) (by omega) (by omega), z_up1 _ _ _ _ (by omega) (by omega) (by omega), z_YP _ _ _ _ (by omega) (by omega)]
      by_cases z : i = 8
      · subst z; rw [if_pos ⟨rfl, rfl⟩, if_pos (by omega)]
      · rw [if_neg (by omega), if_neg (by omega), z_up1 _ _ _ _ (by omega) (by omega) (by omega)]
        unfold z_Y z_s9; rw [if_pos ⟨rfl, rfl, rfl, by omega, by omega⟩]; congr 1
end ZG
