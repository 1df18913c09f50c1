section ZY1
variable {k k' k2 c t B b u n s x : Nat} {M M' X Y m m' : ux_M} {F F' : Nat → Nat → Nat → Int32} {G G' : Nat → Nat → Int32} {D : Nat → Nat → Nat → Prop}
/-! copying, step by step: D is done -/
def z_cpd (k k2 : Nat) (M X : ux_M) (D : Nat → Nat → Nat → Prop) : Prop := (∀ a s r i, ¬ a = k → X a s r i = M a s r i) ∧ ∀ s r i, D s r i → X k s r i = M k2 s r i
theorem z_cpd.rf : z_cpd k k2 M M (fun _ _ _ => False) := ⟨fun _ _ _ _ _ => rfl, fun _ _ _ h => h.elim⟩
theorem z_cpd.st {r i : Nat} (h : z_cpd k k2 M X D) (hk : ¬ k = k2) (e : Y = ux_set X k s r i (X k2 s r i)) : z_cpd k k2 M Y (fun s' r' i' => D s' r' i' ∨ (s' = s ∧ r' = r ∧ i' = i)) := by
  subst e
  refine ⟨fun a s' r' i' q => (z_sk q).trans (h.1 a s' r' i' q), fun s' r' i' q => ?_⟩
  rw [z_set]
  by_cases y : s' = s ∧ r' = r ∧ i' = i
  · obtain ⟨rfl, rfl, rfl⟩ := y
    rw [if_pos ⟨rfl, rfl, rfl, rfl⟩]; exact h.1 k2 _ _ _ (fun z => hk z.symm)
  · rw [if_neg (fun z => y z.2)]; exact h.2 s' r' i' (q.resolve_right y)
theorem z_cpd.cp {r N : Nat} {a b' n' : Nat} (h : z_cpd k k2 M X D) (hk : ¬ k = k2) (ha : a = 0) (hb : b' = 0) (hn : n' = N) (e : Y = ux_cpy X k s r (va_cpy (X k2 s r) (X k s r) a b' n')) : z_cpd k k2 M Y (fun s' r' i' => D s' r' i' ∨ (s' = s ∧ r' = r ∧ i' < N)) := by
  subst e; subst ha; subst hb; subst hn
  refine ⟨fun a s' r' i' q => ?_, fun s' r' i' q => ?_⟩
  · show (if a = k ∧ s' = s ∧ r' = r then _ else X a s' r' i') = _
    rw [if_neg (fun z => q z.1)]; exact h.1 a s' r' i' q
  · show (if k = k ∧ s' = s ∧ r' = r then va_cpy (X k2 s r) (X k s r) 0 0 n' i' else X k s' r' i') = _
    by_cases y : s' = s ∧ r' = r
    · obtain ⟨rfl, rfl⟩ := y
      rw [if_pos ⟨rfl, rfl, rfl⟩]
      unfold va_cpy
      by_cases y2 : i' < n'
      · rw [if_pos ⟨Nat.zero_le _, by omega⟩, Nat.zero_add, Nat.sub_zero]; exact h.1 k2 _ _ _ (fun z => hk z.symm)
      · rw [if_neg (by omega)]; exact h.2 _ _ _ (q.resolve_right (fun z => y2 z.2.2))
    · rw [if_neg (fun z => y ⟨z.2.1, z.2.2⟩)]; exact h.2 s' r' i' (q.resolve_right (fun z => y ⟨z.1, z.2.1⟩))
theorem z_cpk {N : Int32} {n : Nat} (hN : N = nI n) (hn : n < 2000) : ¬ (0 : Int32) < 0 ∧ ¬ (0 : Int32) < 0 ∧ ¬ N < (0 : Int32) ∧ (0 : Int32).toNatClampNeg + N.toNatClampNeg ≤ n ∧ (0 : Int32).toNatClampNeg + N.toNatClampNeg ≤ n := by
  subst hN
  rw [z_cls (by omega), z_c0]
  exact ⟨by decide, by decide, nI_pos (by omega), by omega, by omega⟩
theorem z_c16 : (16 : Int32).toNatClampNeg = 16 := nI_clamp (n := 16) (by omega)
theorem z_c128 : (128 : Int32).toNatClampNeg = 128 := nI_clamp (n := 128) (by omega)
theorem z_c144 : (144 : Int32).toNatClampNeg = 144 := nI_clamp (n := 144) (by omega)
theorem z_c160 : (160 : Int32).toNatClampNeg = 160 := nI_clamp (n := 160) (by omega)
theorem z_c180 : (180 : Int32).toNatClampNeg = 180 := nI_clamp (n := 180) (by omega)
theorem z_29l (hk : ¬ k = k2) : ∀ (n f r : Nat) (X : ux_M) (D : Nat → Nat → Nat → Prop), r + n = 6 → n < f → z_cpd k k2 M X D →
    p_29_102 f k k2 (nI r) X ∧ ∃ (Y : ux_M) (D' : Nat → Nat → Nat → Prop), m_29_102 f k k2 (nI r) X = Y ∧ z_cpd k k2 M Y D' ∧ (∀ s r' i, D s r' i → D' s r' i) ∧ (∀ r' i, r ≤ r' → r' < 6 → i < 16 → D' 475265 r' i)
      ∧ ∀ i, i < 16 → D' 491649 0 i ∧ D' 508033 0 i ∧ D' 524417 0 i ∧ D' 540801 0 i := by
  intro n
  induction n with
  | zero =>
    intro f r X D hr hf h
    obtain ⟨f, rfl⟩ : ∃ z, f = z + 1 := ⟨f - 1, by omega⟩
    have hle : (6 : Int32) ≤ nI r := (z_le (a := 6) (by omega) (by omega)).mpr (by omega)
    rw [p_29_102, m_29_102, if_pos hle]
    refine ⟨⟨fun _ => ?_, fun z => absurd hle z⟩, ?_⟩
    · exact ⟨z_cpk (n := 16) rfl (by omega), fun _ _ => ⟨z_cpk (n := 16) rfl (by omega), fun _ _ => ⟨z_cpk (n := 16) rfl (by omega), fun _ _ => z_cpk (n := 16) rfl (by omega)⟩⟩⟩
    · obtain ⟨M2, eM2⟩ : ∃ y, y = ux_cpy X k 491649 0 (va_cpy (X k2 491649 0) (X k 491649 0) (0 : Int32).toNatClampNeg (0 : Int32).toNatClampNeg (16 : Int32).toNatClampNeg) := ⟨_, rfl⟩
      obtain ⟨M3, eM3⟩ : ∃ y, y = ux_cpy M2 k 508033 0 (va_cpy (M2 k2 508033 0) (M2 k 508033 0) (0 : Int32).toNatClampNeg (0 : Int32).toNatClampNeg (16 : Int32).toNatClampNeg) := ⟨_, rfl⟩
      obtain ⟨M4, eM4⟩ : ∃ y, y = ux_cpy M3 k 524417 0 (va_cpy (M3 k2 524417 0) (M3 k 524417 0) (0 : Int32).toNatClampNeg (0 : Int32).toNatClampNeg (16 : Int32).toNatClampNeg) := ⟨_, rfl⟩
      obtain ⟨M5, eM5⟩ : ∃ y, y = ux_cpy M4 k 540801 0 (va_cpy (M4 k2 540801 0) (M4 k 540801 0) (0 : Int32).toNatClampNeg (0 : Int32).toNatClampNeg (16 : Int32).toNatClampNeg) := ⟨_, rfl⟩
      have cM2 := h.cp (Y := M2) hk z_c0 z_c0 z_c16 eM2
      have cM3 := cM2.cp (Y := M3) hk z_c0 z_c0 z_c16 eM3
      have cM4 := cM3.cp (Y := M4) hk z_c0 z_c0 z_c16 eM4
      have cM5 := cM4.cp (Y := M5) hk z_c0 z_c0 z_c16 eM5
      refine ⟨M5, _, by simp only [← eM2, ← eM3, ← eM4, ← eM5], cM5, fun s r' i q => .inl (.inl (.inl (.inl q))), fun r' i h1 h2 => by omega, fun i hi => ⟨.inl (.inl (.inl (.inr ⟨rfl, rfl, hi⟩))), .inl (.inl (.inr ⟨rfl, rfl, hi⟩)), .inl (.inr ⟨rfl, rfl, hi⟩), .inr ⟨rfl, rfl, hi⟩⟩⟩
  | succ n ih =>
    intro f r X D hr hf h
    obtain ⟨f, rfl⟩ : ∃ z, f = z + 1 := ⟨f - 1, by omega⟩
    have r6 : r < 6 := by omega
    have hle : ¬ (6 : Int32) ≤ nI r := fun z => by have := (z_le (a := 6) (by omega) (by omega)).mp z; omega
    rw [p_29_102, m_29_102, if_neg hle]
    simp only [z_cl (show r < 16 by omega), z_nx]
    obtain ⟨M6, eM6⟩ : ∃ y, y = ux_cpy X k 475265 r (va_cpy (X k2 475265 r) (X k 475265 r) (0 : Int32).toNatClampNeg (0 : Int32).toNatClampNeg (16 : Int32).toNatClampNeg) := ⟨_, rfl⟩
    have c6 := h.cp (Y := M6) hk z_c0 z_c0 z_c16 eM6
    obtain ⟨i1, Y, D', i2, i3, i4, i5, i6⟩ := ih f (r + 1) M6 _ (by omega) (by omega) c6
    rw [← eM6]
    refine ⟨⟨fun z => absurd z hle, fun _ => ⟨vp_in_nI (by omega) (by omega), vp_in_nI (by omega) (by omega), z_cpk (n := 16) rfl (by omega), fun _ e => by rw [e]; exact i1⟩⟩, Y, D', i2, i3, fun s r' i q => i4 _ _ _ (.inl q), fun r' i h1 h2 h3 => ?_, i6⟩
    by_cases q : r' = r
    · subst q; exact i4 _ _ _ (.inr ⟨rfl, rfl, h3⟩)
    · exact i5 r' i (by omega) h2 h3
theorem z_29 (hk : ¬ k = k2) (M : ux_M) : p_29 k k2 M ∧ ∃ D : Nat → Nat → Nat → Prop, z_cpd k k2 M (m_29 k k2 M) D ∧ ∀ s r i, z_rqq s r i → 344085 ≤ s → D s r i := by
  obtain ⟨M1, eM1⟩ : ∃ y, y = ux_set M k 344085 0 0 (M k2 344085 0 0) := ⟨_, rfl⟩
  obtain ⟨M2, eM2⟩ : ∃ y, y = ux_cpy M1 k 360577 0 (va_cpy (M1 k2 360577 0) (M1 k 360577 0) (0 : Int32).toNatClampNeg (0 : Int32).toNatClampNeg (16 : Int32).toNatClampNeg) := ⟨_, rfl⟩
  obtain ⟨M3, eM3⟩ : ∃ y, y = ux_cpy M2 k 376961 0 (va_cpy (M2 k2 376961 0) (M2 k 376961 0) (0 : Int32).toNatClampNeg (0 : Int32).toNatClampNeg (16 : Int32).toNatClampNeg) := ⟨_, rfl⟩
  obtain ⟨M4, eM4⟩ : ∃ y, y = ux_cpy M3 k 394241 0 (va_cpy (M3 k2 394241 0) (M3 k 394241 0) (0 : Int32).toNatClampNeg (0 : Int32).toNatClampNeg (128 : Int32).toNatClampNeg) := ⟨_, rfl⟩
  obtain ⟨M5, eM5⟩ : ∃ y, y = ux_cpy M4 k 410881 0 (va_cpy (M4 k2 410881 0) (M4 k 410881 0) (0 : Int32).toNatClampNeg (0 : Int32).toNatClampNeg (160 : Int32).toNatClampNeg) := ⟨_, rfl⟩
  obtain ⟨M6, eM6⟩ : ∃ y, y = ux_cpy M5 k 426113 0 (va_cpy (M5 k2 426113 0) (M5 k 426113 0) (0 : Int32).toNatClampNeg (0 : Int32).toNatClampNeg (16 : Int32).toNatClampNeg) := ⟨_, rfl⟩
  obtain ⟨M7, eM7⟩ : ∃ y, y = ux_cpy M6 k 442497 0 (va_cpy (M6 k2 442497 0) (M6 k 442497 0) (0 : Int32).toNatClampNeg (0 : Int32).toNatClampNeg (16 : Int32).toNatClampNeg) := ⟨_, rfl⟩
  have cM1 := (z_cpd.rf (k := k) (k2 := k2) (M := M)).st (Y := M1) hk eM1
  have cM2 := cM1.cp (Y := M2) hk z_c0 z_c0 z_c16 eM2
  have cM3 := cM2.cp (Y := M3) hk z_c0 z_c0 z_c16 eM3
  have cM4 := cM3.cp (Y := M4) hk z_c0 z_c0 z_c128 eM4
  have cM5 := cM4.cp (Y := M5) hk z_c0 z_c0 z_c160 eM5
  have cM6 := cM5.cp (Y := M6) hk z_c0 z_c0 z_c16 eM6
  have cM7 := cM6.cp (Y := M7) hk z_c0 z_c0 z_c16 eM7
  obtain ⟨l1, Y, D, l2, l3, l4, l5, l6⟩ := z_29l hk 6 ux_fuel 0 M7 _ (by omega) (by have := z_fuel; omega) cM7
  have em : m_29 k k2 M = Y := by subst eM1; subst eM2; subst eM3; subst eM4; subst eM5; subst eM6; subst eM7; exact l2
  refine ⟨by subst eM1; subst eM2; subst eM3; subst eM4; subst eM5; subst eM6; subst eM7; exact fun _ e => by subst e; exact ⟨z_cpk (n := 16) rfl (by omega), fun _ e => by subst e; exact ⟨z_cpk (n := 16) rfl (by omega), fun _ e => by subst e; exact ⟨z_cpk (n := 128) rfl (by omega), fun _ e => by subst e; exact ⟨z_cpk (n := 160) rfl (by omega), fun _ e => by subst e; exact ⟨z_cpk (n := 16) rfl (by omega), fun _ e => by subst e; exact ⟨z_cpk (n := 16) rfl (by omega), fun _ e => by subst e; exact l1⟩⟩⟩⟩⟩⟩, D, em ▸ l3, fun s r i q hs => ?_⟩
  have done : ∀ s r i, (s ∈ z_l16 ∧ r = 0 ∧ i < 16) → 344085 ≤ s → D s r i := fun s r i q hs => by
    obtain ⟨hm, rfl, hi⟩ := q
    have hm2 : s = 65665 ∨ s = 82049 ∨ s = 98433 ∨ s = 114817 ∨ s = 131201 ∨ s = 147585 ∨ s = 180353 ∨ s = 196737 ∨ s = 213121 ∨ s = 229505 ∨ s = 245889 ∨ s = 327809 ∨ s = 360577 ∨ s = 376961 ∨ s = 426113 ∨ s = 442497 ∨ s = 491649 ∨ s = 508033 ∨ s = 524417 ∨ s = 540801 := by simpa [z_l16] using hm
    have hm3 : s = 360577 ∨ s = 376961 ∨ s = 426113 ∨ s = 442497 ∨ s = 491649 ∨ s = 508033 ∨ s = 524417 ∨ s = 540801 := by omega
    rcases hm3 with e | e | e | e | e | e | e | e <;> subst e
    · exact l4 _ _ _ (.inl (.inl (.inl (.inl (.inl (.inr ⟨rfl, rfl, hi⟩))))))
    · exact l4 _ _ _ (.inl (.inl (.inl (.inl (.inr ⟨rfl, rfl, hi⟩)))))
    · exact l4 _ _ _ (.inl (.inr ⟨rfl, rfl, hi⟩))
    · exact l4 _ _ _ (.inr ⟨rfl, rfl, hi⟩)
    · exact (l6 i hi).1
    · exact (l6 i hi).2.1
    · exact (l6 i hi).2.2.1
    · exact (l6 i hi).2.2.2
  rcases q with q | q | q
  · exact done s r i q hs
  · obtain ⟨rfl, h6, hi⟩ := q; exact l5 r i (Nat.zero_le _) h6 hi
  · obtain ⟨rfl, q⟩ := q
    have q' : (s = 344085 ∧ i = 0) ∨ (s = 394241 ∧ i < 128) ∨ (s = 410881 ∧ i < 160) := by omega
    rcases q' with ⟨rfl, q2⟩ | ⟨rfl, q2⟩ | ⟨rfl, q2⟩
    · exact l4 _ _ _ (.inl (.inl (.inl (.inl (.inl (.inl (.inr ⟨rfl, rfl, q2⟩)))))))
    · exact l4 _ _ _ (.inl (.inl (.inl (.inr ⟨rfl, rfl, q2⟩))))
    · exact l4 _ _ _ (.inl (.inl (.inr ⟨rfl, rfl, q2⟩)))
theorem z_45 (hk : ¬ k = k2) (M : ux_M) : p_45 k k2 M ∧ (∀ a s r i, ¬ a = k → m_45 k k2 M a s r i = M a s r i) ∧ ∀ s r i, z_rqq s r i → m_45 k k2 M k s r i = M k2 s r i := by
  obtain ⟨p29, D, c29, d29⟩ := z_29 hk M
  obtain ⟨M3, eM3⟩ : ∃ y, y = ux_set (m_29 k k2 M) k 49197 0 0 ((m_29 k k2 M) k2 49197 0 0) := ⟨_, rfl⟩
  obtain ⟨M4, eM4⟩ : ∃ y, y = ux_set M3 k 49197 0 1 (M3 k2 49197 0 1) := ⟨_, rfl⟩
  obtain ⟨M5, eM5⟩ : ∃ y, y = ux_set M4 k 49197 0 2 (M4 k2 49197 0 2) := ⟨_, rfl⟩
  obtain ⟨M6, eM6⟩ : ∃ y, y = ux_set M5 k 49197 0 3 (M5 k2 49197 0 3) := ⟨_, rfl⟩
  obtain ⟨M7, eM7⟩ : ∃ y, y = ux_cpy M6 k 327809 0 (va_cpy (M6 k2 327809 0) (M6 k 327809 0) (0 : Int32).toNatClampNeg (0 : Int32).toNatClampNeg (16 : Int32).toNatClampNeg) := ⟨_, rfl⟩
  obtain ⟨M13, eM13⟩ : ∃ y, y = ux_set M7 k 16413 0 3 (M7 k2 16413 0 3) := ⟨_, rfl⟩
  obtain ⟨M14, eM14⟩ : ∃ y, y = ux_set M13 k 16413 0 4 (M13 k2 16413 0 4) := ⟨_, rfl⟩
  obtain ⟨M15, eM15⟩ : ∃ y, y = ux_cpy M14 k 65665 0 (va_cpy (M14 k2 65665 0) (M14 k 65665 0) (0 : Int32).toNatClampNeg (0 : Int32).toNatClampNeg (16 : Int32).toNatClampNeg) := ⟨_, rfl⟩
  obtain ⟨M16, eM16⟩ : ∃ y, y = ux_cpy M15 k 82049 0 (va_cpy (M15 k2 82049 0) (M15 k 82049 0) (0 : Int32).toNatClampNeg (0 : Int32).toNatClampNeg (16 : Int32).toNatClampNeg) := ⟨_, rfl⟩
  obtain ⟨M17, eM17⟩ : ∃ y, y = ux_cpy M16 k 98433 0 (va_cpy (M16 k2 98433 0) (M16 k 98433 0) (0 : Int32).toNatClampNeg (0 : Int32).toNatClampNeg (16 : Int32).toNatClampNeg) := ⟨_, rfl⟩
  obtain ⟨M18, eM18⟩ : ∃ y, y = ux_cpy M17 k 114817 0 (va_cpy (M17 k2 114817 0) (M17 k 114817 0) (0 : Int32).toNatClampNeg (0 : Int32).toNatClampNeg (16 : Int32).toNatClampNeg) := ⟨_, rfl⟩
  obtain ⟨M19, eM19⟩ : ∃ y, y = ux_cpy M18 k 131201 0 (va_cpy (M18 k2 131201 0) (M18 k 131201 0) (0 : Int32).toNatClampNeg (0 : Int32).toNatClampNeg (16 : Int32).toNatClampNeg) := ⟨_, rfl⟩
  obtain ⟨M20, eM20⟩ : ∃ y, y = ux_cpy M19 k 147585 0 (va_cpy (M19 k2 147585 0) (M19 k 147585 0) (0 : Int32).toNatClampNeg (0 : Int32).toNatClampNeg (16 : Int32).toNatClampNeg) := ⟨_, rfl⟩
  obtain ⟨M21, eM21⟩ : ∃ y, y = ux_cpy M20 k 164993 0 (va_cpy (M20 k2 164993 0) (M20 k 164993 0) (0 : Int32).toNatClampNeg (0 : Int32).toNatClampNeg (144 : Int32).toNatClampNeg) := ⟨_, rfl⟩
  obtain ⟨M22, eM22⟩ : ∃ y, y = ux_cpy M21 k 180353 0 (va_cpy (M21 k2 180353 0) (M21 k 180353 0) (0 : Int32).toNatClampNeg (0 : Int32).toNatClampNeg (16 : Int32).toNatClampNeg) := ⟨_, rfl⟩
  obtain ⟨M23, eM23⟩ : ∃ y, y = ux_cpy M22 k 196737 0 (va_cpy (M22 k2 196737 0) (M22 k 196737 0) (0 : Int32).toNatClampNeg (0 : Int32).toNatClampNeg (16 : Int32).toNatClampNeg) := ⟨_, rfl⟩
  obtain ⟨M24, eM24⟩ : ∃ y, y = ux_cpy M23 k 213121 0 (va_cpy (M23 k2 213121 0) (M23 k 213121 0) (0 : Int32).toNatClampNeg (0 : Int32).toNatClampNeg (16 : Int32).toNatClampNeg) := ⟨_, rfl⟩
  obtain ⟨M25, eM25⟩ : ∃ y, y = ux_cpy M24 k 229505 0 (va_cpy (M24 k2 229505 0) (M24 k 229505 0) (0 : Int32).toNatClampNeg (0 : Int32).toNatClampNeg (16 : Int32).toNatClampNeg) := ⟨_, rfl⟩
  obtain ⟨M26, eM26⟩ : ∃ y, y = ux_cpy M25 k 245889 0 (va_cpy (M25 k2 245889 0) (M25 k 245889 0) (0 : Int32).toNatClampNeg (0 : Int32).toNatClampNeg (16 : Int32).toNatClampNeg) := ⟨_, rfl⟩
  obtain ⟨M27, eM27⟩ : ∃ y, y = ux_cpy M26 k 263585 0 (va_cpy (M26 k2 263585 0) (M26 k 263585 0) (0 : Int32).toNatClampNeg (0 : Int32).toNatClampNeg (180 : Int32).toNatClampNeg) := ⟨_, rfl⟩
  obtain ⟨M28, eM28⟩ : ∃ y, y = ux_set M27 k 16413 0 18 (M27 k2 16413 0 18) := ⟨_, rfl⟩
  have cM3 := c29.st (Y := M3) hk eM3
  have cM4 := cM3.st (Y := M4) hk eM4
  have cM5 := cM4.st (Y := M5) hk eM5
  have cM6 := cM5.st (Y := M6) hk eM6
  have cM7 := cM6.cp (Y := M7) hk z_c0 z_c0 z_c16 eM7
  have cM13 := cM7.st (Y := M13) hk eM13
  have cM14 := cM13.st (Y := M14) hk eM14
  have cM15 := cM14.cp (Y := M15) hk z_c0 z_c0 z_c16 eM15
  have cM16 := cM15.cp (Y := M16) hk z_c0 z_c0 z_c16 eM16
  have cM17 := cM16.cp (Y := M17) hk z_c0 z_c0 z_c16 eM17
  have cM18 := cM17.cp (Y := M18) hk z_c0 z_c0 z_c16 eM18
  have cM19 := cM18.cp (Y := M19) hk z_c0 z_c0 z_c16 eM19
  have cM20 := cM19.cp (Y := M20) hk z_c0 z_c0 z_c16 eM20
  have cM21 := cM20.cp (Y := M21) hk z_c0 z_c0 z_c144 eM21
  have cM22 := cM21.cp (Y := M22) hk z_c0 z_c0 z_c16 eM22
  have cM23 := cM22.cp (Y := M23) hk z_c0 z_c0 z_c16 eM23
  have cM24 := cM23.cp (Y := M24) hk z_c0 z_c0 z_c16 eM24
  have cM25 := cM24.cp (Y := M25) hk z_c0 z_c0 z_c16 eM25
  have cM26 := cM25.cp (Y := M26) hk z_c0 z_c0 z_c16 eM26
  have cM27 := cM26.cp (Y := M27) hk z_c0 z_c0 z_c180 eM27
  have cM28 := cM27.st (Y := M28) hk eM28
  have em : m_45 k k2 M = M28 := by subst eM3; subst eM4; subst eM5; subst eM6; subst eM7; subst eM13; subst eM14; subst eM15; subst eM16; subst eM17; subst eM18; subst eM19; subst eM20; subst eM21; subst eM22; subst eM23; subst eM24; subst eM25; subst eM26; subst eM27; subst eM28; rfl
  refine ⟨⟨p29, ?_⟩, ?_⟩
  · exact fun _ _ => fun _ _ => fun _ _ => fun _ _ => ⟨z_cpk (n := 16) rfl (by omega), fun _ _ => fun _ _ => fun _ _ => ⟨z_cpk (n := 16) rfl (by omega), fun _ _ => ⟨z_cpk (n := 16) rfl (by omega), fun _ _ => ⟨z_cpk (n := 16) rfl (by omega), fun _ _ => ⟨z_cpk (n := 16) rfl (by omega), fun _ _ => ⟨z_cpk (n := 16) rfl (by omega), fun _ _ => ⟨z_cpk (n := 16) rfl (by omega), fun _ _ => ⟨z_cpk (n := 144) rfl (by omega), fun _ _ => ⟨z_cpk (n := 16) rfl (by omega), fun _ _ => ⟨z_cpk (n := 16) rfl (by omega), fun _ _ => ⟨z_cpk (n := 16) rfl (by omega), fun _ _ => ⟨z_cpk (n := 16) rfl (by omega), fun _ _ => ⟨z_cpk (n := 16) rfl (by omega), fun _ _ => z_cpk (n := 180) rfl (by omega)⟩⟩⟩⟩⟩⟩⟩⟩⟩⟩⟩⟩⟩
  · rw [em]; refine ⟨cM28.1, fun s r i q => cM28.2 s r i ?_⟩
    by_cases h4 : 344085 ≤ s
    · have := d29 s r i q h4
      exact .inl (.inl (.inl (.inl (.inl (.inl (.inl (.inl (.inl (.inl (.inl (.inl (.inl (.inl (.inl (.inl (.inl (.inl (.inl (.inl (.inl this))))))))))))))))))))
    · rcases q with ⟨hm, rfl, hi⟩ | q | ⟨rfl, q⟩
      · have hm2 : s = 65665 ∨ s = 82049 ∨ s = 98433 ∨ s = 114817 ∨ s = 131201 ∨ s = 147585 ∨ s = 180353 ∨ s = 196737 ∨ s = 213121 ∨ s = 229505 ∨ s = 245889 ∨ s = 327809 ∨ s = 360577 ∨ s = 376961 ∨ s = 426113 ∨ s = 442497 ∨ s = 491649 ∨ s = 508033 ∨ s = 524417 ∨ s = 540801 := by simpa [z_l16] using hm
        have hm3 : s = 65665 ∨ s = 82049 ∨ s = 98433 ∨ s = 114817 ∨ s = 131201 ∨ s = 147585 ∨ s = 180353 ∨ s = 196737 ∨ s = 213121 ∨ s = 229505 ∨ s = 245889 ∨ s = 327809 := by omega
        rcases hm3 with e | e | e | e | e | e | e | e | e | e | e | e <;> subst e
        · exact .inl (.inl (.inl (.inl (.inl (.inl (.inl (.inl (.inl (.inl (.inl (.inl (.inl (.inr ⟨rfl, rfl, hi⟩)))))))))))))
        · exact .inl (.inl (.inl (.inl (.inl (.inl (.inl (.inl (.inl (.inl (.inl (.inl (.inr ⟨rfl, rfl, hi⟩))))))))))))
        · exact .inl (.inl (.inl (.inl (.inl (.inl (.inl (.inl (.inl (.inl (.inl (.inr ⟨rfl, rfl, hi⟩)))))))))))
        · exact .inl (.inl (.inl (.inl (.inl (.inl (.inl (.inl (.inl (.inl (.inr ⟨rfl, rfl, hi⟩))))))))))
        · exact .inl (.inl (.inl (.inl (.inl (.inl (.inl (.inl (.inl (.inr ⟨rfl, rfl, hi⟩)))))))))
        · exact .inl (.inl (.inl (.inl (.inl (.inl (.inl (.inl (.inr ⟨rfl, rfl, hi⟩))))))))
        · exact .inl (.inl (.inl (.inl (.inl (.inl (.inr ⟨rfl, rfl, hi⟩))))))
        · exact .inl (.inl (.inl (.inl (.inl (.inr ⟨rfl, rfl, hi⟩)))))
        · exact .inl (.inl (.inl (.inl (.inr ⟨rfl, rfl, hi⟩))))
        · exact .inl (.inl (.inl (.inr ⟨rfl, rfl, hi⟩)))
        · exact .inl (.inl (.inr ⟨rfl, rfl, hi⟩))
        · exact .inl (.inl (.inl (.inl (.inl (.inl (.inl (.inl (.inl (.inl (.inl (.inl (.inl (.inl (.inl (.inl (.inr ⟨rfl, rfl, hi⟩))))))))))))))))
      · omega
      · have q' : (s = 16413 ∧ i = 3) ∨ (s = 16413 ∧ i = 4) ∨ (s = 16413 ∧ i = 18) ∨ (s = 49197 ∧ i = 0) ∨ (s = 49197 ∧ i = 1) ∨ (s = 49197 ∧ i = 2) ∨ (s = 49197 ∧ i = 3) ∨ (s = 164993 ∧ i < 144) ∨ (s = 263585 ∧ i < 180) := by omega
        rcases q' with ⟨rfl, q2⟩ | ⟨rfl, q2⟩ | ⟨rfl, q2⟩ | ⟨rfl, q2⟩ | ⟨rfl, q2⟩ | ⟨rfl, q2⟩ | ⟨rfl, q2⟩ | ⟨rfl, q2⟩ | ⟨rfl, q2⟩
        · exact .inl (.inl (.inl (.inl (.inl (.inl (.inl (.inl (.inl (.inl (.inl (.inl (.inl (.inl (.inl (.inr ⟨rfl, rfl, q2⟩)))))))))))))))
        · exact .inl (.inl (.inl (.inl (.inl (.inl (.inl (.inl (.inl (.inl (.inl (.inl (.inl (.inl (.inr ⟨rfl, rfl, q2⟩))))))))))))))
        · exact .inr ⟨rfl, rfl, q2⟩
        · exact .inl (.inl (.inl (.inl (.inl (.inl (.inl (.inl (.inl (.inl (.inl (.inl (.inl (.inl (.inl (.inl (.inl (.inl (.inl (.inl (.inr ⟨rfl, rfl, q2⟩))))))))))))))))))))
        · exact .inl (.inl (.inl (.inl (.inl (.inl (.inl (.inl (.inl (.inl (.inl (.inl (.inl (.inl (.inl (.inl (.inl (.inl (.inl (.inr ⟨rfl, rfl, q2⟩)))))))))))))))))))
        · exact .inl (.inl (.inl (.inl (.inl (.inl (.inl (.inl (.inl (.inl (.inl (.inl (.inl (.inl (.inl (.inl (.inl (.inl (.inr ⟨rfl, rfl, q2⟩))))))))))))))))))
        · exact .inl (.inl (.inl (.inl (.inl (.inl (.inl (.inl (.inl (.inl (.inl (.inl (.inl (.inl (.inl (.inl (.inl (.inr ⟨rfl, rfl, q2⟩)))))))))))))))))
        · exact .inl (.inl (.inl (.inl (.inl (.inl (.inl (.inr ⟨rfl, rfl, q2⟩)))))))
        · exact .inl (.inr ⟨rfl, rfl, q2⟩)
end ZY1
