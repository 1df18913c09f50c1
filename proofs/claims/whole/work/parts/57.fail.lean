/-! a job that fails, and what fails with it -/
def z_en (m : ux_M) (u : Nat) (how : Int32) : ux_M := z_P (z_P (z_P m 29 u 0) 30 u 0) 41 u how
/-- how many jobs there are among the first units -/
def z_ct (m : ux_M) : Nat → Nat
  | 0 => 0
  | n + 1 => z_ct m n + (if z_Y m 29 n = 0 then 0 else 1)
/-- jobs only end, waiting ones fall back to failed -/
def z_Z (m m' : ux_M) : Prop := ∀ w, ((z_Y m' 29 w = z_Y m 29 w ∧ z_Y m' 30 w = z_Y m 30 w) ∨ z_Y m' 29 w = 0) ∧ (z_Y m' 28 w = z_Y m 28 w ∨ (z_Y m 28 w = 5 ∧ z_Y m' 28 w = 4)) ∧ ∀ a, a < 28 → z_Y m' a w = z_Y m a w
section ZF
variable {k c t B u v a b s x n dd : Nat} {M m M' m' m'' : ux_M}
theorem z_Z.rf : z_Z m m := fun _ => ⟨Or.inl ⟨rfl, rfl⟩, Or.inl rfl, fun _ _ => rfl⟩
theorem z_Z.tr (h : z_Z m m') (h' : z_Z m' m'') : z_Z m m'' := fun w => by
  obtain ⟨a1, a2, a3⟩ := h w
  obtain ⟨b1, b2, b3⟩ := h' w
  refine ⟨?_, ?_, fun a ha => (b3 a ha).trans (a3 a ha)⟩
  · rcases b1 with q | q
    · rcases a1 with z | z
      · exact Or.inl ⟨q.1.trans z.1, q.2.trans z.2⟩
      · exact Or.inr (q.1.trans z)
    · exact Or.inr q
  · rcases b2 with q | q
    · rcases a2 with z | z
      · exact Or.inl (q.trans z)
      · exact Or.inr ⟨z.1, q.trans z.2⟩
    · rcases a2 with z | z
      · exact Or.inr ⟨z.symm.trans q.1, q.2⟩
      · rw [z.2] at q; exact absurd q.1 (by decide)
theorem z_ct.le (m : ux_M) : ∀ n, z_ct m n ≤ n
  | 0 => Nat.le_refl _
  | n + 1 => by have := z_ct.le m n; unfold z_ct; split <;> omega
theorem z_ct.mono (h : z_Z m m') : ∀ n, z_ct m' n ≤ z_ct m n
  | 0 => Nat.le_refl _
  | n + 1 => by
    have := z_ct.mono h n
    unfold z_ct
    rcases (h n).1 with q | q
    · rw [q.1]; omega
    · rw [q]; simp only [if_true]; omega
theorem z_ct.lt (h : z_Z m m') (hv : ¬ z_Y m 29 v = 0) (hv' : z_Y m' 29 v = 0) : ∀ n, v < n → z_ct m' n < z_ct m n
  | 0, z => absurd z (by omega)
  | n + 1, z => by
    have q := z_ct.mono h n
    unfold z_ct
    by_cases e : v = n
    · subst e; rw [if_pos hv', if_neg hv]; omega
    · have := z_ct.lt h hv hv' n (by omega)
      rcases (h n).1 with q | q
      · rw [q.1]; omega
      · rw [q]; simp only [if_true]; omega
theorem z_Z.en (m : ux_M) (u : Nat) (how : Int32) : z_Z m (z_en m u how) := fun w => by
  unfold z_en
  refine ⟨?_, Or.inl ?_, fun a ha => ?_⟩
  · by_cases q : w = u
    · subst q; right
      rw [z_up1 _ _ _ _ (by omega) (by omega) (by omega), z_up1 _ _ _ _ (by omega) (by omega) (by omega), z_up2 _ _ _ _ (by omega)]
    · left
      constructor
      · rw [z_YP _ _ _ _ (by omega) (by omega), z_YP _ _ _ _ (by omega) (by omega), z_YP _ _ _ _ (by omega) (by omega), if_neg (fun z => q z.2), if_neg (fun z => q z.2), if_neg (fun z => q z.2)]
      · rw [z_YP _ _ _ _ (by omega) (by omega), z_YP _ _ _ _ (by omega) (by omega), z_YP _ _ _ _ (by omega) (by omega), if_neg (fun z => q z.2), if_neg (fun z => q z.2), if_neg (fun z => q z.2)]
  · rw [z_up1 _ _ _ _ (by omega) (by omega) (by omega), z_up1 _ _ _ _ (by omega) (by omega) (by omega), z_up1 _ _ _ _ (by omega) (by omega) (by omega)]
  · rw [z_up1 _ _ _ _ (by omega) (by omega) (by omega), z_up1 _ _ _ _ (by omega) (by omega) (by omega), z_up1 _ _ _ _ (by omega) (by omega) (by omega)]
theorem z_enJ (m : ux_M) (u : Nat) (how : Int32) : z_Y (z_en m u how) 29 u = 0 := by
  unfold z_en; rw [z_up1 _ _ _ _ (by omega) (by omega) (by omega), z_up1 _ _ _ _ (by omega) (by omega) (by omega), z_up2 _ _ _ _ (by omega)]
/-- entering 0 or 4 while another unit's due is not looked at -/
theorem z_R.e1 (h : z_R x b k c t B M m) (hu : u < c) (s : Int32) (hs : s = 0 ∨ s = 4) (hd : ¬ u = x ∨ ¬ z_Y m 28 u = s) :
    p_58 k (nI u) s M ∧ p_190 (nI u) s m ∧ z_R x b k c t B (m_58 k (nI u) s M) (m_190 (nI u) s m) ∧ ∀ w, z_A (m_190 (nI u) s m) w = if w = u then z_bf (z_A m u) t s else z_A m w := by
  obtain ⟨h1, h2, h3, h4⟩ := h.1.et hu s (h.2.qd hu)
  have hA := z_Abe h4
  refine ⟨h1, h2, ⟨h3, h.2.one _ hA x (Or.inr (Or.inl rfl)) (fun hu => z_Bbf (h.2 u hu).1 (by rcases hs with q | q <;> simp [q])) (fun _ q => ?_)⟩, hA⟩
  by_cases e : z_Y m 28 u = s
  · have e2 : z_bf (z_A m u) t s = z_A m u := by funext a; unfold z_bf; rw [z_AY _ _ (show 28 < 56 by omega), if_pos e]
    rw [e2]
    exact (h.2 u hu).2 q
  · have n : ¬ z_A m u 28 = s := by rw [z_AY _ _ (show 28 < 56 by omega)]; exact e
    unfold z_Du
    rw [z_bfl]
    have e35 : z_bf (z_A m u) t s 35 = -1 := by unfold z_bf; rw [if_neg n]; rfl
    rw [e35]
    refine ⟨fun _ => rfl, fun z => ?_, fun z => ?_, fun z => ?_, fun z => ?_⟩
    all_goals rcases hs with q | q <;> rw [q] at z <;> exact absurd z (by decide)
/-- failsAgain -/
theorem z_R.fa (h : z_R x b k c t B M m) (hu : u < c) : (z_Y m 28 u = 5 → p_58 k (nI u) 4 M) ∧ p_189 (nI u) m ∧ z_R x b k c t B (if z_Y m 28 u = 5 then m_58 k (nI u) 4 M else M) (m_189 (nI u) m) ∧ z_Z m (m_189 (nI u) m) ∧ ∀ w, z_Y (m_189 (nI u) m) 29 w = z_Y m 29 w := by
  have h16 := h.1.u16 hu
  unfold p_189 m_189
  simp only [of28 _ h16]
  by_cases q : z_Y m 28 u = 5
  · obtain ⟨a1, a2, a3, hA⟩ := h.e1 hu 4 (Or.inr rfl) (Or.inr (by rw [q]; decide))
    simp only [q, if_true, not_true_eq_false, false_implies, true_implies]
    refine ⟨a1, ⟨uu28 h16, trivial, a2⟩, a3, fun w => ⟨Or.inl ⟨?_, ?_⟩, ?_, fun a ha => ?_⟩, fun w => ?_⟩
    · exact z_entY hA (by omega) (by omega) (by omega) (by omega) (by omega) (by omega) w
    · exact z_entY hA (by omega) (by omega) (by omega) (by omega) (by omega) (by omega) w
    · by_cases e : w = u
      · subst e; exact Or.inr ⟨q, z_entS hA⟩
      · left; rw [← z_AY _ w (show 28 < 56 by omega), hA, if_neg e, z_AY _ w (show 28 < 56 by omega)]
    · exact z_entY hA (by omega) (by omega) (by omega) (by omega) (by omega) (by omega) w
    · exact z_entY hA (by omega) (by omega) (by omega) (by omega) (by omega) (by omega) w
  · simp only [q, if_false, not_false_eq_true, false_implies, true_implies]
    exact ⟨trivial, ⟨uu28 h16, trivial, trivial⟩, h, z_Z.rf, fun _ => trivial⟩
/-- the loop over those that wait for u -/
theorem z_fjl (pr : Nat → Int32 → Int32 → Int32 → ux_M → Prop) (mr : Nat → Int32 → Int32 → Int32 → ux_M → ux_M) (pr' : Int32 → ux_M → Prop) (mr' : Int32 → ux_M → ux_M) (hu16 : u < 16)
    (hrec : ∀ (v : Nat) (M m : ux_M), z_R x b k c t B M m → v < c → ¬ z_Y m 29 v = 0 → z_ct m c ≤ n → pr k (nI v) 2 (nI (dd + 1)) M ∧ p_189 (nI v) (z_en m v 2) ∧ pr' (nI v) (m_189 (nI v) (z_en m v 2)) ∧ z_R x b k c t B (mr k (nI v) 2 (nI (dd + 1)) M) (mr' (nI v) (m_189 (nI v) (z_en m v 2))) ∧ z_Z m (mr' (nI v) (m_189 (nI v) (z_en m v 2)))) :
    ∀ (j f f' i : Nat) (M m : ux_M), i + j = c → j < f → j < f' → z_R x b k c t B M m → z_ct m c ≤ n → p_56_40 pr mr f k (nI u) (nI dd) (nI i) M ∧ p_186_2 pr' mr' f' (nI u) (nI i) m ∧ z_R x b k c t B (m_56_40 mr f k (nI u) (nI dd) (nI i) M) (m_186_2 mr' f' (nI u) (nI i) m) ∧ z_Z m (m_186_2 mr' f' (nI u) (nI i) m) := by
  intro j
  induction j with
  | zero =>
    intro f f' i M m hi hf hf' h hct
    obtain ⟨f, rfl⟩ : ∃ g, f = g + 1 := ⟨f - 1, by omega⟩
    obtain ⟨f', rfl⟩ : ∃ g, f' = g + 1 := ⟨f' - 1, by omega⟩
    have hle := z_yle (show c ≤ i by omega) (by have := h.1.le; omega)
    rw [p_56_40, p_186_2, m_56_40, m_186_2, h.1.cnt, z_c1, h.1.cn, if_pos hle, if_pos hle]
    exact ⟨⟨fun _ => trivial, fun z => absurd hle z⟩, ⟨z_v1, fun _ => trivial, fun z => absurd hle z⟩, h, z_Z.rf⟩
  | succ j ih =>
    intro f f' i M m hi hf hf' h hct
    obtain ⟨f, rfl⟩ : ∃ g, f = g + 1 := ⟨f - 1, by omega⟩
    obtain ⟨f', rfl⟩ : ∃ g, f' = g + 1 := ⟨f' - 1, by omega⟩
    have hic : i < c := by omega
    have hi16 := h.1.u16 hic
    have hi32 : i < 32 := by omega
    have hu32 : u < 32 := by omega
    have hle := z_nle hic h.1.le
    have r := ih f f' (i + 1) M m (by omega) (by omega) (by omega) h hct
    have eW : bt ((M k 49197 0 0) &&& ((M k 49197 0 3) ^^^ ((-1) : Int32))) i = ((decide (z_Y m 29 i = 1) || decide (z_Y m 29 i = 3)) && !decide (z_Y m 30 i = 1)) := by
      rw [b_and, z_not _ hi32, h.1.js hi32, h.1.jn hi32]; simp [hic]
    have eN : bt (M k 491649 0 i) u = (bt (z_Y m 22 i) u || bt (z_Y m 24 i) u) := h.1.bN hic u
    rw [p_56_40, p_186_2, m_56_40, m_186_2]
    simp only [h.1.cnt, h.1.cn, z_c1, hle, if_false, not_false_eq_true, true_implies, false_implies, true_and, z_andb _ hi32, eW, of29 _ hi16, of30 _ hi16, of22 _ hi16, of24 _ hi16, z_cl hi16, z_shr _ hu32, z_shr1 _ hu32, eN, b_or, z_nx, pu29 _ _ hi16, pu30 _ _ hi16, pu41 _ _ hi16, forall_eq, z_10, not_true_eq_false, if_true]
    by_cases q1 : z_Y m 29 i = 1 ∨ z_Y m 29 i = 3
    · have e1 : (decide (z_Y m 29 i = 1) || decide (z_Y m 29 i = 3)) = true := by rcases q1 with q | q <;> simp [q]
      have hj : ¬ z_Y m 29 i = 0 := by rcases q1 with q | q <;> rw [q] <;> decide
      by_cases q2 : z_Y m 30 i = 1
      · simp only [e1, q2, decide_true, Bool.not_true, Bool.and_false, if_true, q1, not_true_eq_false, false_implies, true_implies, and_true, true_and]
        exact ⟨r.1, ⟨z_v1, uu29 hi16, uu30 hi16, r.2.1⟩, r.2.2⟩
      · by_cases q3 : (bt (z_Y m 22 i) u || bt (z_Y m 24 i) u) = true
        · obtain ⟨a1, a2, a3, a4, a5⟩ := hrec i M m h hic hj hct
          have r2 := ih f f' (i + 1) _ _ (by omega) (by omega) (by omega) a4 (Nat.le_trans (z_ct.mono a5 c) hct)
          simp only [e1, q2, q3, decide_false, Bool.not_false, Bool.and_true, if_true, if_false, q1, not_true_eq_false, not_false_eq_true, false_implies, true_implies, and_true, true_and, Bool.true_eq_false]
          exact ⟨⟨z_i16 hi16, a1, r2.1⟩, ⟨z_v1, uu29 hi16, uu30 hi16, uu22 hi16, uu24 hi16, uu29 hi16, uu30 hi16, uu41 hi16, a2, a3, r2.2.1⟩, r2.2.2.1, a5.tr r2.2.2.2⟩
        · have q3' : (bt (z_Y m 22 i) u || bt (z_Y m 24 i) u) = false := by simpa using q3
          simp only [e1, q2, q3', decide_false, Bool.not_false, Bool.and_true, if_true, if_false, q1, not_true_eq_false, not_false_eq_true, false_implies, true_implies, and_true, true_and, Bool.true_eq_false, Bool.false_eq_true]
          exact ⟨⟨z_i16 hi16, r.1⟩, ⟨z_v1, uu29 hi16, uu30 hi16, uu22 hi16, uu24 hi16, r.2.1⟩, r.2.2⟩
    · have e1 : (decide (z_Y m 29 i = 1) || decide (z_Y m 29 i = 3)) = false := by
        rw [decide_eq_false (fun z => q1 (Or.inl z)), decide_eq_false (fun z => q1 (Or.inr z))]; rfl
      simp only [e1, Bool.false_and, if_true, if_false, q1, not_true_eq_false, not_false_eq_true, false_implies, true_implies, and_true, true_and]
      exact ⟨r.1, ⟨z_v1, uu29 hi16, r.2.1⟩, r.2.2⟩
/-- what the reference does at the end of a job before the others follow -/
noncomputable def z_mh (m : ux_M) (u : Nat) (how : Int32) : ux_M := if how = 2 then m_189 (nI u) (z_en m u how) else z_en m u how
theorem z_fj : ∀ (n g g' u dd : Nat) (how : Int32) (M m : ux_M), n < g → n < g' → dd + n < 16 → z_R x b k c t B M m → u < c → z_ct (z_en m u how) c ≤ n →
    pF_56 mF_56 g k (nI u) how (nI dd) M ∧ (how = 2 → p_189 (nI u) (z_en m u how)) ∧ pF_186 mF_186 g' (nI u) (z_mh m u how) ∧ z_R x b k c t B (mF_56 g k (nI u) how (nI dd) M) (mF_186 g' (nI u) (z_mh m u how)) ∧ z_Z (z_en m u how) (mF_186 g' (nI u) (z_mh m u how)) := by
  intro n
  induction n using Nat.strongRecOn with
  | ind n IH =>
    intro g g' u dd how M m hg hg' hdn h hu hct
    obtain ⟨g, rfl⟩ : ∃ z, g = z + 1 := ⟨g - 1, by omega⟩
    obtain ⟨g', rfl⟩ : ∃ z, g' = z + 1 := ⟨g' - 1, by omega⟩
    have hu16 := h.1.u16 hu
    have hfu : c < ux_fuel := by have := h.1.le; have := z_fuel; omega
    have hlp := z_fjl (x := x) (b := b) (k := k) (c := c) (t := t) (B := B) (n := n) (dd := dd) (u := u) (pF_56 mF_56 g) (mF_56 g) (pF_186 mF_186 g') (mF_186 g') hu16 (fun v M m h hv hj hc => by
      have l1 := z_ct.lt (z_Z.en m v 2) hj (z_enJ m v 2) c hv
      obtain ⟨a1, a2, a3, a4, a5⟩ := IH (z_ct (z_en m v 2) c) (by omega) g g' v (dd + 1) 2 M m (by omega) (by omega) (by omega) h hv (Nat.le_refl _)
      exact ⟨a1, a2 rfl, a3, a4, (z_Z.en m v 2).tr a5⟩)
    have hE : z_R x b k c t B (m_57 k (nI u) how M) (z_en m u how) := h.end hu how
    have hE5 : ux_set (ux_set (ux_set (ux_set (ux_set M k 49197 0 0 ((M k 49197 0 0) &&& (((1 : Int32) <<< (nI u &&& 31)) ^^^ ((-1) : Int32)))) k 49197 0 1 ((ux_set M k 49197 0 0 ((M k 49197 0 0) &&& (((1 : Int32) <<< (nI u &&& 31)) ^^^ ((-1) : Int32))) k 49197 0 1) &&& (((1 : Int32) <<< (nI u &&& 31)) ^^^ ((-1) : Int32)))) k 49197 0 2 ((ux_set (ux_set M k 49197 0 0 ((M k 49197 0 0) &&& (((1 : Int32) <<< (nI u &&& 31)) ^^^ ((-1) : Int32)))) k 49197 0 1 ((ux_set M k 49197 0 0 ((M k 49197 0 0) &&& (((1 : Int32) <<< (nI u &&& 31)) ^^^ ((-1) : Int32))) k 49197 0 1) &&& (((1 : Int32) <<< (nI u &&& 31)) ^^^ ((-1) : Int32))) k 49197 0 2) &&& (((1 : Int32) <<< (nI u &&& 31)) ^^^ ((-1) : Int32)))) k 49197 0 3 ((ux_set (ux_set (ux_set M k 49197 0 0 ((M k 49197 0 0) &&& (((1 : Int32) <<< (nI u &&& 31)) ^^^ ((-1) : Int32)))) k 49197 0 1 ((ux_set M k 49197 0 0 ((M k 49197 0 0) &&& (((1 : Int32) <<< (nI u &&& 31)) ^^^ ((-1) : Int32))) k 49197 0 1) &&& (((1 : Int32) <<< (nI u &&& 31)) ^^^ ((-1) : Int32)))) k 49197 0 2 ((ux_set (ux_set M k 49197 0 0 ((M k 49197 0 0) &&& (((1 : Int32) <<< (nI u &&& 31)) ^^^ ((-1) : Int32)))) k 49197 0 1 ((ux_set M k 49197 0 0 ((M k 49197 0 0) &&& (((1 : Int32) <<< (nI u &&& 31)) ^^^ ((-1) : Int32))) k 49197 0 1) &&& (((1 : Int32) <<< (nI u &&& 31)) ^^^ ((-1) : Int32))) k 49197 0 2) &&& (((1 : Int32) <<< (nI u &&& 31)) ^^^ ((-1) : Int32))) k 49197 0 3) &&& (((1 : Int32) <<< (nI u &&& 31)) ^^^ ((-1) : Int32)))) k 327809 0 (nI u).toNatClampNeg how = m_57 k (nI u) how M := rfl
    have hd16 : nI dd < 16 := (z_lt (b := 16) (by omega) (by omega)).mpr (by omega)
    have hst : m_57 k (nI u) how M k 65665 0 u = z_Y (z_en m u how) 28 u := hE.1.d28 hu
    rw [pF_56, mF_56, pF_186, mF_186]
    unfold pb_56 mb_56 pb_186 mb_186 p_56_30 m_56_30
    simp only [forall_eq]
    rw [hE5]
    simp only [z_cl hu16, hst, hd16, if_true, not_true_eq_false, false_implies, true_implies, and_true]
    unfold z_mh
    by_cases q : how = 2
    · obtain ⟨f1, f2, f3, f4, f5⟩ := z_R.fa (u := u) hE hu
      have r := hlp c ux_fuel ux_fuel 0 _ _ (by omega) hfu hfu f3 (Nat.le_trans (z_ct.mono f4 c) hct)
      rw [if_pos q, if_pos q]
      refine ⟨⟨z_i16 hu16, fun z => absurd q z, fun _ => ⟨z_i16 hu16, fun z => ?_, fun z => ⟨f1 z, ?_⟩⟩⟩, fun _ => f2, r.2.1, ?_, f4.tr r.2.2.2⟩
      · have := r.1; rw [if_neg z] at this; exact this
      · have := r.1; rw [if_pos z] at this; exact this
      · have := r.2.2.1
        by_cases z : z_Y (z_en m u how) 28 u = 5
        · rw [if_pos z] at this ⊢; exact this
        · rw [if_neg z] at this ⊢; exact this
    · have r := hlp c ux_fuel ux_fuel 0 _ _ (by omega) hfu hfu hE hct
      rw [if_neg q, if_neg q]
      exact ⟨⟨z_i16 hu16, fun _ => r.1, fun z => absurd z q⟩, fun z => absurd z q, r.2.1, r.2.2.1, r.2.2.2⟩
/-- A JOB TO START OR RESTART ENDS BADLY -/
theorem z_R.fj (h : z_R x b k c t B M m) (hu : u < c) (hj : ¬ z_Y m 29 u = 0) (how : Int32) :
    p_56 k (nI u) how 0 M ∧ (how = 2 → p_189 (nI u) (z_en m u how)) ∧ p_186 (nI u) (z_mh m u how) ∧ z_R x b k c t B (m_56 k (nI u) how 0 M) (m_186 (nI u) (z_mh m u how)) ∧ z_Z (z_en m u how) (m_186 (nI u) (z_mh m u how)) := by
  have hc := h.1.le
  have l1 := z_ct.lt (z_Z.en m u how) hj (z_enJ m u how) c hu
  have l2 := z_ct.le m c
  exact z_fj (z_ct (z_en m u how) c) 20 20 u 0 how M m (by omega) (by omega) (by omega) h hu (Nat.le_refl _)
/-- breaks, cancels (the job of the unit to start or to restart) -/
theorem z_R.br (h : z_R x b k c t B M m) (hu : u < c) (hj : z_Y m 29 u = 1 ∨ z_Y m 29 u = 3) (how : Int32) (h2 : ¬ how = 2) :
    p_56 k (nI u) how 0 M ∧ p_182 (nI u) how m ∧ z_R x b k c t B (m_56 k (nI u) how 0 M) (m_182 (nI u) how m) ∧ z_Z (z_en m u how) (m_182 (nI u) how m) := by
  have h16 := h.1.u16 hu
  obtain ⟨a1, a2, a3, a4, a5⟩ := h.fj hu (by rcases hj with q | q <;> rw [q] <;> decide) how
  unfold z_mh at a3 a4 a5
  rw [if_neg h2] at a3 a4 a5
  unfold z_en at a3 a4 a5
  unfold p_182 m_182
  simp only [of29 _ h16, pu29 _ _ h16, pu30 _ _ h16, pu41 _ _ h16, forall_eq, hj, if_true, not_true_eq_false, false_implies, true_implies, true_and]
  exact ⟨a1, ⟨uu29 h16, uu29 h16, uu30 h16, uu41 h16, a3⟩, a4, a5⟩
/-- cancelJob, cancels: whatever job there is -/
theorem z_R.cj (h : z_R x b k c t B M m) (hu : u < c) : p_84 k (nI u) M ∧ (¬ z_Y m 29 u = 0 → p_214 (nI u) m) ∧ z_R x b k c t B (m_84 k (nI u) M) (if z_Y m 29 u = 0 then m else m_214 (nI u) m) ∧ z_Z m (if z_Y m 29 u = 0 then m else m_214 (nI u) m) := by
  have h16 := h.1.u16 hu
  have hE := h.end hu 4
  unfold m_57 at hE
  simp only [z_cl h16] at hE
  unfold p_84 m_84 p_214 m_214
  rw [h.1.ty h.2 hu]
  simp only [forall_eq, z_cl h16]
  rcases h.2.jb hu with q | q | q | q
  · simp only [q, zn_02, if_true, if_false, not_true_eq_false, not_false_eq_true, false_implies, true_implies, and_true]
    exact ⟨z_W.pty M k (nI u), trivial, h, z_Z.rf⟩
  · obtain ⟨b1, b2, b3, b4⟩ := h.br hu (Or.inl q) 4 (by decide)
    simp only [q, zn_12, zn_10, if_true, if_false, not_true_eq_false, not_false_eq_true, false_implies, true_implies, and_true, true_and]
    exact ⟨⟨z_W.pty M k (nI u), b1⟩, b2, b3, (z_Z.en m u 4).tr b4⟩
  · have e : m_182 (nI u) 4 m = z_en m u 4 := by
      unfold m_182 z_en; simp only [of29 _ h16, pu29 _ _ h16, pu30 _ _ h16, pu41 _ _ h16, q, zn_21, zn_23, or_self, if_false]
    have e2 : p_182 (nI u) 4 m := by
      unfold p_182; simp only [of29 _ h16, pu29 _ _ h16, pu30 _ _ h16, pu41 _ _ h16, q, zn_21, zn_23, or_self, forall_eq, false_implies, not_false_eq_true, true_implies, and_true]
      exact ⟨uu29 h16, uu29 h16, uu30 h16, uu41 h16⟩
    simp only [q, zn_20, if_true, if_false, not_true_eq_false, not_false_eq_true, false_implies, true_implies, and_true, true_and, e]
    exact ⟨⟨z_W.pty M k (nI u), z_i16 h16⟩, e2, hE, z_Z.en m u 4⟩
  · obtain ⟨b1, b2, b3, b4⟩ := h.br hu (Or.inr q) 4 (by decide)
    simp only [q, zn_32, zn_30, if_true, if_false, not_true_eq_false, not_false_eq_true, false_implies, true_implies, and_true, true_and]
    exact ⟨⟨z_W.pty M k (nI u), b1⟩, b2, b3, (z_Z.en m u 4).tr b4⟩
end ZF
