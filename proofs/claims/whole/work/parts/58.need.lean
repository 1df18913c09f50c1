/-! requirements; begins in an interval; the begin of an activation; leaving -/
section ZN
variable {k c t B u v a b s x n : Nat} {M m M' m' : ux_M}
theorem z_bn {X : Bool} (h : (true && !X) = false) : X = true := by cases X <;> simp at h ⊢
/-- a requirement is there -/
def z_ok (m : ux_M) (u v : Nat) : Prop := z_Y m 28 v = 2 ∨ (bt (z_Y m 27 u) v = false ∧ (z_Y m 28 v = 1 ∨ z_Y m 29 v = 1 ∨ z_Y m 29 v = 3))
theorem z_225l (h : z_W k c t B M m) (hu : u < c) : ∀ (n f i : Nat), i + n = c → n < f → p_225_2 f (nI u) (nI i) m ∧ (r_225_2 f (nI u) (nI i) m = 0 ↔ ∃ v, i ≤ v ∧ v < c ∧ (bt (z_Y m 22 u) v || bt (z_Y m 24 u) v) = true ∧ ¬ z_ok m u v) := by
  intro n
  have hu16 := h.u16 hu
  induction n with
  | zero =>
    intro f i hi hf
    obtain ⟨f, rfl⟩ : ∃ g, f = g + 1 := ⟨f - 1, by omega⟩
    have hle := z_yle (show c ≤ i by omega) (by have := h.le; omega)
    rw [p_225_2, r_225_2, z_c1, h.cn, if_pos hle]
    exact ⟨⟨z_v1, fun _ => trivial, fun z => absurd hle z⟩, fun z => absurd z (by decide), fun ⟨v, h1, h2, _⟩ => absurd h2 (by omega)⟩
  | succ n ih =>
    intro f i hi hf
    obtain ⟨f, rfl⟩ : ∃ g, f = g + 1 := ⟨f - 1, by omega⟩
    have hic : i < c := by omega
    have hi16 := h.u16 hic
    have hle := z_nle hic h.le
    have r := ih f (i + 1) (by omega) (by omega)
    have skip : ((bt (z_Y m 22 u) i || bt (z_Y m 24 u) i) = true → z_ok m u i) → ((∃ v, i + 1 ≤ v ∧ v < c ∧ (bt (z_Y m 22 u) v || bt (z_Y m 24 u) v) = true ∧ ¬ z_ok m u v) ↔ (∃ v, i ≤ v ∧ v < c ∧ (bt (z_Y m 22 u) v || bt (z_Y m 24 u) v) = true ∧ ¬ z_ok m u v)) := fun hk => by
      constructor
      · rintro ⟨v, h1, h2⟩; exact ⟨v, by omega, h2⟩
      · rintro ⟨v, h1, h2, h3, h4⟩
        by_cases e : v = i
        · subst e; exact absurd (hk h3) h4
        · exact ⟨v, by omega, h2, h3, h4⟩
    have hit : (bt (z_Y m 22 u) i || bt (z_Y m 24 u) i) = true → ¬ z_ok m u i → ((0 : Int32) = 0 ↔ (∃ v, i ≤ v ∧ v < c ∧ (bt (z_Y m 22 u) v || bt (z_Y m 24 u) v) = true ∧ ¬ z_ok m u v)) := fun h1 h2 => ⟨fun _ => ⟨i, Nat.le_refl _, hic, h1, h2⟩, fun _ => rfl⟩
    rw [p_225_2, r_225_2]
    simp only [z_c1, h.cn, hle, if_false, not_false_eq_true, true_implies, false_implies, true_and, of22 _ hu16, of24 _ hu16, of27 _ hu16, of28 _ hi16, of29 _ hi16, z_shr1 _ (show i < 32 by omega), b_or, z_nx]
    by_cases q1 : (bt (z_Y m 22 u) i || bt (z_Y m 24 u) i) = true
    · by_cases q2 : z_Y m 28 i = 2
      · simp only [q1, q2, if_true, not_true_eq_false, false_implies, true_implies, true_and]
        exact ⟨⟨z_v1, uu22 hu16, uu24 hu16, uu28 hi16, r.1⟩, r.2.trans (skip (fun _ => Or.inl q2))⟩
      · by_cases q3 : bt (z_Y m 27 u) i = true
        · simp only [q1, q2, q3, if_true, if_false, not_true_eq_false, not_false_eq_true, false_implies, true_implies, true_and, and_true]
          refine ⟨⟨z_v1, uu22 hu16, uu24 hu16, uu28 hi16, uu27 hu16⟩, ?_⟩
          have e := hit q1 (fun z => by rcases z with z | z; exact q2 z; rw [q3] at z; exact absurd z.1 (by decide))
          simpa using e
        · have q3' : bt (z_Y m 27 u) i = false := by simpa using q3
          by_cases q4 : z_Y m 28 i = 1
          · simp only [q1, q2, q3', q4, zn_12, Bool.false_eq_true, if_true, if_false, not_true_eq_false, not_false_eq_true, false_implies, true_implies, true_and, and_true]
            exact ⟨⟨z_v1, uu22 hu16, uu24 hu16, uu28 hi16, uu27 hu16, uu28 hi16, r.1⟩, r.2.trans (skip (fun _ => Or.inr ⟨q3', Or.inl q4⟩))⟩
          · by_cases q5 : z_Y m 29 i = 1 ∨ z_Y m 29 i = 3
            · simp only [q1, q2, q3', q4, q5, Bool.false_eq_true, if_true, if_false, not_true_eq_false, not_false_eq_true, false_implies, true_implies, true_and, and_true]
              exact ⟨⟨z_v1, uu22 hu16, uu24 hu16, uu28 hi16, uu27 hu16, uu28 hi16, uu29 hi16, r.1⟩, r.2.trans (skip (fun _ => Or.inr ⟨q3', Or.inr q5⟩))⟩
            · simp only [q1, q2, q3', q4, q5, Bool.false_eq_true, if_true, if_false, not_true_eq_false, not_false_eq_true, false_implies, true_implies, true_and, and_true]
              refine ⟨⟨z_v1, uu22 hu16, uu24 hu16, uu28 hi16, uu27 hu16, uu28 hi16, uu29 hi16⟩, ?_⟩
              have e := hit q1 (fun z => by rcases z with z | ⟨z1, z | z⟩; exact q2 z; exact q4 z; exact q5 z)
              simpa using e
    · have q1' : (bt (z_Y m 22 u) i || bt (z_Y m 24 u) i) = false := by simpa using q1
      simp only [q1', Bool.false_eq_true, if_false, not_false_eq_true, false_implies, true_implies, and_true]
      exact ⟨⟨z_v1, uu22 hu16, uu24 hu16, r.1⟩, r.2.trans (skip (fun z => absurd z q1))⟩
theorem z_need (h : z_W k c t B M m) (hI : z_I x b c t m) (hu : u < c) : p_81 k (nI u) M ∧ p_225 (nI u) m ∧ (r_81 k (nI u) M = 0 ↔ r_225 (nI u) m = 0) := by
  have hu16 := h.u16 hu
  obtain ⟨r1, r2⟩ := z_225l h hu c ux_fuel 0 (by omega) (by have := h.le; have := z_fuel; omega)
  refine ⟨?_, r1, ?_⟩
  · unfold p_81; exact ⟨z_p43 h hI 4, z_p43 h hI 2, z_r5, z_i16 hu16, z_i16 hu16⟩
  · refine Iff.trans ?_ r2.symm
    unfold r_81
    rw [z_cl hu16, z_c5, h.r5 hu]
    have e : ∀ v, v < 32 → bt ((M k 491649 0 u) &&& (((r_43 k 4 M) ||| (((r_43 k 2 M) ||| (M k 49197 0 0)) &&& ((z_Y m 27 u) ^^^ ((-1) : Int32)))) ^^^ ((-1) : Int32))) v = ((bt (z_Y m 22 u) v || bt (z_Y m 24 u) v) && !((decide (v < c) && bt 4 (z_Y m 28 v).toNatClampNeg) || (((decide (v < c) && bt 2 (z_Y m 28 v).toNatClampNeg) || (decide (v < c) && (decide (z_Y m 29 v = 1) || decide (z_Y m 29 v = 3)))) && !(bt (z_Y m 27 u) v)))) := fun v hv => by
      rw [b_and, h.bN hu, z_not _ hv, b_or, z_r43 h hI _ hv, b_and, b_or, z_r43 h hI _ hv, h.js hv, z_not _ hv]
    have ok : ∀ v, v < c → (((decide (v < c) && bt 4 (z_Y m 28 v).toNatClampNeg) || (((decide (v < c) && bt 2 (z_Y m 28 v).toNatClampNeg) || (decide (v < c) && (decide (z_Y m 29 v = 1) || decide (z_Y m 29 v = 3)))) && !(bt (z_Y m 27 u) v))) = true ↔ z_ok m u v) := fun v hv => by
      have b4 : ∀ s, s < 6 → bt 4 s = decide (s = 2) := by decide +kernel
      have b2 : ∀ s, s < 6 → bt 2 s = decide (s = 1) := by decide +kernel
      obtain ⟨s, hs, es⟩ := hI.sv hv
      have e2 : (z_Y m 28 v = 2) ↔ s = 2 := by rw [es]; exact z_eq (b := 2) (by omega) (by omega)
      have e1 : (z_Y m 28 v = 1) ↔ s = 1 := by rw [es]; exact z_eq (b := 1) (by omega) (by omega)
      unfold z_ok
      rw [e2, e1, es, z_cls (by omega), b4 s hs, b2 s hs]
      cases bt (z_Y m 27 u) v <;> simp [hv]
    by_cases z : ((M k 491649 0 u) &&& (((r_43 k 4 M) ||| (((r_43 k 2 M) ||| (M k 49197 0 0)) &&& ((z_Y m 27 u) ^^^ ((-1) : Int32)))) ^^^ ((-1) : Int32))) = 0
    · rw [if_pos z]
      refine ⟨fun q => absurd q (by decide), fun ⟨v, h1, h2, h3, h4⟩ => ?_⟩
      have z2 := z_nz.mp z v (by have := h.le; omega)
      rw [e v (by have := h.le; omega), h3] at z2
      have z3 := z_bn z2
      exact absurd ((ok v h2).mp z3) h4
    · rw [if_neg z]
      refine ⟨fun _ => ?_, fun _ => rfl⟩
      obtain ⟨v, hv, hb⟩ : ∃ v, v < 32 ∧ bt ((M k 491649 0 u) &&& (((r_43 k 4 M) ||| (((r_43 k 2 M) ||| (M k 49197 0 0)) &&& ((z_Y m 27 u) ^^^ ((-1) : Int32)))) ^^^ ((-1) : Int32))) v = true := by
        apply Classical.byContradiction
        intro q
        exact z (z_nz.mpr (fun i hi => by
          cases e : bt ((M k 491649 0 u) &&& (((r_43 k 4 M) ||| (((r_43 k 2 M) ||| (M k 49197 0 0)) &&& ((z_Y m 27 u) ^^^ ((-1) : Int32)))) ^^^ ((-1) : Int32))) i
          · rfl
          · exact absurd ⟨i, hi, e⟩ q))
      rw [e v hv, Bool.and_eq_true] at hb
      have hvc : v < c := by
        have h1 := hb.1
        rw [Bool.or_eq_true] at h1
        rcases h1 with h1 | h1
        · exact (h.rb hu 0 (by omega) v h1).1
        · exact (h.rb hu 2 (by omega) v h1).1
      refine ⟨v, Nat.zero_le _, hvc, hb.1, fun q => ?_⟩
      have := (ok v hvc).mpr q
      rw [this] at hb
      exact absurd hb.2 (by decide)
/-! begins in an interval -/
def z_cn (g : Nat → Bool) : Nat → Nat
  | 0 => 0
  | n + 1 => z_cn g n + (if g n then 1 else 0)
theorem z_cn.le (g : Nat → Bool) : ∀ n, z_cn g n ≤ n
  | 0 => Nat.le_refl _
  | n + 1 => by have := z_cn.le g n; unfold z_cn; split <;> omega
theorem z_cn.eq {g g' : Nat → Bool} : ∀ n, (∀ i, i < n → g i = g' i) → z_cn g n = z_cn g' n
  | 0, _ => rfl
  | n + 1, h => by unfold z_cn; rw [z_cn.eq n (fun i hi => h i (by omega)), h n (by omega)]
theorem z_rot (g : Nat → Bool) (r : Nat) : z_cn (fun i => g ((r + i) % 9)) 9 = z_cn g 9 := by
  have hr : r % 9 < 9 := Nat.mod_lt _ (by omega)
  have e : z_cn (fun i => g ((r + i) % 9)) 9 = z_cn (fun i => g ((r % 9 + i) % 9)) 9 := z_cn.eq 9 (fun i _ => by rw [Nat.mod_add_mod])
  rw [e]
  generalize r % 9 = q at hr
  have h9 : q = 0 ∨ q = 1 ∨ q = 2 ∨ q = 3 ∨ q = 4 ∨ q = 5 ∨ q = 6 ∨ q = 7 ∨ q = 8 := by omega
  rcases h9 with rfl | rfl | rfl | rfl | rfl | rfl | rfl | rfl | rfl <;> simp only [z_cn, Nat.reduceAdd, Nat.reduceMod, Nat.zero_add, Nat.add_zero] <;> omega
theorem z_82l (h : z_W k c t B M m) (hu : u < c) (y : Int32) {a : Nat} (ha : a < 2000000000) (ea : z_Y m 38 u = nI a) : ∀ (n f i acc : Nat), i + n = min a 9 → n < f → acc ≤ i → p_82_18 f k (nI u) (nI acc) y (nI i) M ∧ ∃ r, r_82_18 f k (nI u) (nI acc) y (nI i) M = nI r ∧ r + z_cn (fun j => decide (¬ M k 164993 0 (u * 9 + j) ≤ y)) i = acc + z_cn (fun j => decide (¬ M k 164993 0 (u * 9 + j) ≤ y)) (min a 9) := by
  have hu16 := h.u16 hu
  have ix : ∀ i, i < 9 → (nI u * (9 : Int32)) + nI i = nI (u * 9 + i) := fun i _ => by
    show Int32.ofNat u * Int32.ofNat 9 + Int32.ofNat i = Int32.ofNat _
    rw [← Int32.ofNat_mul, ← Int32.ofNat_add]
  intro n
  induction n with
  | zero =>
    intro f i acc hi hf hacc
    obtain ⟨f, rfl⟩ : ∃ g, f = g + 1 := ⟨f - 1, by omega⟩
    rw [p_82_18, r_82_18, z_cl hu16, h.d38 hu, ea]
    by_cases q9 : (9 : Int32) ≤ nI i
    · rw [if_pos q9]
      exact ⟨⟨fun _ => trivial, fun z => absurd q9 z⟩, acc, rfl, by rw [show i = min a 9 by omega]⟩
    · have hi9 : ¬ 9 ≤ i := fun z => q9 ((z_le (a := 9) (by omega) (by omega)).mpr z)
      have hle : nI a ≤ nI i := (z_le ha (by omega)).mpr (by omega)
      rw [if_neg q9, if_pos hle]
      exact ⟨⟨fun z => absurd z q9, fun _ => ⟨z_i16 hu16, fun _ => trivial, fun z => absurd hle z⟩⟩, acc, rfl, by rw [show i = min a 9 by omega]⟩
  | succ n ih =>
    intro f i acc hi hf hacc
    obtain ⟨f, rfl⟩ : ∃ g, f = g + 1 := ⟨f - 1, by omega⟩
    have q9 : ¬ (9 : Int32) ≤ nI i := fun z => by have := (z_le (a := 9) (by omega) (by omega)).mp z; omega
    have hle : ¬ nI a ≤ nI i := fun z => by have := (z_le ha (by omega)).mp z; omega
    rw [p_82_18, r_82_18, z_cl hu16, h.d38 hu, ea, if_neg q9, if_neg hle, ix i (by omega), z_cls (show u * 9 + i < 2000000000 by omega), z_nx, z_nx]
    by_cases q : M k 164993 0 (u * 9 + i) ≤ y
    · obtain ⟨r1, r, r2, r3⟩ := ih f (i + 1) acc (by omega) (by omega) (by omega)
      rw [if_pos q]
      refine ⟨⟨fun z => absurd z q9, fun _ => ⟨z_i16 hu16, fun z => absurd z hle, fun _ => ⟨z_in (by omega) (by omega), fun _ => r1, fun z => absurd q z⟩⟩⟩, r, r2, ?_⟩
      rw [z_cn] at r3; simp only [q, not_true_eq_false, decide_false, Bool.false_eq_true, if_false] at r3; omega
    · obtain ⟨r1, r, r2, r3⟩ := ih f (i + 1) (acc + 1) (by omega) (by omega) (by omega)
      rw [if_neg q]
      refine ⟨⟨fun z => absurd z q9, fun _ => ⟨z_i16 hu16, fun z => absurd z hle, fun _ => ⟨z_in (by omega) (by omega), fun z => absurd z q, fun _ => r1⟩⟩⟩, r, r2, ?_⟩
      rw [z_cn] at r3; simp only [q, not_false_eq_true, decide_true, if_true] at r3; omega
theorem z_226l (h : z_W k c t B M m) (hu : u < c) {N : Nat} (hN : N ≤ 9) (eN : z_Y m 45 u = nI N) : ∀ (n f i acc : Nat), i + n = N → n < f → acc ≤ i → p_226_4 f (nI u) (nI acc) (nI i) m ∧ ∃ r, r_226_4 f (nI u) (nI acc) (nI i) m = nI r ∧ r + z_cn (fun j => decide (¬ z_Y m (46 + j) u ≤ nI t - z_Y m 18 u)) i = acc + z_cn (fun j => decide (¬ z_Y m (46 + j) u ≤ nI t - z_Y m 18 u)) N := by
  have hu16 := h.u16 hu
  have ix : ∀ i, (46 : Int32) + nI i = nI (46 + i) := fun i => z_add 46 i
  intro n
  induction n with
  | zero =>
    intro f i acc hi hf hacc
    obtain ⟨f, rfl⟩ : ∃ g, f = g + 1 := ⟨f - 1, by omega⟩
    have hle : nI N ≤ nI i := (z_le (by omega) (by omega)).mpr (by omega)
    rw [p_226_4, r_226_4, of45 _ hu16, eN, if_pos hle]
    exact ⟨⟨uu45 hu16, fun _ => trivial, fun z => absurd hle z⟩, acc, rfl, by rw [show i = N by omega]⟩
  | succ n ih =>
    intro f i acc hi hf hacc
    obtain ⟨f, rfl⟩ : ∃ g, f = g + 1 := ⟨f - 1, by omega⟩
    have hle : ¬ nI N ≤ nI i := fun z => by have := (z_le (by omega) (by omega)).mp z; omega
    rw [p_226_4, r_226_4, of45 _ hu16, eN, if_neg hle, ix, z_of m (46 + i) u (by omega) hu16, of18 _ hu16, z_c0, h.now, z_nx, show nI acc + (0 : Int32) = nI acc from z_add acc 0, show nI acc + (1 : Int32) = nI (acc + 1) from z_add acc 1]
    by_cases q : z_Y m (46 + i) u ≤ nI t - z_Y m 18 u
    · obtain ⟨r1, r, r2, r3⟩ := ih f (i + 1) acc (by omega) (by omega) (by omega)
      rw [if_pos q]
      refine ⟨⟨uu45 hu16, fun z => absurd z hle, fun _ => ⟨z_uu (46 + i) u (by omega) hu16, z_v0, uu18 hu16, fun _ => r1, fun z => absurd q z⟩⟩, r, r2, ?_⟩
      rw [z_cn] at r3; simp only [q, not_true_eq_false, decide_false, Bool.false_eq_true, if_false] at r3; omega
    · obtain ⟨r1, r, r2, r3⟩ := ih f (i + 1) (acc + 1) (by omega) (by omega) (by omega)
      rw [if_neg q]
      refine ⟨⟨uu45 hu16, fun z => absurd z hle, fun _ => ⟨z_uu (46 + i) u (by omega) hu16, z_v0, uu18 hu16, fun z => absurd z q, fun _ => r1⟩⟩, r, r2, ?_⟩
      rw [z_cn] at r3; simp only [q, not_false_eq_true, decide_true, if_true] at r3; omega
/-- beginsInInterval, recent (of a service) -/
theorem z_rec (h : z_W k c t B M m) (hB : B < 2000000000) (hu : u < c) (hk : z_Y m 0 u = 0) : p_82 k (nI u) M ∧ p_226 (nI u) m ∧ r_82 k (nI u) M = r_226 (nI u) m := by
  obtain ⟨q1, q2⟩ := h.q8 hu
  rw [hk] at q2
  obtain ⟨a, ha, ea, en, ex⟩ := h.2.2.2.2.2 u hu
  have hl := z_fuel
  obtain ⟨s1, r, s2, s3⟩ := z_82l h hu (nI t - z_Y m 18 u) (show a < 2000000000 by omega) ea (min a 9) ux_fuel 0 0 (by omega) (by omega) (by omega)
  obtain ⟨w1, r', w2, w3⟩ := z_226l h hu (show min a 9 ≤ 9 by omega) en (min a 9) ux_fuel 0 0 (by omega) (by omega) (by omega)
  unfold p_82 r_82 p_226 r_226
  rw [q2, h.nw]
  simp only [if_true]
  refine ⟨⟨q1, s1⟩, w1, ?_⟩
  refine Eq.trans s2 (Eq.trans ?_ w2.symm)
  have e : z_cn (fun j => decide (¬ z_Y m (46 + j) u ≤ nI t - z_Y m 18 u)) (min a 9) = z_cn (fun j => decide (¬ M k 164993 0 (u * 9 + j) ≤ nI t - z_Y m 18 u)) (min a 9) := by
    have e1 : z_cn (fun j => decide (¬ z_Y m (46 + j) u ≤ nI t - z_Y m 18 u)) (min a 9) = z_cn (fun j => (fun i => decide (¬ M k 164993 0 (u * 9 + i) ≤ nI t - z_Y m 18 u)) ((a - min a 9 + j) % 9)) (min a 9) := z_cn.eq _ (fun i hi => by
      have := ex i hi
      simp only at this
      rw [this])
    rw [e1]
    by_cases z : a ≤ 9
    · rw [show min a 9 = a by omega]
      exact z_cn.eq _ (fun i hi => by rw [show a - a + i = i by omega, Nat.mod_eq_of_lt (by omega)])
    · rw [show min a 9 = 9 by omega]
      exact z_rot (fun i => decide (¬ M k 164993 0 (u * 9 + i) ≤ nI t - z_Y m 18 u)) (a - 9)
  have e2 : r = r' := by
    have e0 : z_cn (fun j => decide (¬ M k 164993 0 (u * 9 + j) ≤ nI t - z_Y m 18 u)) 0 = 0 := rfl
    have e0' : z_cn (fun j => decide (¬ z_Y m (46 + j) u ≤ nI t - z_Y m 18 u)) 0 = 0 := rfl
    omega
  rw [e2]
end ZN
