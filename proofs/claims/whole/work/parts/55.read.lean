/-! what is read: sets of units, orderings, needs -/
section ZQ
variable {k c t B u v a b s x : Nat} {M m M' m' : ux_M}
theorem z_orT {acc : Int32} {i w : Nat} (P : Nat → Bool) (hi : i < 32) (hw : w < 32) (hP : P i = true) : (bt (acc ||| ((1 : Int32) <<< (nI i &&& 31))) w || (decide (i + 1 ≤ w) && P w)) = (bt acc w || (decide (i ≤ w) && P w)) := by
  rw [z_sti _ hi hw]
  by_cases q : w = i
  · subst q; simp [hP]
  · rw [if_neg q]
    by_cases z : i ≤ w
    · simp [z, show i + 1 ≤ w by omega]
    · simp [z, show ¬ i + 1 ≤ w by omega]
theorem z_orF {acc : Int32} {i w : Nat} (P : Nat → Bool) (hP : P i = false) : (bt acc w || (decide (i + 1 ≤ w) && P w)) = (bt acc w || (decide (i ≤ w) && P w)) := by
  by_cases q : w = i
  · subst q; simp [hP]
  · by_cases z : i ≤ w
    · simp [z, show i + 1 ≤ w by omega]
    · simp [z, show ¬ i + 1 ≤ w by omega]
theorem z_orE {acc : Int32} {i w : Nat} (P : Nat → Bool) (hP : i ≤ w → P w = false) : bt acc w = (bt acc w || (decide (i ≤ w) && P w)) := by
  by_cases z : i ≤ w
  · rw [hP z]; simp
  · simp [z]
theorem z_or0 (x : Int32) : x ||| (0 : Int32) = x := b_ext (fun i _ => by rw [b_or, b_0, Bool.or_false])
theorem z_0or (x : Int32) : (0 : Int32) ||| x = x := b_ext (fun i _ => by rw [b_or, b_0, Bool.false_or])
theorem z_I.sv (h : z_I x b c t m) (hu : u < c) : ∃ s, s < 6 ∧ z_Y m 28 u = nI s := by
  rcases h.st hu with q | q | q | q | q | q
  · exact ⟨0, by omega, q⟩
  · exact ⟨1, by omega, q⟩
  · exact ⟨2, by omega, q⟩
  · exact ⟨3, by omega, q⟩
  · exact ⟨4, by omega, q⟩
  · exact ⟨5, by omega, q⟩
theorem z_nle {i c : Nat} (h : i < c) (hc : c ≤ 16) : ¬ nI c ≤ nI i := fun q => by have := (z_le (by omega) (by omega)).mp q; omega
theorem z_yle {i c : Nat} (h : c ≤ i) (hc : i ≤ 16) : nI c ≤ nI i := (z_le (by omega) (by omega)).mpr h
/-- the class's unitsIn -/
theorem z_43l (h : z_W k c t B M m) (hI : z_I x b c t m) (mask : Int32) : ∀ (n f i : Nat) (acc : Int32), i + n = c → n < f → p_43_4 f k mask acc (nI i) M ∧ ∀ w, w < 32 → bt (r_43_4 f k mask acc (nI i) M) w = (bt acc w || (decide (i ≤ w) && (decide (w < c) && bt mask (z_Y m 28 w).toNatClampNeg))) := by
  intro n
  induction n with
  | zero =>
    intro f i acc hi hf
    obtain ⟨f, rfl⟩ : ∃ g, f = g + 1 := ⟨f - 1, by omega⟩
    have hle := z_yle (show c ≤ i by omega) (by have := h.le; omega)
    rw [p_43_4, r_43_4, h.cnt, if_pos hle]
    exact ⟨⟨fun _ => trivial, fun z => absurd hle z⟩, fun w hw => z_orE (fun w => decide (w < c) && bt mask (z_Y m 28 w).toNatClampNeg) (fun z => by simp [show ¬ w < c by omega])⟩
  | succ n ih =>
    intro f i acc hi hf
    obtain ⟨f, rfl⟩ : ∃ g, f = g + 1 := ⟨f - 1, by omega⟩
    have hic : i < c := by omega
    have hi16 := h.u16 hic
    have hle := z_nle hic h.le
    obtain ⟨s, hs, es⟩ := hI.sv hic
    rw [p_43_4, r_43_4, h.cnt, if_neg hle, z_cl hi16, h.d28 hic, es]
    have hP : (fun w => decide (w < c) && bt mask (z_Y m 28 w).toNatClampNeg) i = bt mask s := by simp only [hic, decide_true, Bool.true_and]; rw [es, z_cls (by omega)]
    have c0 := z_shr mask (show s < 32 by omega)
    by_cases q : bt mask s = true
    · have r := ih f (i + 1) (acc ||| ((1 : Int32) <<< (nI i &&& 31))) (by omega) (by omega)
      have n0 : ¬ ((mask >>> (nI s &&& 31)) &&& (1 : Int32)) = 0 := fun z => by rw [c0.mp z] at q; cases q
      rw [if_neg n0, z_nx]
      exact ⟨⟨fun z => absurd z hle, fun _ => ⟨z_i16 hi16, fun z => absurd z n0, fun _ => r.1⟩⟩, fun w hw => by rw [r.2 w hw]; exact z_orT (fun w => decide (w < c) && bt mask (z_Y m 28 w).toNatClampNeg) (by omega) hw (hP.trans q)⟩
    · have r := ih f (i + 1) acc (by omega) (by omega)
      have q' : bt mask s = false := by simpa using q
      have n0 : ((mask >>> (nI s &&& 31)) &&& (1 : Int32)) = 0 := c0.mpr q'
      rw [if_pos n0, z_nx]
      exact ⟨⟨fun z => absurd z hle, fun _ => ⟨z_i16 hi16, fun _ => r.1, fun z => absurd n0 z⟩⟩, fun w hw => by rw [r.2 w hw]; exact z_orF (fun w => decide (w < c) && bt mask (z_Y m 28 w).toNatClampNeg) (hP.trans q')⟩
theorem z_p43 (h : z_W k c t B M m) (hI : z_I x b c t m) (mask : Int32) : p_43 k mask M := (z_43l h hI mask c ux_fuel 0 0 (by omega) (by have := h.le; have := z_fuel; omega)).1
theorem z_r43 (h : z_W k c t B M m) (hI : z_I x b c t m) (mask : Int32) {w : Nat} (hw : w < 32) : bt (r_43 k mask M) w = (decide (w < c) && bt mask (z_Y m 28 w).toNatClampNeg) := by
  have := (z_43l h hI mask c ux_fuel 0 0 (by omega) (by have := h.le; have := z_fuel; omega)).2 w hw
  refine Eq.trans this ?_
  rw [b_0]; simp
/-- a loop of the reference that gathers units -/
theorem z_259l (h : z_W k c t B M m) (s : Int32) : ∀ (n f i : Nat) (acc : Int32), i + n = c → n < f → p_259_4 f s acc (nI i) m ∧ ∀ w, w < 32 → bt (r_259_4 f s acc (nI i) m) w = (bt acc w || (decide (i ≤ w) && (decide (w < c) && decide (z_Y m 28 w = s)))) := by
  intro n
  induction n with
  | zero =>
    intro f i acc hi hf
    obtain ⟨f, rfl⟩ : ∃ g, f = g + 1 := ⟨f - 1, by omega⟩
    have hle := z_yle (show c ≤ i by omega) (by have := h.le; omega)
    rw [p_259_4, r_259_4, z_c1, h.cn, if_pos hle]
    exact ⟨⟨z_v1, fun _ => trivial, fun z => absurd hle z⟩, fun w hw => z_orE (fun w => decide (w < c) && decide (z_Y m 28 w = s)) (fun z => by simp [show ¬ w < c by omega])⟩
  | succ n ih =>
    intro f i acc hi hf
    obtain ⟨f, rfl⟩ : ∃ g, f = g + 1 := ⟨f - 1, by omega⟩
    have hic : i < c := by omega
    have hi16 := h.u16 hic
    have hle := z_nle hic h.le
    rw [p_259_4, r_259_4, z_c1, h.cn, if_neg hle, of28 _ hi16, z_nx, z_or0]
    have hP : (fun w => decide (w < c) && decide (z_Y m 28 w = s)) i = decide (z_Y m 28 i = s) := by simp [hic]
    by_cases q : z_Y m 28 i = s
    · have r := ih f (i + 1) (acc ||| ((1 : Int32) <<< (nI i &&& 31))) (by omega) (by omega)
      rw [if_pos q]
      exact ⟨⟨z_v1, fun z => absurd z hle, fun _ => ⟨uu28 hi16, fun z => absurd q z, fun _ => r.1⟩⟩, fun w hw => by rw [r.2 w hw]; exact z_orT (fun w => decide (w < c) && decide (z_Y m 28 w = s)) (by omega) hw (hP.trans (by simp [q]))⟩
    · have r := ih f (i + 1) acc (by omega) (by omega)
      rw [if_neg q]
      exact ⟨⟨z_v1, fun z => absurd z hle, fun _ => ⟨uu28 hi16, fun _ => r.1, fun z => absurd z q⟩⟩, fun w hw => by rw [r.2 w hw]; exact z_orF (fun w => decide (w < c) && decide (z_Y m 28 w = s)) (hP.trans (by simp [q]))⟩
theorem z_p259 (h : z_W k c t B M m) (s : Int32) : p_259 s m := (z_259l h s c ux_fuel 0 0 (by omega) (by have := h.le; have := z_fuel; omega)).1
theorem z_r259 (h : z_W k c t B M m) (s : Int32) {w : Nat} (hw : w < 32) : bt (r_259 s m) w = (decide (w < c) && decide (z_Y m 28 w = s)) := by
  have := (z_259l h s c ux_fuel 0 0 (by omega) (by have := h.le; have := z_fuel; omega)).2 w hw
  refine Eq.trans this ?_
  rw [b_0]; simp
theorem z_stb {x : Int32} {s : Nat} (hs : s < 6) (e : x = nI s) (j : Nat) (hj : j < 6) : decide (x = nI j) = decide (s = j) := by
  rw [e]; by_cases q : s = j
  · subst q; simp
  · simp [q, z_eq (show s < 2000000000 by omega) (show j < 2000000000 by omega)]
/-- precedes -/
def z_pc (m : ux_M) (v : Nat) (j' : Int32) (u : Nat) (j : Int32) : Bool := if j' = 2 then (if j = 2 then bt (z_Y m 27 v) u else bt (z_Y m 27 u) v || bt (z_Y m 27 v) u) else (if j = 2 then false else bt (z_Y m 27 u) v)
theorem z_209 (m : ux_M) (hu : u < 16) (hv : v < 16) (j' j : Int32) : p_209 (nI v) j' (nI u) j m ∧ r_209 (nI v) j' (nI u) j m = if z_pc m v j' u j then 1 else 0 := by
  unfold p_209 r_209 p_209_40 r_209_40 p_209_54 r_209_54 z_pc
  simp only [of27 _ hu, of27 _ hv, z_shr1 _ (show v < 32 by omega), z_shr1 _ (show u < 32 by omega)]
  refine ⟨⟨uu27 hu, uu27 hv, fun _ => ⟨fun _ => trivial, fun _ => ⟨fun _ => trivial, fun _ => ?_⟩⟩, fun _ => ⟨fun _ => ⟨fun _ => trivial, fun _ => ⟨fun _ => trivial, fun _ => ?_⟩⟩, fun _ => trivial⟩⟩, ?_⟩
  · cases bt (z_Y m 27 v) u <;> simp
  · cases bt (z_Y m 27 v) u <;> simp
  · by_cases h1 : j' = 2
    · by_cases h2 : j = 2
      · simp [h1, h2]
      · cases e1 : bt (z_Y m 27 v) u <;> cases e2 : bt (z_Y m 27 u) v <;> simp [h1, h2, e1, e2]
    · by_cases h2 : j = 2
      · simp [h1, h2]
      · simp [h1, h2]
/-- the class's preceding -/
theorem z_70 (h : z_W k c t B M m) (hu : u < c) (S T : Int32) : p_70 k (nI u) S T M ∧ ∀ w, w < 32 → bt (r_70 k (nI u) S T M) w =
    if bt S u then ((bt (z_Y m 27 u) w && bt S w) || ((bt (z_Y m 27 u) w || (decide (w < c) && bt (z_Y m 27 w) u)) && bt T w)) else if bt T u then ((decide (w < c) && bt (z_Y m 27 w) u) && bt T w) else false := by
  have h16 := h.u16 hu
  have h32 : u < 32 := by omega
  have eL : ∀ w, w < 32 → bt (M k 540801 0 u) w = (decide (w < c) && bt (z_Y m 27 w) u) := fun w hw => by
    by_cases q : w < c
    · rw [h.bL hu q]; simp [q]
    · rw [(h.bZ hu (by omega)).2.2.2]; simp [q]
  unfold p_70 r_70
  simp only [z_cl h16, z_c5, h.r5 hu, z_shr _ h32]
  refine ⟨⟨z_r5, z_i16 h16, fun _ => ⟨fun _ => trivial, fun _ => z_i16 h16⟩, fun _ => z_i16 h16⟩, fun w hw => ?_⟩
  cases e1 : bt S u
  · cases e2 : bt T u
    · simp [b_0]
    · simp only [if_true, Bool.true_eq_false, if_false, b_and, eL w hw, Bool.false_eq_true]
  · simp only [Bool.true_eq_false, if_false, if_true, b_or, b_and, eL w hw]
/-- the reference's precedingTo -/
theorem z_220l (h : z_W k c t B M m) (hu : u < c) : ∀ (n f i : Nat) (acc : Int32), i + n = c → n < f → p_220_4 f (nI u) acc (nI i) m ∧ ∀ w, w < 32 → bt (r_220_4 f (nI u) acc (nI i) m) w = (bt acc w || (decide (i ≤ w) && (decide (w < c) && (decide (¬ w = u) && (decide (¬ z_Y m 29 w = 0) && z_pc m w (z_Y m 29 w) u (z_Y m 29 u)))))) := by
  intro n
  have hu16 := h.u16 hu
  induction n with
  | zero =>
    intro f i acc hi hf
    obtain ⟨f, rfl⟩ : ∃ g, f = g + 1 := ⟨f - 1, by omega⟩
    have hle := z_yle (show c ≤ i by omega) (by have := h.le; omega)
    rw [p_220_4, r_220_4, z_c1, h.cn, if_pos hle]
    exact ⟨⟨z_v1, fun _ => trivial, fun z => absurd hle z⟩, fun w hw => z_orE (fun w => decide (w < c) && (decide (¬ w = u) && (decide (¬ z_Y m 29 w = 0) && z_pc m w (z_Y m 29 w) u (z_Y m 29 u)))) (fun z => by simp [show ¬ w < c by omega])⟩
  | succ n ih =>
    intro f i acc hi hf
    obtain ⟨f, rfl⟩ : ∃ g, f = g + 1 := ⟨f - 1, by omega⟩
    have hic : i < c := by omega
    have hi16 := h.u16 hic
    have hle := z_nle hic h.le
    have hiu : nI i = nI u ↔ i = u := z_eq (by omega) (by omega)
    obtain ⟨pp, pr⟩ := z_209 m hu16 hi16 (z_Y m 29 i) (z_Y m 29 u)
    rw [p_220_4, r_220_4, z_c1, h.cn, if_neg hle, of29 _ hi16, of29 _ hu16, z_nx, pr]
    simp only [hiu]
    have hP : (fun w => decide (w < c) && (decide (¬ w = u) && (decide (¬ z_Y m 29 w = 0) && z_pc m w (z_Y m 29 w) u (z_Y m 29 u)))) i = (decide (¬ i = u) && (decide (¬ z_Y m 29 i = 0) && z_pc m i (z_Y m 29 i) u (z_Y m 29 u))) := by simp [hic]
    have rF := ih f (i + 1) acc (by omega) (by omega)
    have rT := ih f (i + 1) (acc ||| ((1 : Int32) <<< (nI i &&& 31))) (by omega) (by omega)
    by_cases q : i = u
    · rw [if_pos q]
      exact ⟨⟨z_v1, fun z => absurd z hle, fun _ => ⟨fun _ => rF.1, fun z => absurd q z⟩⟩, fun w hw => by rw [rF.2 w hw]; exact z_orF (fun w => decide (w < c) && (decide (¬ w = u) && (decide (¬ z_Y m 29 w = 0) && z_pc m w (z_Y m 29 w) u (z_Y m 29 u)))) (hP.trans (by simp [q]))⟩
    · rw [if_neg q]
      by_cases q0 : z_Y m 29 i = 0
      · rw [if_pos q0]
        exact ⟨⟨z_v1, fun z => absurd z hle, fun _ => ⟨fun z => absurd z q, fun _ => ⟨uu29 hi16, fun _ => rF.1, fun z => absurd q0 z⟩⟩⟩, fun w hw => by rw [rF.2 w hw]; exact z_orF (fun w => decide (w < c) && (decide (¬ w = u) && (decide (¬ z_Y m 29 w = 0) && z_pc m w (z_Y m 29 w) u (z_Y m 29 u)))) (hP.trans (by simp [q0]))⟩
      · rw [if_neg q0]
        cases e : z_pc m i (z_Y m 29 i) u (z_Y m 29 u)
        · simp only [Bool.false_eq_true, if_false, if_true]
          exact ⟨⟨z_v1, fun z => absurd z hle, fun _ => ⟨fun z => absurd z q, fun _ => ⟨uu29 hi16, fun z => absurd z q0, fun _ => ⟨uu29 hi16, uu29 hu16, pp, fun _ => rF.1, fun z => absurd trivial z⟩⟩⟩⟩, fun w hw => by rw [rF.2 w hw]; exact z_orF (fun w => decide (w < c) && (decide (¬ w = u) && (decide (¬ z_Y m 29 w = 0) && z_pc m w (z_Y m 29 w) u (z_Y m 29 u)))) (hP.trans (by simp [e]))⟩
        · simp only [if_true, z_10, if_false]
          exact ⟨⟨z_v1, fun z => absurd z hle, fun _ => ⟨fun z => absurd z q, fun _ => ⟨uu29 hi16, fun z => absurd z q0, fun _ => ⟨uu29 hi16, uu29 hu16, pp, fun z => absurd z (by decide), fun _ => rT.1⟩⟩⟩⟩, fun w hw => by rw [rT.2 w hw]; exact z_orT (fun w => decide (w < c) && (decide (¬ w = u) && (decide (¬ z_Y m 29 w = 0) && z_pc m w (z_Y m 29 w) u (z_Y m 29 u)))) (by omega) hw (hP.trans (by simp [e, q, q0]))⟩
theorem z_p220 (h : z_W k c t B M m) (hu : u < c) : p_220 (nI u) m := (z_220l h hu c ux_fuel 0 0 (by omega) (by have := h.le; have := z_fuel; omega)).1
theorem z_r220 (h : z_W k c t B M m) (hu : u < c) {w : Nat} (hw : w < 32) : bt (r_220 (nI u) m) w = (decide (w < c) && (decide (¬ w = u) && (decide (¬ z_Y m 29 w = 0) && z_pc m w (z_Y m 29 w) u (z_Y m 29 u)))) := by
  have := (z_220l h hu c ux_fuel 0 0 (by omega) (by have := h.le; have := z_fuel; omega)).2 w hw
  refine Eq.trans this ?_
  rw [b_0]; simp
/-- both sides name the same preceding units -/
theorem z_prec (h : z_W k c t B M m) (hI : z_I x b c t m) (hu : u < c) (hj : ¬ z_Y m 29 u = 0) : p_70 k (nI u) (M k 49197 0 0) (M k 49197 0 2) M ∧ p_220 (nI u) m ∧ r_70 k (nI u) (M k 49197 0 0) (M k 49197 0 2) M = r_220 (nI u) m := by
  have h32 : u < 32 := by have := h.u16 hu; omega
  obtain ⟨q1, q2⟩ := z_70 h hu (M k 49197 0 0) (M k 49197 0 2)
  refine ⟨q1, z_p220 h hu, b_ext (fun w hw => ?_)⟩
  rw [q2 w hw, z_r220 h hu hw, h.js h32, h.js hw, h.jt h32, h.jt hw]
  have self : bt (z_Y m 27 u) u = false := by
    cases e : bt (z_Y m 27 u) u
    · rfl
    · exact absurd rfl (h.rb hu 5 (by omega) u e).2
  have oob : ¬ w < c → bt (z_Y m 27 u) w = false := fun z => by
    cases e : bt (z_Y m 27 u) w
    · rfl
    · exact absurd (h.rb hu 5 (by omega) w e).1 z
  by_cases hw' : w < c
  · by_cases e : w = u
    · subst e; simp [self, hw']
    · unfold z_pc
      rcases hI.jb hu with a1 | a1 | a1 | a1
      · exact absurd a1 hj
      all_goals rcases hI.jb hw' with a2 | a2 | a2 | a2
      all_goals simp [a1, a2, hu, hw', e]
  · simp [hw', oob hw']
end ZQ
