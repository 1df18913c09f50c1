/-! CHAINS OF JOBS: the greatest sums, both sides alike -/
/-- a memory with the row s of instance k laid as T -/
def z_tt (M : ux_M) (k s : Nat) (T : Nat → Int32) : ux_M := fun a b c d => if a = k ∧ b = s ∧ c = 0 then T d else M a b c d
/-- the greatest of the sums of a set -/
def z_gm (e : Nat → Bool) (T : Nat → Int32) : Nat → Int32
  | 0 => 0
  | n + 1 => if e n = true then (if z_gm e T n < T n then T n else z_gm e T n) else z_gm e T n
/-- one unit -/
def z_gs (N : Nat) (A : Nat → Bool) (E : Nat → Nat → Bool) (w : Nat → Int32) (i : Nat) (s : (Nat → Int32) × Int32) : (Nat → Int32) × Int32 :=
  if A i = true then (z_up s.1 i (w i + z_gm (E i) s.1 N), if s.2 < w i + z_gm (E i) s.1 N then w i + z_gm (E i) s.1 N else s.2) else s
/-- the units below n -/
def z_gp (N : Nat) (A : Nat → Bool) (E : Nat → Nat → Bool) (w : Nat → Int32) : Nat → (Nat → Int32) × Int32 → (Nat → Int32) × Int32
  | 0, s => s
  | n + 1, s => z_gs N A E w n (z_gp N A E w n s)
/-- r rounds -/
def z_gR (N c : Nat) (A : Nat → Bool) (E : Nat → Nat → Bool) (w : Nat → Int32) (T0 : Nat → Int32) : Nat → (Nat → Int32) × Int32
  | 0 => (T0, 0)
  | r + 1 => z_gp N A E w c (z_gR N c A E w T0 r)
def z_sq (c : Nat) (s s' : (Nat → Int32) × Int32) : Prop := (∀ u, u < c → s.1 u = s'.1 u) ∧ s.2 = s'.2
section ZK1
variable {N N' c n i u : Nat} {A A' : Nat → Bool} {E E' : Nat → Nat → Bool} {w w' : Nat → Int32} {T T' T0 T1 : Nat → Int32} {s s' : (Nat → Int32) × Int32} {e e' : Nat → Bool}
theorem z_gm.eq (n : Nat) (h : ∀ i, i < n → e i = e' i) (h2 : ∀ i, i < n → e i = true → T i = T' i) : z_gm e T n = z_gm e' T' n := by
  induction n with
  | zero => rw [z_gm, z_gm]
  | succ n ih =>
    have i1 := ih (fun i hi => h i (by omega)) (fun i hi => h2 i (by omega))
    have hn := h n (by omega)
    have tn := h2 n (by omega)
    rw [hn] at tn
    unfold z_gm
    rw [i1, hn]
    cases q : e' n
    · rw [if_neg (by decide), if_neg (by decide)]
    · rw [tn q]
theorem z_gm.cut (h : ∀ i, c ≤ i → e i = false) : ∀ n, c ≤ n → z_gm e T n = z_gm e T c
  | 0, hn => by rw [show c = 0 by omega]
  | n + 1, hn => by
    by_cases q : c = n + 1
    · rw [q]
    · rw [z_gm, h n (by omega), if_neg (by decide)]; exact z_gm.cut h n (by omega)
theorem z_gp.hi : ∀ n, n ≤ u → (z_gp N A E w n s).1 u = s.1 u
  | 0, _ => rfl
  | n + 1, h => by
    rw [z_gp, z_gs]
    split
    · exact (z_upn (by omega)).trans (z_gp.hi n (by omega))
    · exact z_gp.hi n (by omega)
theorem z_gp.no (h : A u = false) : ∀ n, (z_gp N A E w n s).1 u = s.1 u
  | 0 => rfl
  | n + 1 => by
    rw [z_gp, z_gs]
    split
    · rename_i q
      exact (z_upn (fun z => by subst z; rw [h] at q; cases q)).trans (z_gp.no h n)
    · exact z_gp.no h n
theorem z_gp.at (h : A u = true) : ∀ n, u < n → (z_gp N A E w n s).1 u = w u + z_gm (E u) (z_gp N A E w u s).1 N
  | 0, hn => absurd hn (by omega)
  | n + 1, hn => by
    by_cases q : u = n
    · subst q; rw [z_gp, z_gs, if_pos h]; exact z_upe
    · rw [z_gp, z_gs]
      split
      · exact (z_upn q).trans (z_gp.at h n (by omega))
      · exact z_gp.at h n (by omega)
theorem z_gp.fix (h1 : i < u) (h2 : u ≤ n) : (z_gp N A E w u s).1 i = (z_gp N A E w n s).1 i := by
  cases q : A i
  · rw [z_gp.no q, z_gp.no q]
  · rw [z_gp.at q u h1, z_gp.at q n (by omega)]
/-- the sums stay, once there are more rounds than units ahead -/
theorem z_gRs (an : Nat → Nat) (hE : ∀ u v, u < c → v < c → A u = true → E u v = true → an v < an u) : ∀ d u, an u ≤ d → u < c → ∀ r, d < r → (z_gR c c A E w T0 (r + 1)).1 u = (z_gR c c A E w T0 r).1 u := by
  intro d
  induction d with
  | zero =>
    intro u ha hu r hr
    obtain ⟨r, rfl⟩ : ∃ z, r = z + 1 := ⟨r - 1, by omega⟩
    cases q : A u
    · exact z_gp.no q c
    · rw [z_gR, z_gp.at q c hu]
      show _ = (z_gp c A E w c (z_gR c c A E w T0 r)).1 u
      rw [z_gp.at q c hu]
      congr 1
      refine z_gm.eq c (fun _ _ => rfl) (fun i hi e => ?_)
      have := hE u i hu hi q e
      omega
  | succ d ih =>
    intro u ha hu r hr
    obtain ⟨r, rfl⟩ : ∃ z, r = z + 1 := ⟨r - 1, by omega⟩
    cases q : A u
    · exact z_gp.no q c
    · rw [z_gR, z_gp.at q c hu]
      show _ = (z_gp c A E w c (z_gR c c A E w T0 r)).1 u
      rw [z_gp.at q c hu]
      congr 1
      refine z_gm.eq c (fun _ _ => rfl) (fun i hi e => ?_)
      have := hE u i hu hi q e
      by_cases y : i < u
      · rw [z_gp.fix y (show u ≤ c by omega), z_gp.fix y (show u ≤ c by omega)]
        exact ih i (by omega) hi (r + 1) (by omega)
      · rw [z_gp.hi u (by omega), z_gp.hi u (by omega)]
        exact ih i (by omega) hi r (by omega)
theorem z_nlt {a b d : Int32} (h : ¬ a < b) (h2 : ¬ d < a) : ¬ d < b := by
  rw [Int32.lt_iff_toInt_lt] at h h2 ⊢; omega
theorem z_gp.mx : ∀ n u, u < n → A u = true → ¬ (z_gp N A E w n s).2 < (z_gp N A E w n s).1 u
  | 0, u, h, _ => absurd h (by omega)
  | n + 1, u, h, hA => by
    have asy : ∀ x y : Int32, x < y → ¬ y < x := fun x y h => by rw [Int32.lt_iff_toInt_lt] at h ⊢; omega
    rw [z_gp, z_gs]
    by_cases q : A n = true
    · rw [if_pos q]
      by_cases y : u = n
      · subst y
        rw [show ((z_up (z_gp N A E w u s).1 u (w u + z_gm (E u) (z_gp N A E w u s).1 N), if (z_gp N A E w u s).2 < w u + z_gm (E u) (z_gp N A E w u s).1 N then w u + z_gm (E u) (z_gp N A E w u s).1 N else (z_gp N A E w u s).2) : (Nat → Int32) × Int32).1 u = w u + z_gm (E u) (z_gp N A E w u s).1 N from z_upe]
        show ¬ (if _ then _ else _) < _
        split
        · exact fun z => absurd z (asy _ _ z)
        · assumption
      · rw [show ((z_up (z_gp N A E w n s).1 n (w n + z_gm (E n) (z_gp N A E w n s).1 N), if (z_gp N A E w n s).2 < w n + z_gm (E n) (z_gp N A E w n s).1 N then w n + z_gm (E n) (z_gp N A E w n s).1 N else (z_gp N A E w n s).2) : (Nat → Int32) × Int32).1 u = (z_gp N A E w n s).1 u from z_upn y]
        have ih := z_gp.mx n u (by omega) hA
        show ¬ (if _ then _ else _) < _
        split
        · rename_i z
          exact z_nlt ih (asy _ _ z)
        · exact ih
    · rw [if_neg q]
      exact z_gp.mx n u (by
        by_cases y : u = n
        · subst y; exact absurd hA q
        · omega) hA
theorem z_gp.same (h : ∀ u, u < c → A u = true → ¬ s.2 < (z_gp N A E w c s).1 u) : ∀ n, n ≤ c → (z_gp N A E w n s).2 = s.2
  | 0, _ => rfl
  | n + 1, hn => by
    have ih := z_gp.same h n (by omega)
    rw [z_gp, z_gs]
    by_cases q : A n = true
    · rw [if_pos q]
      have := h n (by omega) q
      rw [z_gp.at q c (by omega)] at this
      show (if (z_gp N A E w n s).2 < _ then _ else (z_gp N A E w n s).2) = _
      rw [ih, if_neg this]
    · rw [if_neg q]; exact ih
theorem z_gRg (an : Nat → Nat) (hE : ∀ u v, u < c → v < c → A u = true → E u v = true → an v < an u) (ha : ∀ u, u < c → an u < c) (h1 : 1 ≤ c) : ∀ r, c ≤ r → (z_gR c c A E w T0 (r + 1)).2 = (z_gR c c A E w T0 r).2 := fun r hr => by
  rw [z_gR]
  refine z_gp.same (fun u hu q => ?_) c (Nat.le_refl _)
  have e := z_gRs (A := A) (w := w) (T0 := T0) an hE (an u) u (Nat.le_refl _) hu r (by have := ha u hu; omega)
  rw [z_gR] at e
  rw [e]
  obtain ⟨r, rfl⟩ : ∃ z, r = z + 1 := ⟨r - 1, by omega⟩
  exact z_gp.mx c u hu q
theorem z_gRe (an : Nat → Nat) (hE : ∀ u v, u < c → v < c → A u = true → E u v = true → an v < an u) (ha : ∀ u, u < c → an u < c) (h1 : 1 ≤ c) : ∀ d, (z_gR c c A E w T0 (c + d)).2 = (z_gR c c A E w T0 c).2
  | 0 => rfl
  | d + 1 => (z_gRg an hE ha h1 (c + d) (by omega)).trans (z_gRe an hE ha h1 d)
theorem z_gs.eq (hA : A i = A' i) (hw : A i = true → w i = w' i) (hm : A i = true → ∀ v, v < c → E i v = E' i v) (hs : z_sq c s s') : z_sq c (z_gs c A E w i s) (z_gs c A' E' w' i s') := by
  unfold z_gs
  rw [← hA]
  by_cases q : A i = true
  · rw [if_pos q, if_pos q, ← hw q, ← z_gm.eq c (hm q) (fun v hv _ => hs.1 v hv), ← hs.2]
    refine ⟨fun u hu => ?_, rfl⟩
    show z_up _ _ _ _ = z_up _ _ _ _
    unfold z_up
    rw [hs.1 u hu]
  · rw [if_neg q, if_neg q]; exact hs
theorem z_gp.eq (hA : ∀ i, i < c → A i = A' i) (hw : ∀ i, i < c → A i = true → w i = w' i) (hm : ∀ i, i < c → A i = true → ∀ v, v < c → E i v = E' i v) (hs : z_sq c s s') : ∀ n, n ≤ c → z_sq c (z_gp c A E w n s) (z_gp c A' E' w' n s')
  | 0, _ => hs
  | n + 1, hn => z_gs.eq (hA n (by omega)) (hw n (by omega)) (hm n (by omega)) (z_gp.eq hA hw hm hs n (by omega))
theorem z_gR.eq (hA : ∀ i, i < c → A i = A' i) (hw : ∀ i, i < c → A i = true → w i = w' i) (hm : ∀ i, i < c → A i = true → ∀ v, v < c → E i v = E' i v) (hT : ∀ u, u < c → T0 u = T1 u) : ∀ r, z_sq c (z_gR c c A E w T0 r) (z_gR c c A' E' w' T1 r)
  | 0 => ⟨hT, rfl⟩
  | r + 1 => z_gp.eq hA hw hm (z_gR.eq hA hw hm hT r) c (Nat.le_refl _)
theorem z_gp.cut (hA : ∀ i, c ≤ i → A i = false) : ∀ n, c ≤ n → z_gp N A E w n s = z_gp N A E w c s
  | 0, h => by rw [show c = 0 by omega]
  | n + 1, h => by
    by_cases q : c = n + 1
    · rw [q]
    · rw [z_gp, z_gs, hA n (by omega), if_neg (by decide)]; exact z_gp.cut hA n (by omega)
theorem z_gp.cut2 (hE : ∀ i v, c ≤ v → E i v = false) (hN : c ≤ N) : ∀ n, z_gp N A E w n s = z_gp c A E w n s
  | 0 => rfl
  | n + 1 => by rw [z_gp, z_gp, z_gs, z_gs, z_gp.cut2 hE hN n, z_gm.cut (hE n) N hN]
theorem z_gR.cut (hA : ∀ i, c ≤ i → A i = false) (hE : ∀ i v, c ≤ v → E i v = false) (hN : c ≤ N) : ∀ r, z_gR N N A E w T0 r = z_gR c c A E w T0 r
  | 0 => rfl
  | r + 1 => by rw [z_gR, z_gR, z_gR.cut hA hE hN r, z_gp.cut hA N hN, z_gp.cut2 hE hN]
/-! how many are ahead -/
theorem z_cn.ms {g g' : Nat → Bool} (h : ∀ i, i < n → g i = true → g' i = true) {x : Nat} : ∀ m, m ≤ n → z_cn g m ≤ z_cn g' m ∧ (x < m → g x = false → g' x = true → z_cn g m < z_cn g' m)
  | 0, _ => ⟨Nat.le_refl _, fun z => absurd z (by omega)⟩
  | m + 1, hm => by
    obtain ⟨a, b⟩ := z_cn.ms h m (by omega) (x := x)
    have := h m (by omega)
    unfold z_cn
    refine ⟨?_, fun h1 h2 h3 => ?_⟩
    · cases q : g m
      · simp only [Bool.false_eq_true, if_false]; split <;> omega
      · rw [this q]; simp only [if_true]; omega
    · by_cases y : x = m
      · subst y; rw [h2, h3]; simp only [Bool.false_eq_true, if_false, if_true]; omega
      · have := b (by omega) h2 h3
        cases q : g m
        · simp only [Bool.false_eq_true, if_false]; split <;> omega
        · rw [‹g m = true → g' m = true› q]; simp only [if_true]; omega
theorem z_cn.all : ∀ n, z_cn (fun _ => true) n = n
  | 0 => rfl
  | n + 1 => by unfold z_cn; rw [z_cn.all n]; rfl
theorem z_anc {F : Nat → Nat → Prop} (hF : ∀ x, x < c → ¬ z_tc F x x) : ∃ an : Nat → Nat, (∀ u v, u < c → v < c → F v u → an v < an u) ∧ ∀ u, u < c → an u < c := by
  classical
  refine ⟨fun u => z_cn (fun v => decide (z_tc F v u)) c, fun u v hu hv h => ?_, fun u hu => ?_⟩
  · refine (z_cn.ms (n := c) (x := v) (fun i _ q => ?_) c (Nat.le_refl _)).2 hv ?_ ?_
    · rw [decide_eq_true_eq] at q ⊢; exact q.tr (z_tc.one h)
    · exact decide_eq_false (hF v hv)
    · exact decide_eq_true (z_tc.one h)
  · have := (z_cn.ms (n := c) (x := u) (g := fun v => decide (z_tc F v u)) (g' := fun _ => true) (fun _ _ _ => rfl) c (Nat.le_refl _)).2 hu (decide_eq_false (hF u hu)) rfl
    rwa [z_cn.all] at this
end ZK1
section ZK2
variable {k c t B x b u s n i : Nat} {M m : ux_M} {T T0 : Nat → Int32} {y v : Int32}
theorem z_tt_g : z_tt M k s T k s 0 i = T i := by unfold z_tt; rw [if_pos ⟨rfl, rfl, rfl⟩]
theorem z_tt_o {a b' c' d : Nat} (h : ¬ b' = s) : z_tt M k s T a b' c' d = M a b' c' d := by unfold z_tt; rw [if_neg (fun z => h z.2.1)]
theorem z_tt_set : ux_set (z_tt M k s T) k s 0 i v = z_tt M k s (z_up T i v) := by
  funext a b c d; rw [z_set]; unfold z_tt z_up
  by_cases q : a = k ∧ b = s ∧ c = 0
  · obtain ⟨rfl, rfl, rfl⟩ := q; simp
  · rw [if_neg q, if_neg q, if_neg (fun z => q ⟨z.1, z.2.1, z.2.2.1⟩)]
theorem z_tt_self (M : ux_M) (k s : Nat) : z_tt M k s (M k s 0) = M := by
  funext a b c d; unfold z_tt
  by_cases q : a = k ∧ b = s ∧ c = 0
  · obtain ⟨rfl, rfl, rfl⟩ := q; simp
  · rw [if_neg q]
theorem z_107l (M : ux_M) (k : Nat) (T : Nat → Int32) (y : Int32) : ∀ n f i, i + n = 16 → n < f → p_107_4 f k y (z_gm (bt y) T i) (nI i) (z_tt M k 311425 T) ∧ r_107_4 f k y (z_gm (bt y) T i) (nI i) (z_tt M k 311425 T) = z_gm (bt y) T 16 := by
  intro n
  induction n with
  | zero =>
    intro f i hi hf
    obtain ⟨f, rfl⟩ : ∃ z, f = z + 1 := ⟨f - 1, by omega⟩
    have hle : (16 : Int32) ≤ nI i := (z_le (a := 16) (by omega) (by omega)).mpr (by omega)
    rw [p_107_4, r_107_4, if_pos hle, show i = 16 by omega]
    exact ⟨⟨fun _ => trivial, fun z => absurd (by rw [show i = 16 by omega] at hle; exact hle) z⟩, rfl⟩
  | succ n ih =>
    intro f i hi hf
    obtain ⟨f, rfl⟩ : ∃ z, f = z + 1 := ⟨f - 1, by omega⟩
    have i16 : i < 16 := by omega
    have i32 : i < 32 := by omega
    have hle : ¬ (16 : Int32) ≤ nI i := fun z => by have := (z_le (a := 16) (by omega) (by omega)).mp z; omega
    obtain ⟨a1, a2⟩ := ih f (i + 1) (by omega) (by omega)
    rw [p_107_4, r_107_4, if_neg hle]
    simp only [z_shr _ i32, z_cl i16, z_nx, z_tt_g]
    rw [z_gm] at a1 a2
    cases e : bt y i
    · rw [e, if_neg (by decide)] at a1 a2
      rw [if_pos rfl]
      exact ⟨⟨fun z => absurd z hle, fun _ => ⟨fun _ => a1, fun z => absurd rfl z⟩⟩, a2⟩
    · rw [e, if_pos rfl] at a1 a2
      rw [if_neg (show ¬ (true = false) by decide)]
      exact ⟨⟨fun z => absurd z hle, fun _ => ⟨fun z => absurd z (by decide), fun _ => ⟨z_i16 i16, a1⟩⟩⟩, a2⟩
theorem z_107 (M : ux_M) (k : Nat) (T : Nat → Int32) (y : Int32) : p_107 k y (z_tt M k 311425 T) ∧ r_107 k y (z_tt M k 311425 T) = z_gm (bt y) T 16 := z_107l M k T y 16 ux_fuel 0 (by omega) (by have := z_fuel; omega)
def z_cE (M : ux_M) (k : Nat) (y : Int32) (u v : Nat) : Bool := bt (M k 278657 0 u &&& y) v
theorem z_106l (M : ux_M) (k : Nat) (y : Int32) (kp : Nat → Int32 → Int32 → Int32 → ux_M → Prop) (kr : Nat → Int32 → Int32 → Int32 → ux_M → Int32) (km : Nat → Int32 → Int32 → Int32 → ux_M → ux_M) (x3 : Int32) (s0 : (Nat → Int32) × Int32) (S : Nat → (Nat → Int32) × Int32)
    (hS : ∀ i, S i = z_gp 16 (bt y) (z_cE M k y) (M k 295041 0) i s0) : ∀ n f i, i + n = 16 → n < f →
    (kp k y (S 16).2 (x3 + 1) (z_tt M k 311425 (S 16).1) → p_106_34 kp f k y (S i).2 x3 (nI i) (z_tt M k 311425 (S i).1))
    ∧ r_106_34 kr f k y (S i).2 x3 (nI i) (z_tt M k 311425 (S i).1) = kr k y (S 16).2 (x3 + 1) (z_tt M k 311425 (S 16).1)
    ∧ m_106_34 km f k y (S i).2 x3 (nI i) (z_tt M k 311425 (S i).1) = km k y (S 16).2 (x3 + 1) (z_tt M k 311425 (S 16).1) := by
  intro n
  induction n with
  | zero =>
    intro f i hi hf
    obtain ⟨f, rfl⟩ : ∃ z, f = z + 1 := ⟨f - 1, by omega⟩
    obtain rfl : i = 16 := by omega
    have hle : (16 : Int32) ≤ nI 16 := (z_le (a := 16) (by omega) (by omega)).mpr (by omega)
    rw [p_106_34, r_106_34, m_106_34, if_pos hle, if_pos hle]
    exact ⟨fun q => ⟨fun _ => q, fun z => absurd hle z⟩, rfl, rfl⟩
  | succ n ih =>
    intro f i hi hf
    obtain ⟨f, rfl⟩ : ∃ z, f = z + 1 := ⟨f - 1, by omega⟩
    have i16 : i < 16 := by omega
    have i32 : i < 32 := by omega
    have hle : ¬ (16 : Int32) ≤ nI i := fun z => by have := (z_le (a := 16) (by omega) (by omega)).mp z; omega
    obtain ⟨a1, a2, a3⟩ := ih f (i + 1) (by omega) (by omega)
    obtain ⟨b1, b2⟩ := z_107 M k (S i).1 (M k 278657 0 i &&& y)
    have e1 : S (i + 1) = z_gs 16 (bt y) (z_cE M k y) (M k 295041 0) i (S i) := by rw [hS, hS, z_gp]
    rw [p_106_34, r_106_34, m_106_34, if_neg hle, if_neg hle]
    simp only [z_shr _ i32, z_cl i16, z_nx, z_tt_o (show ¬ 278657 = 311425 by decide), z_tt_o (show ¬ 295041 = 311425 by decide), b2, z_tt_set, z_tt_g, z_upe, forall_eq]
    rw [e1] at a1 a2 a3
    unfold z_gs at a1 a2 a3
    cases e : bt y i
    · rw [e, if_neg (by decide)] at a1 a2 a3
      rw [if_pos rfl, if_pos rfl]
      exact ⟨fun q => ⟨fun z => absurd z hle, fun _ => ⟨fun _ => a1 q, fun z => absurd rfl z⟩⟩, a2, a3⟩
    · rw [e, if_pos rfl] at a1 a2 a3
      rw [if_neg (show ¬ (true = false) by decide), if_neg (show ¬ (true = false) by decide)]
      exact ⟨fun q => ⟨fun z => absurd z hle, fun _ => ⟨fun z => absurd z (by decide), fun _ => ⟨z_i16 i16, z_i16 i16, b1, z_i16 i16, z_i16 i16, a1 q⟩⟩⟩, a2, a3⟩
theorem z_106r (M : ux_M) (k : Nat) (y : Int32) (T0 : Nat → Int32) (R : Nat → (Nat → Int32) × Int32) (hR : ∀ r, R r = z_gR 16 16 (bt y) (z_cE M k y) (M k 295041 0) T0 r) : ∀ n f r, r + n = 16 → n < f →
    p_106_25 f k y (R r).2 (nI r) (z_tt M k 311425 (R r).1) ∧ r_106_25 f k y (R r).2 (nI r) (z_tt M k 311425 (R r).1) = (R 16).2 ∧ m_106_25 f k y (R r).2 (nI r) (z_tt M k 311425 (R r).1) = z_tt M k 311425 (R 16).1 := by
  intro n
  induction n with
  | zero =>
    intro f r hi hf
    obtain ⟨f, rfl⟩ : ∃ z, f = z + 1 := ⟨f - 1, by omega⟩
    obtain rfl : r = 16 := by omega
    have hle : (16 : Int32) ≤ nI 16 := (z_le (a := 16) (by omega) (by omega)).mpr (by omega)
    rw [p_106_25, r_106_25, m_106_25, if_pos hle, if_pos hle]
    exact ⟨⟨fun _ => trivial, fun z => absurd hle z⟩, rfl, rfl⟩
  | succ n ih =>
    intro f r hi hf
    obtain ⟨f, rfl⟩ : ∃ z, f = z + 1 := ⟨f - 1, by omega⟩
    have hle : ¬ (16 : Int32) ≤ nI r := fun z => by have := (z_le (a := 16) (by omega) (by omega)).mp z; omega
    obtain ⟨a1, a2, a3⟩ := ih f (r + 1) (by omega) (by omega)
    obtain ⟨b1, b2, b3⟩ := z_106l M k y (fun a0 a1 a2 a3 a4 => p_106_25 f a0 a1 a2 a3 a4) (fun a0 a1 a2 a3 a4 => r_106_25 f a0 a1 a2 a3 a4) (fun a0 a1 a2 a3 a4 => m_106_25 f a0 a1 a2 a3 a4) (nI r) (R r) (fun i => z_gp 16 (bt y) (z_cE M k y) (M k 295041 0) i (R r)) (fun _ => rfl) 16 ux_fuel 0 (by omega) (by have := z_fuel; omega)
    have e1 : R (r + 1) = z_gp 16 (bt y) (z_cE M k y) (M k 295041 0) 16 (R r) := by rw [hR, hR, z_gR]
    rw [← e1] at b1 b2 b3
    rw [z_nx] at b1 b2 b3
    rw [p_106_25, r_106_25, m_106_25, if_neg hle, if_neg hle]
    exact ⟨⟨fun z => absurd z hle, fun _ => b1 a1⟩, b2.trans a2, b3.trans a3⟩
theorem z_106z (M : ux_M) (k : Nat) (y : Int32) : ∀ n f i (T : Nat → Int32), i + n = 16 → n < f → (∀ d, d < i → T d = 0) → ∃ T0 T1 : Nat → Int32, (∀ d, d < 16 → T0 d = 0) ∧ p_106_2 f k y (nI i) (z_tt M k 311425 T)
    ∧ r_106_2 f k y (nI i) (z_tt M k 311425 T) = (z_gR 16 16 (bt y) (z_cE M k y) (M k 295041 0) T0 16).2 ∧ m_106_2 f k y (nI i) (z_tt M k 311425 T) = z_tt M k 311425 T1 := by
  intro n
  induction n with
  | zero =>
    intro f i T hi hf hT
    obtain ⟨f, rfl⟩ : ∃ z, f = z + 1 := ⟨f - 1, by omega⟩
    have hle : (16 : Int32) ≤ nI i := (z_le (a := 16) (by omega) (by omega)).mpr (by omega)
    obtain ⟨b1, b2, b3⟩ := z_106r M k y T (fun r => z_gR 16 16 (bt y) (z_cE M k y) (M k 295041 0) T r) (fun _ => rfl) 16 ux_fuel 0 (by omega) (by have := z_fuel; omega)
    rw [p_106_2, r_106_2, m_106_2, if_pos hle, if_pos hle]
    exact ⟨T, _, fun d hd => hT d (by omega), ⟨fun _ => b1, fun z => absurd hle z⟩, b2, b3⟩
  | succ n ih =>
    intro f i T hi hf hT
    obtain ⟨f, rfl⟩ : ∃ z, f = z + 1 := ⟨f - 1, by omega⟩
    have i16 : i < 16 := by omega
    have hle : ¬ (16 : Int32) ≤ nI i := fun z => by have := (z_le (a := 16) (by omega) (by omega)).mp z; omega
    obtain ⟨T0, T1, a0, a1, a2, a3⟩ := ih f (i + 1) (z_up T i 0) (by omega) (by omega) (fun d hd => by
      by_cases q : d = i
      · subst q; exact z_upe
      · rw [z_upn q]; exact hT d (by omega))
    rw [p_106_2, r_106_2, m_106_2, if_neg hle, if_neg hle]
    simp only [z_cl i16, z_nx, z_tt_set, forall_eq]
    exact ⟨T0, T1, a0, ⟨fun z => absurd z hle, fun _ => ⟨z_i16 i16, a1⟩⟩, a2, a3⟩
theorem z_106 (M : ux_M) (k : Nat) (y : Int32) : ∃ T0 T1 : Nat → Int32, (∀ d, d < 16 → T0 d = 0) ∧ p_106 k y M ∧ r_106 k y M = (z_gR 16 16 (bt y) (z_cE M k y) (M k 295041 0) T0 16).2 ∧ m_106 k y M = z_tt M k 311425 T1 := by
  have h := z_106z M k y 16 ux_fuel 0 (M k 311425 0) (by omega) (by have := z_fuel; omega) (fun d hd => absurd hd (by omega))
  rw [z_tt_self] at h
  exact h
theorem z_105 (M : ux_M) (k : Nat) : ∀ n f i (W : Nat → Int32), i + n = 16 → n < f → (∀ d, d < i → W d = 1) → ∃ W1 : Nat → Int32, (∀ d, d < 16 → W1 d = 1) ∧ (p_106 k ((M k 32805 0 0) ||| (M k 32805 0 2)) (z_tt M k 295041 W1) → p_105_2 f k (nI i) (z_tt M k 295041 W))
    ∧ r_105_2 f k (nI i) (z_tt M k 295041 W) = r_106 k ((M k 32805 0 0) ||| (M k 32805 0 2)) (z_tt M k 295041 W1) ∧ m_105_2 f k (nI i) (z_tt M k 295041 W) = m_106 k ((M k 32805 0 0) ||| (M k 32805 0 2)) (z_tt M k 295041 W1) := by
  intro n
  induction n with
  | zero =>
    intro f i W hi hf hT
    obtain ⟨f, rfl⟩ : ∃ z, f = z + 1 := ⟨f - 1, by omega⟩
    have hle : (16 : Int32) ≤ nI i := (z_le (a := 16) (by omega) (by omega)).mpr (by omega)
    rw [p_105_2, r_105_2, m_105_2, if_pos hle, if_pos hle, z_tt_o (by decide), z_tt_o (by decide)]
    exact ⟨W, fun d hd => hT d (by omega), fun q => ⟨fun _ => q, fun z => absurd hle z⟩, rfl, rfl⟩
  | succ n ih =>
    intro f i W hi hf hT
    obtain ⟨f, rfl⟩ : ∃ z, f = z + 1 := ⟨f - 1, by omega⟩
    have i16 : i < 16 := by omega
    have hle : ¬ (16 : Int32) ≤ nI i := fun z => by have := (z_le (a := 16) (by omega) (by omega)).mp z; omega
    obtain ⟨W1, a0, a1, a2, a3⟩ := ih f (i + 1) (z_up W i 1) (by omega) (by omega) (fun d hd => by
      by_cases q : d = i
      · subst q; exact z_upe
      · rw [z_upn q]; exact hT d (by omega))
    rw [p_105_2, r_105_2, m_105_2, if_neg hle, if_neg hle]
    simp only [z_cl i16, z_nx, z_tt_set, forall_eq]
    exact ⟨W1, a0, fun q => ⟨fun z => absurd z hle, fun _ => ⟨z_i16 i16, a1 q⟩⟩, a2, a3⟩
def z_wC (M : ux_M) (k d : Nat) : Int32 := if M k 360577 0 d = 0 then M k 410881 0 (d * 10) else 0
theorem z_142 (M : ux_M) (k : Nat) : ∀ n f i (W : Nat → Int32), i + n = 16 → n < f → (∀ d, d < i → W d = z_wC M k d) → ∃ W1 : Nat → Int32, (∀ d, d < 16 → W1 d = z_wC M k d) ∧ (p_106 k (M k 32805 0 0) (z_tt M k 295041 W1) → p_142_2 f k (nI i) (z_tt M k 295041 W))
    ∧ r_142_2 f k (nI i) (z_tt M k 295041 W) = r_106 k (M k 32805 0 0) (z_tt M k 295041 W1) ∧ m_142_2 f k (nI i) (z_tt M k 295041 W) = m_106 k (M k 32805 0 0) (z_tt M k 295041 W1) := by
  intro n
  induction n with
  | zero =>
    intro f i W hi hf hT
    obtain ⟨f, rfl⟩ : ∃ z, f = z + 1 := ⟨f - 1, by omega⟩
    have hle : (16 : Int32) ≤ nI i := (z_le (a := 16) (by omega) (by omega)).mpr (by omega)
    rw [p_142_2, r_142_2, m_142_2, if_pos hle, if_pos hle, z_tt_o (by decide)]
    exact ⟨W, fun d hd => hT d (by omega), fun q => ⟨fun _ => q, fun z => absurd hle z⟩, rfl, rfl⟩
  | succ n ih =>
    intro f i W hi hf hT
    obtain ⟨f, rfl⟩ : ∃ z, f = z + 1 := ⟨f - 1, by omega⟩
    have i16 : i < 16 := by omega
    have hle : ¬ (16 : Int32) ≤ nI i := fun z => by have := (z_le (a := 16) (by omega) (by omega)).mp z; omega
    obtain ⟨W1, a0, a1, a2, a3⟩ := ih f (i + 1) (z_up W i (z_wC M k i)) (by omega) (by omega) (fun d hd => by
      by_cases q : d = i
      · subst q; exact z_upe
      · rw [z_upn q]; exact hT d (by omega))
    rw [p_142_2, r_142_2, m_142_2, if_neg hle, if_neg hle]
    simp only [z_cl i16, z_nx, z_tt_set, forall_eq, z_tt_o (show ¬ 360577 = 295041 by decide), z_tt_o (show ¬ 410881 = 295041 by decide), pr0 i16, if_pos (show (0 : Int32) = 0 from rfl), if_neg (show ¬ (1 : Int32) = 0 by decide), Nat.add_zero]
    by_cases q : M k 360577 0 i = 0
    · have e : z_wC M k i = M k 410881 0 (i * 10) := if_pos q
      rw [e] at a1 a2 a3
      rw [if_pos q, if_pos q]
      exact ⟨W1, a0, fun z => ⟨fun y => absurd y hle, fun _ => ⟨z_i16 i16, fun y => absurd q y, fun _ => ⟨fun y => absurd y (by decide), fun _ => ⟨pv0 i16, z_i16 i16, a1 z⟩⟩⟩⟩, a2, a3⟩
    · have e : z_wC M k i = 0 := if_neg q
      rw [e] at a1 a2 a3
      rw [if_neg q, if_neg q]
      exact ⟨W1, a0, fun z => ⟨fun y => absurd y hle, fun _ => ⟨z_i16 i16, fun _ => ⟨fun _ => ⟨z_i16 i16, a1 z⟩, fun y => absurd trivial y⟩, fun y => absurd y q⟩⟩, a2, a3⟩
end ZK2
