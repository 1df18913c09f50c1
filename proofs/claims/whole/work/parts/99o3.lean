section ZY2
variable {M : ux_M}
theorem z_173al (M : ux_M) : ∀ (n f i : Nat) (T : Nat → Int32), i + n = 1084 → n < f → p_173a_2 f (nI i) (z_tt M 5 860641 T) ∧ m_173a_2 f (nI i) (z_tt M 5 860641 T) = z_tt M 5 860641 (fun d => if i ≤ d ∧ d < 1084 then M 5 844257 0 d else T d) := by
  intro n
  induction n with
  | zero =>
    intro f i T hi hf
    obtain ⟨f, rfl⟩ : ∃ z, f = z + 1 := ⟨f - 1, by omega⟩
    have hle : (1084 : Int32) ≤ nI i := (z_le (a := 1084) (by omega) (by omega)).mpr (by omega)
    rw [p_173a_2, m_173a_2, if_pos hle]
    refine ⟨⟨fun _ => trivial, fun z => absurd hle z⟩, ?_⟩
    congr 1; funext d; rw [if_neg (by omega)]
  | succ n ih =>
    intro f i T hi hf
    obtain ⟨f, rfl⟩ : ∃ z, f = z + 1 := ⟨f - 1, by omega⟩
    have hle : ¬ (1084 : Int32) ≤ nI i := fun z => by have := (z_le (a := 1084) (by omega) (by omega)).mp z; omega
    have vi : vp_in (nI i) 1084 := vp_in_nI (by omega) (by omega)
    obtain ⟨a1, a2⟩ := ih f (i + 1) (z_up T i (M 5 844257 0 i)) (by omega) (by omega)
    rw [p_173a_2, m_173a_2, if_neg hle]
    simp only [z_cls (show i < 2000000000 by omega), z_nx, z_tt_o (show ¬ 844257 = 860641 by decide), z_tt_set, forall_eq]
    refine ⟨⟨fun z => absurd z hle, fun _ => ⟨vi, vi, a1⟩⟩, a2.trans ?_⟩
    congr 1; funext d
    by_cases q : d = i
    · subst q; rw [if_neg (by omega), if_pos (by omega), z_upe]
    · rw [z_upn q]
      by_cases y : i + 1 ≤ d ∧ d < 1084
      · rw [if_pos y, if_pos (by omega)]
      · rw [if_neg y, if_neg (by omega)]
theorem z_173a (M : ux_M) : p_173a M ∧ m_173a M = z_tt M 5 860641 (fun d => if d < 1084 then M 5 844257 0 d else M 5 860641 0 d) := by
  obtain ⟨a1, a2⟩ := z_173al M 1084 ux_fuel 0 (M 5 860641 0) (by omega) (by have := z_fuel; omega)
  rw [z_tt_self] at a1 a2
  refine ⟨a1, a2.trans ?_⟩
  congr 1; funext d
  by_cases q : d < 1084
  · rw [if_pos q, if_pos ⟨Nat.zero_le _, q⟩]
  · rw [if_neg q, if_neg (fun z => q z.2)]
theorem z_173bl (M : ux_M) : ∀ (n f i : Nat) (T : Nat → Int32), i + n = 1084 → n < f → p_173b_2 f (nI i) (z_tt M 5 844257 T) ∧ m_173b_2 f (nI i) (z_tt M 5 844257 T) = z_tt M 5 844257 (fun d => if i ≤ d ∧ d < 1084 then M 5 860641 0 d else T d) := by
  intro n
  induction n with
  | zero =>
    intro f i T hi hf
    obtain ⟨f, rfl⟩ : ∃ z, f = z + 1 := ⟨f - 1, by omega⟩
    have hle : (1084 : Int32) ≤ nI i := (z_le (a := 1084) (by omega) (by omega)).mpr (by omega)
    rw [p_173b_2, m_173b_2, if_pos hle]
    refine ⟨⟨fun _ => trivial, fun z => absurd hle z⟩, ?_⟩
    congr 1; funext d; rw [if_neg (by omega)]
  | succ n ih =>
    intro f i T hi hf
    obtain ⟨f, rfl⟩ : ∃ z, f = z + 1 := ⟨f - 1, by omega⟩
    have hle : ¬ (1084 : Int32) ≤ nI i := fun z => by have := (z_le (a := 1084) (by omega) (by omega)).mp z; omega
    have vi : vp_in (nI i) 1084 := vp_in_nI (by omega) (by omega)
    obtain ⟨a1, a2⟩ := ih f (i + 1) (z_up T i (M 5 860641 0 i)) (by omega) (by omega)
    rw [p_173b_2, m_173b_2, if_neg hle]
    simp only [z_cls (show i < 2000000000 by omega), z_nx, z_tt_o (show ¬ 860641 = 844257 by decide), z_tt_set, forall_eq]
    refine ⟨⟨fun z => absurd z hle, fun _ => ⟨vi, vi, a1⟩⟩, a2.trans ?_⟩
    congr 1; funext d
    by_cases q : d = i
    · subst q; rw [if_neg (by omega), if_pos (by omega), z_upe]
    · rw [z_upn q]
      by_cases y : i + 1 ≤ d ∧ d < 1084
      · rw [if_pos y, if_pos (by omega)]
      · rw [if_neg y, if_neg (by omega)]
theorem z_173b (M : ux_M) : p_173b M ∧ m_173b M = z_tt M 5 844257 (fun d => if d < 1084 then M 5 860641 0 d else M 5 844257 0 d) := by
  obtain ⟨a1, a2⟩ := z_173bl M 1084 ux_fuel 0 (M 5 844257 0) (by omega) (by have := z_fuel; omega)
  rw [z_tt_self] at a1 a2
  refine ⟨a1, a2.trans ?_⟩
  congr 1; funext d
  by_cases q : d < 1084
  · rw [if_pos q, if_pos ⟨Nat.zero_le _, q⟩]
  · rw [if_neg q, if_neg (fun z => q z.2)]
theorem z_173cl (M : ux_M) : ∀ (n f i : Nat) (T : Nat → Int32), i + n = 1084 → n < f → p_173c_2 f (nI i) (z_tt M 5 844257 T) ∧ m_173c_2 f (nI i) (z_tt M 5 844257 T) = z_tt M 5 844257 (fun d => if i ≤ d ∧ d < 1084 then M 5 877025 0 d else T d) := by
  intro n
  induction n with
  | zero =>
    intro f i T hi hf
    obtain ⟨f, rfl⟩ : ∃ z, f = z + 1 := ⟨f - 1, by omega⟩
    have hle : (1084 : Int32) ≤ nI i := (z_le (a := 1084) (by omega) (by omega)).mpr (by omega)
    rw [p_173c_2, m_173c_2, if_pos hle]
    refine ⟨⟨fun _ => trivial, fun z => absurd hle z⟩, ?_⟩
    congr 1; funext d; rw [if_neg (by omega)]
  | succ n ih =>
    intro f i T hi hf
    obtain ⟨f, rfl⟩ : ∃ z, f = z + 1 := ⟨f - 1, by omega⟩
    have hle : ¬ (1084 : Int32) ≤ nI i := fun z => by have := (z_le (a := 1084) (by omega) (by omega)).mp z; omega
    have vi : vp_in (nI i) 1084 := vp_in_nI (by omega) (by omega)
    obtain ⟨a1, a2⟩ := ih f (i + 1) (z_up T i (M 5 877025 0 i)) (by omega) (by omega)
    rw [p_173c_2, m_173c_2, if_neg hle]
    simp only [z_cls (show i < 2000000000 by omega), z_nx, z_tt_o (show ¬ 877025 = 844257 by decide), z_tt_set, forall_eq]
    refine ⟨⟨fun z => absurd z hle, fun _ => ⟨vi, vi, a1⟩⟩, a2.trans ?_⟩
    congr 1; funext d
    by_cases q : d = i
    · subst q; rw [if_neg (by omega), if_pos (by omega), z_upe]
    · rw [z_upn q]
      by_cases y : i + 1 ≤ d ∧ d < 1084
      · rw [if_pos y, if_pos (by omega)]
      · rw [if_neg y, if_neg (by omega)]
theorem z_173c (M : ux_M) : p_173c M ∧ m_173c M = z_tt M 5 844257 (fun d => if d < 1084 then M 5 877025 0 d else M 5 844257 0 d) := by
  obtain ⟨a1, a2⟩ := z_173cl M 1084 ux_fuel 0 (M 5 844257 0) (by omega) (by have := z_fuel; omega)
  rw [z_tt_self] at a1 a2
  refine ⟨a1, a2.trans ?_⟩
  congr 1; funext d
  by_cases q : d < 1084
  · rw [if_pos q, if_pos ⟨Nat.zero_le _, q⟩]
  · rw [if_neg q, if_neg (fun z => q z.2)]
theorem z_173dl (M : ux_M) : ∀ (n f i : Nat) (T : Nat → Int32), i + n = 1084 → n < f → p_173d_2 f (nI i) (z_tt M 5 893409 T) ∧ m_173d_2 f (nI i) (z_tt M 5 893409 T) = z_tt M 5 893409 (fun d => if i ≤ d ∧ d < 1084 then M 5 844257 0 d else T d) := by
  intro n
  induction n with
  | zero =>
    intro f i T hi hf
    obtain ⟨f, rfl⟩ : ∃ z, f = z + 1 := ⟨f - 1, by omega⟩
    have hle : (1084 : Int32) ≤ nI i := (z_le (a := 1084) (by omega) (by omega)).mpr (by omega)
    rw [p_173d_2, m_173d_2, if_pos hle]
    refine ⟨⟨fun _ => trivial, fun z => absurd hle z⟩, ?_⟩
    congr 1; funext d; rw [if_neg (by omega)]
  | succ n ih =>
    intro f i T hi hf
    obtain ⟨f, rfl⟩ : ∃ z, f = z + 1 := ⟨f - 1, by omega⟩
    have hle : ¬ (1084 : Int32) ≤ nI i := fun z => by have := (z_le (a := 1084) (by omega) (by omega)).mp z; omega
    have vi : vp_in (nI i) 1084 := vp_in_nI (by omega) (by omega)
    obtain ⟨a1, a2⟩ := ih f (i + 1) (z_up T i (M 5 844257 0 i)) (by omega) (by omega)
    rw [p_173d_2, m_173d_2, if_neg hle]
    simp only [z_cls (show i < 2000000000 by omega), z_nx, z_tt_o (show ¬ 844257 = 893409 by decide), z_tt_set, forall_eq]
    refine ⟨⟨fun z => absurd z hle, fun _ => ⟨vi, vi, a1⟩⟩, a2.trans ?_⟩
    congr 1; funext d
    by_cases q : d = i
    · subst q; rw [if_neg (by omega), if_pos (by omega), z_upe]
    · rw [z_upn q]
      by_cases y : i + 1 ≤ d ∧ d < 1084
      · rw [if_pos y, if_pos (by omega)]
      · rw [if_neg y, if_neg (by omega)]
theorem z_173d (M : ux_M) : p_173d M ∧ m_173d M = z_tt M 5 893409 (fun d => if d < 1084 then M 5 844257 0 d else M 5 893409 0 d) := by
  obtain ⟨a1, a2⟩ := z_173dl M 1084 ux_fuel 0 (M 5 893409 0) (by omega) (by have := z_fuel; omega)
  rw [z_tt_self] at a1 a2
  refine ⟨a1, a2.trans ?_⟩
  congr 1; funext d
  by_cases q : d < 1084
  · rw [if_pos q, if_pos ⟨Nat.zero_le _, q⟩]
  · rw [if_neg q, if_neg (fun z => q z.2)]
theorem z_173el (M : ux_M) : ∀ (n f i : Nat) (T : Nat → Int32), i + n = 1084 → n < f → p_173e_2 f (nI i) (z_tt M 5 909793 T) ∧ m_173e_2 f (nI i) (z_tt M 5 909793 T) = z_tt M 5 909793 (fun d => if i ≤ d ∧ d < 1084 then M 5 844257 0 d else T d) := by
  intro n
  induction n with
  | zero =>
    intro f i T hi hf
    obtain ⟨f, rfl⟩ : ∃ z, f = z + 1 := ⟨f - 1, by omega⟩
    have hle : (1084 : Int32) ≤ nI i := (z_le (a := 1084) (by omega) (by omega)).mpr (by omega)
    rw [p_173e_2, m_173e_2, if_pos hle]
    refine ⟨⟨fun _ => trivial, fun z => absurd hle z⟩, ?_⟩
    congr 1; funext d; rw [if_neg (by omega)]
  | succ n ih =>
    intro f i T hi hf
    obtain ⟨f, rfl⟩ : ∃ z, f = z + 1 := ⟨f - 1, by omega⟩
    have hle : ¬ (1084 : Int32) ≤ nI i := fun z => by have := (z_le (a := 1084) (by omega) (by omega)).mp z; omega
    have vi : vp_in (nI i) 1084 := vp_in_nI (by omega) (by omega)
    obtain ⟨a1, a2⟩ := ih f (i + 1) (z_up T i (M 5 844257 0 i)) (by omega) (by omega)
    rw [p_173e_2, m_173e_2, if_neg hle]
    simp only [z_cls (show i < 2000000000 by omega), z_nx, z_tt_o (show ¬ 844257 = 909793 by decide), z_tt_set, forall_eq]
    refine ⟨⟨fun z => absurd z hle, fun _ => ⟨vi, vi, a1⟩⟩, a2.trans ?_⟩
    congr 1; funext d
    by_cases q : d = i
    · subst q; rw [if_neg (by omega), if_pos (by omega), z_upe]
    · rw [z_upn q]
      by_cases y : i + 1 ≤ d ∧ d < 1084
      · rw [if_pos y, if_pos (by omega)]
      · rw [if_neg y, if_neg (by omega)]
theorem z_173e (M : ux_M) : p_173e M ∧ m_173e M = z_tt M 5 909793 (fun d => if d < 1084 then M 5 844257 0 d else M 5 909793 0 d) := by
  obtain ⟨a1, a2⟩ := z_173el M 1084 ux_fuel 0 (M 5 909793 0) (by omega) (by have := z_fuel; omega)
  rw [z_tt_self] at a1 a2
  refine ⟨a1, a2.trans ?_⟩
  congr 1; funext d
  by_cases q : d < 1084
  · rw [if_pos q, if_pos ⟨Nat.zero_le _, q⟩]
  · rw [if_neg q, if_neg (fun z => q z.2)]
theorem z_173fl (M : ux_M) : ∀ (n f i : Nat) (T : Nat → Int32), i + n = 1084 → n < f → p_173f_2 f (nI i) (z_tt M 5 844257 T) ∧ m_173f_2 f (nI i) (z_tt M 5 844257 T) = z_tt M 5 844257 (fun d => if i ≤ d ∧ d < 1084 then M 5 893409 0 d else T d) := by
  intro n
  induction n with
  | zero =>
    intro f i T hi hf
    obtain ⟨f, rfl⟩ : ∃ z, f = z + 1 := ⟨f - 1, by omega⟩
    have hle : (1084 : Int32) ≤ nI i := (z_le (a := 1084) (by omega) (by omega)).mpr (by omega)
    rw [p_173f_2, m_173f_2, if_pos hle]
    refine ⟨⟨fun _ => trivial, fun z => absurd hle z⟩, ?_⟩
    congr 1; funext d; rw [if_neg (by omega)]
  | succ n ih =>
    intro f i T hi hf
    obtain ⟨f, rfl⟩ : ∃ z, f = z + 1 := ⟨f - 1, by omega⟩
    have hle : ¬ (1084 : Int32) ≤ nI i := fun z => by have := (z_le (a := 1084) (by omega) (by omega)).mp z; omega
    have vi : vp_in (nI i) 1084 := vp_in_nI (by omega) (by omega)
    obtain ⟨a1, a2⟩ := ih f (i + 1) (z_up T i (M 5 893409 0 i)) (by omega) (by omega)
    rw [p_173f_2, m_173f_2, if_neg hle]
    simp only [z_cls (show i < 2000000000 by omega), z_nx, z_tt_o (show ¬ 893409 = 844257 by decide), z_tt_set, forall_eq]
    refine ⟨⟨fun z => absurd z hle, fun _ => ⟨vi, vi, a1⟩⟩, a2.trans ?_⟩
    congr 1; funext d
    by_cases q : d = i
    · subst q; rw [if_neg (by omega), if_pos (by omega), z_upe]
    · rw [z_upn q]
      by_cases y : i + 1 ≤ d ∧ d < 1084
      · rw [if_pos y, if_pos (by omega)]
      · rw [if_neg y, if_neg (by omega)]
theorem z_173f (M : ux_M) : p_173f M ∧ m_173f M = z_tt M 5 844257 (fun d => if d < 1084 then M 5 893409 0 d else M 5 844257 0 d) := by
  obtain ⟨a1, a2⟩ := z_173fl M 1084 ux_fuel 0 (M 5 844257 0) (by omega) (by have := z_fuel; omega)
  rw [z_tt_self] at a1 a2
  refine ⟨a1, a2.trans ?_⟩
  congr 1; funext d
  by_cases q : d < 1084
  · rw [if_pos q, if_pos ⟨Nat.zero_le _, q⟩]
  · rw [if_neg q, if_neg (fun z => q z.2)]
theorem z_173gl (M : ux_M) : ∀ (n f i : Nat) (T : Nat → Int32), i + n = 1084 → n < f → p_173g_2 f (nI i) (z_tt M 5 844257 T) ∧ m_173g_2 f (nI i) (z_tt M 5 844257 T) = z_tt M 5 844257 (fun d => if i ≤ d ∧ d < 1084 then M 5 909793 0 d else T d) := by
  intro n
  induction n with
  | zero =>
    intro f i T hi hf
    obtain ⟨f, rfl⟩ : ∃ z, f = z + 1 := ⟨f - 1, by omega⟩
    have hle : (1084 : Int32) ≤ nI i := (z_le (a := 1084) (by omega) (by omega)).mpr (by omega)
    rw [p_173g_2, m_173g_2, if_pos hle]
    refine ⟨⟨fun _ => trivial, fun z => absurd hle z⟩, ?_⟩
    congr 1; funext d; rw [if_neg (by omega)]
  | succ n ih =>
    intro f i T hi hf
    obtain ⟨f, rfl⟩ : ∃ z, f = z + 1 := ⟨f - 1, by omega⟩
    have hle : ¬ (1084 : Int32) ≤ nI i := fun z => by have := (z_le (a := 1084) (by omega) (by omega)).mp z; omega
    have vi : vp_in (nI i) 1084 := vp_in_nI (by omega) (by omega)
    obtain ⟨a1, a2⟩ := ih f (i + 1) (z_up T i (M 5 909793 0 i)) (by omega) (by omega)
    rw [p_173g_2, m_173g_2, if_neg hle]
    simp only [z_cls (show i < 2000000000 by omega), z_nx, z_tt_o (show ¬ 909793 = 844257 by decide), z_tt_set, forall_eq]
    refine ⟨⟨fun z => absurd z hle, fun _ => ⟨vi, vi, a1⟩⟩, a2.trans ?_⟩
    congr 1; funext d
    by_cases q : d = i
    · subst q; rw [if_neg (by omega), if_pos (by omega), z_upe]
    · rw [z_upn q]
      by_cases y : i + 1 ≤ d ∧ d < 1084
      · rw [if_pos y, if_pos (by omega)]
      · rw [if_neg y, if_neg (by omega)]
theorem z_173g (M : ux_M) : p_173g M ∧ m_173g M = z_tt M 5 844257 (fun d => if d < 1084 then M 5 909793 0 d else M 5 844257 0 d) := by
  obtain ⟨a1, a2⟩ := z_173gl M 1084 ux_fuel 0 (M 5 844257 0) (by omega) (by have := z_fuel; omega)
  rw [z_tt_self] at a1 a2
  refine ⟨a1, a2.trans ?_⟩
  congr 1; funext d
  by_cases q : d < 1084
  · rw [if_pos q, if_pos ⟨Nat.zero_le _, q⟩]
  · rw [if_neg q, if_neg (fun z => q z.2)]
end ZY2
