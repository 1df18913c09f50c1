/-! WHERE THE READERS WRITE (by wip/whole/gen_fr3.py): z_gC the class's reader and its draft; z_gD the reference's row that is read -/
def z_cS (s : Nat) : Prop := s = 671757 ∨ (344085 ≤ s ∧ s < 600000)
def z_dS (s i : Nat) : Prop := s = 877025 ∨ (s = 819253 ∧ 9 ≤ i ∧ i ≤ 14)
def z_gC (k : Nat) (M M' : ux_M) : Prop := ∀ a s r i, ¬ (a = k ∧ z_cS s) → M' a s r i = M a s r i
def z_gD (M M' : ux_M) : Prop := ∀ a s r i, ¬ (a = 5 ∧ z_dS s i) → M' a s r i = M a s r i
theorem z_gC.rf {k : Nat} {M : ux_M} : z_gC k M M := fun _ _ _ _ _ => rfl
theorem z_gD.rf {M : ux_M} : z_gD M M := fun _ _ _ _ _ => rfl
theorem z_gC.tr {k : Nat} {M X Y : ux_M} (h : z_gC k M X) (h' : z_gC k X Y) : z_gC k M Y := fun a s r i q => (h' a s r i q).trans (h a s r i q)
theorem z_gD.tr {M X Y : ux_M} (h : z_gD M X) (h' : z_gD X Y) : z_gD M Y := fun a s r i q => (h' a s r i q).trans (h a s r i q)
theorem z_gC.st {k s r i : Nat} {v : Int32} {M X : ux_M} (hs : z_cS s) (h : z_gC k M X) : z_gC k M (ux_set X k s r i v) := fun a s' r' i' q => by
  show (if a = k ∧ s' = s ∧ r' = r ∧ i' = i then v else X a s' r' i') = _
  rw [if_neg (fun z => q ⟨z.1, by rw [z.2.1]; exact hs⟩)]; exact h a s' r' i' q
theorem z_gD.st {s r i : Nat} {v : Int32} {M X : ux_M} (hs : z_dS s i) (h : z_gD M X) : z_gD M (ux_set X 5 s r i v) := fun a s' r' i' q => by
  show (if a = 5 ∧ s' = s ∧ r' = r ∧ i' = i then v else X a s' r' i') = _
  rw [if_neg (fun z => q ⟨z.1, by rw [z.2.1, z.2.2.2]; exact hs⟩)]; exact h a s' r' i' q
theorem z_gC.ite {k : Nat} {p : Prop} [Decidable p] {M A B : ux_M} (h : z_gC k M A) (h' : z_gC k M B) : z_gC k M (if p then A else B) := by split <;> assumption
theorem z_gD.ite {p : Prop} [Decidable p] {M A B : ux_M} (h : z_gD M A) (h' : z_gD M B) : z_gD M (if p then A else B) := by split <;> assumption
theorem fc_9_15 (km7 : Nat → Int32 → ux_M → ux_M) (hkm7 : ∀ (v0 : Nat) (v1 : Int32) (v2 : ux_M), z_gC v0 v2 (km7 v0 v1 v2)) : ∀ (a0 : Nat) (a1 : Nat) (a2 : Int32) (a3 : Int32) (a4 : ux_M), z_gC a1 a4 (m_9_15 km7 a0 a1 a2 a3 a4) := by
  intro a0
  induction a0 with
  | zero => intro a1 a2 a3 a4; exact z_gC.rf
  | succ a0 ih =>
    intro a1 a2 a3 a4
    unfold m_9_15
    exact (z_gC.ite (z_gC.tr z_gC.rf (hkm7 _ _ _)) (z_gC.tr (z_gC.st (.inr ⟨by decide, by decide⟩) z_gC.rf) (ih _ _ _ _)))
theorem fc_9_7   : ∀ (a0 : Nat) (a1 : Nat) (a2 : Int32) (a3 : ux_M), z_gC a1 a3 (m_9_7 a0 a1 a2 a3) := by
  intro a0
  induction a0 with
  | zero => intro a1 a2 a3; exact z_gC.rf
  | succ a0 ih =>
    intro a1 a2 a3
    unfold m_9_7
    exact (z_gC.ite z_gC.rf (z_gC.tr z_gC.rf (fc_9_15 _ (fun w0 w1 w2 => ih w0 w1 w2) _ _ _ _ _)))
theorem fc_9 (k : Nat) (M : ux_M)  : z_gC k M (m_9 k M) := by
  unfold m_9
  exact (z_gC.tr (z_gC.st (.inr ⟨by decide, by decide⟩) z_gC.rf) (fc_9_7 _ _ _ _))
theorem fc_10_192 (M : ux_M)  : z_gC 4 M (m_10_192 M) := by
  unfold m_10_192
  exact (z_gC.ite (z_gC.ite (z_gC.st (.inl rfl) (z_gC.st (.inl rfl) z_gC.rf)) (z_gC.st (.inl rfl) (z_gC.st (.inl rfl) z_gC.rf))) (z_gC.st (.inl rfl) z_gC.rf))
theorem fc_10_140   : ∀ (a0 : Nat) (a1 : ux_M), z_gC 4 a1 (m_10_140 a0 a1) := by
  intro a0
  induction a0 with
  | zero => intro a1; exact z_gC.rf
  | succ a0 ih =>
    intro a1
    unfold m_10_140
    exact (z_gC.ite (z_gC.tr z_gC.rf (fc_10_192 _)) (z_gC.ite (z_gC.tr z_gC.rf (fc_10_192 _)) (z_gC.ite (z_gC.tr z_gC.rf (fc_10_192 _)) (z_gC.tr (z_gC.st (.inl rfl) z_gC.rf) (ih _)))))
theorem fc_10_123 (M : ux_M)  : z_gC 4 M (m_10_123 M) := by
  unfold m_10_123
  exact (z_gC.ite (z_gC.tr z_gC.rf (fc_10_140 _ _)) (z_gC.st (.inl rfl) z_gC.rf))
theorem fc_10_71   : ∀ (a0 : Nat) (a1 : ux_M), z_gC 4 a1 (m_10_71 a0 a1) := by
  intro a0
  induction a0 with
  | zero => intro a1; exact z_gC.rf
  | succ a0 ih =>
    intro a1
    unfold m_10_71
    exact (z_gC.ite (z_gC.tr z_gC.rf (fc_10_123 _)) (z_gC.ite (z_gC.tr z_gC.rf (fc_10_123 _)) (z_gC.ite (z_gC.tr z_gC.rf (fc_10_123 _)) (z_gC.tr (z_gC.st (.inl rfl) z_gC.rf) (ih _)))))
theorem fc_10_46 (M : ux_M)  : z_gC 4 M (m_10_46 M) := by
  unfold m_10_46
  exact (z_gC.ite (z_gC.tr (z_gC.st (.inl rfl) z_gC.rf) (fc_10_71 _ _)) (z_gC.st (.inl rfl) (z_gC.st (.inl rfl) z_gC.rf)))
theorem fc_10_8   : ∀ (a0 : Nat) (a1 : ux_M), z_gC 4 a1 (m_10_8 a0 a1) := by
  intro a0
  induction a0 with
  | zero => intro a1; exact z_gC.rf
  | succ a0 ih =>
    intro a1
    unfold m_10_8
    exact (z_gC.ite (z_gC.tr z_gC.rf (fc_10_46 _)) (z_gC.ite (z_gC.tr (z_gC.st (.inl rfl) z_gC.rf) (ih _)) (z_gC.tr z_gC.rf (fc_10_46 _))))
theorem fc_10 (M : ux_M)  : z_gC 4 M (m_10 M) := by
  unfold m_10
  exact (z_gC.tr (z_gC.st (.inl rfl) z_gC.rf) (fc_10_8 _ _))
theorem fc_15_53 (km23 : Nat → Int32 → Int32 → Int32 → ux_M → ux_M) (hkm23 : ∀ (v0 : Nat) (v1 : Int32) (v2 : Int32) (v3 : Int32) (v4 : ux_M), z_gC v0 v4 (km23 v0 v1 v2 v3 v4)) : ∀ (a0 : Nat) (a1 : Nat) (a2 : Int32) (a3 : Int32) (a4 : Int32) (a5 : Int32) (a6 : Int32) (a7 : ux_M), z_gC a1 a7 (m_15_53 km23 a0 a1 a2 a3 a4 a5 a6 a7) := by
  intro a0
  induction a0 with
  | zero => intro a1 a2 a3 a4 a5 a6 a7; exact z_gC.rf
  | succ a0 ih =>
    intro a1 a2 a3 a4 a5 a6 a7
    unfold m_15_53
    exact (z_gC.ite (z_gC.ite (z_gC.tr z_gC.rf (hkm23 _ _ _ _ _)) z_gC.rf) (z_gC.ite (z_gC.ite (z_gC.tr z_gC.rf (hkm23 _ _ _ _ _)) z_gC.rf) (z_gC.ite (z_gC.tr z_gC.rf (ih _ _ _ _ _ _ _)) (z_gC.tr z_gC.rf (ih _ _ _ _ _ _ _)))))
theorem fc_15_23   : ∀ (a0 : Nat) (a1 : Nat) (a2 : Int32) (a3 : Int32) (a4 : Int32) (a5 : ux_M), z_gC a1 a5 (m_15_23 a0 a1 a2 a3 a4 a5) := by
  intro a0
  induction a0 with
  | zero => intro a1 a2 a3 a4 a5; exact z_gC.rf
  | succ a0 ih =>
    intro a1 a2 a3 a4 a5
    unfold m_15_23
    exact (z_gC.ite z_gC.rf (z_gC.ite (z_gC.tr z_gC.rf (fc_15_53 _ (fun w0 w1 w2 w3 w4 => ih w0 w1 w2 w3 w4) _ _ _ _ _ _ _ _)) (z_gC.tr z_gC.rf (fc_15_53 _ (fun w0 w1 w2 w3 w4 => ih w0 w1 w2 w3 w4) _ _ _ _ _ _ _ _))))
theorem fc_15 (k : Nat) (x2 : Int32) (x3 : Int32) (M : ux_M)  : z_gC k M (m_15 k x2 x3 M) := by
  unfold m_15
  exact (z_gC.ite z_gC.rf (z_gC.ite z_gC.rf (z_gC.ite (z_gC.tr z_gC.rf (fc_15_23 _ _ _ _ _ _)) z_gC.rf)))
theorem fc_18 (M : ux_M)  : z_gC 4 M (m_18 M) := by
  unfold m_18
  exact (z_gC.ite (z_gC.ite (z_gC.st (.inl rfl) (z_gC.st (.inl rfl) (z_gC.tr z_gC.rf (fc_15 _ _ _ _)))) (z_gC.tr z_gC.rf (fc_15 _ _ _ _))) (z_gC.st (.inl rfl) (z_gC.st (.inl rfl) z_gC.rf)))
theorem fc_14_36 (z0 : Int32) (M : ux_M)  : z_gC 4 M (m_14_36 z0 M) := by
  unfold m_14_36
  exact (z_gC.ite (z_gC.st (.inl rfl) (z_gC.st (.inl rfl) z_gC.rf)) (z_gC.ite (z_gC.st (.inl rfl) (z_gC.st (.inl rfl) (z_gC.tr z_gC.rf (fc_10 _)))) (z_gC.ite (z_gC.tr (z_gC.tr (z_gC.tr z_gC.rf (fc_10 _)) (fc_10 _)) (fc_18 _)) (z_gC.ite (z_gC.st (.inl rfl) (z_gC.st (.inl rfl) (z_gC.tr (z_gC.tr (z_gC.tr z_gC.rf (fc_10 _)) (fc_10 _)) (fc_18 _)))) (z_gC.ite (z_gC.tr (z_gC.st (.inr ⟨by decide, by decide⟩) (z_gC.tr (z_gC.tr (z_gC.tr z_gC.rf (fc_10 _)) (fc_10 _)) (fc_18 _))) (fc_10 _)) (z_gC.tr (z_gC.st (.inr ⟨by decide, by decide⟩) (z_gC.tr (z_gC.tr (z_gC.tr z_gC.rf (fc_10 _)) (fc_10 _)) (fc_18 _))) (fc_10 _)))))))
theorem fc_14 (M : ux_M)  : z_gC 4 M (m_14 M) := by
  unfold m_14
  exact (z_gC.ite (z_gC.tr (z_gC.tr z_gC.rf (fc_15 _ _ _ _)) (fc_14_36 _ _)) (z_gC.tr z_gC.rf (fc_14_36 _ _)))
theorem fc_20_102   : ∀ (a0 : Nat) (a1 : Nat) (a2 : Int32) (a3 : Int32) (a4 : ux_M), z_gC a1 a4 (m_20_102 a0 a1 a2 a3 a4) := by
  intro a0
  induction a0 with
  | zero => intro a1 a2 a3 a4; exact z_gC.rf
  | succ a0 ih =>
    intro a1 a2 a3 a4
    unfold m_20_102
    exact (z_gC.ite (z_gC.st (.inr ⟨by decide, by decide⟩) (z_gC.st (.inr ⟨by decide, by decide⟩) (z_gC.st (.inr ⟨by decide, by decide⟩) (z_gC.st (.inr ⟨by decide, by decide⟩) (z_gC.st (.inr ⟨by decide, by decide⟩) z_gC.rf))))) (z_gC.tr (z_gC.st (.inr ⟨by decide, by decide⟩) z_gC.rf) (ih _ _ _ _)))
theorem fc_20_67   : ∀ (a0 : Nat) (a1 : Nat) (a2 : Int32) (a3 : Int32) (a4 : Int32) (a5 : Int32) (a6 : ux_M), z_gC a1 a6 (m_20_67 a0 a1 a2 a3 a4 a5 a6) := by
  intro a0
  induction a0 with
  | zero => intro a1 a2 a3 a4 a5 a6; exact z_gC.rf
  | succ a0 ih =>
    intro a1 a2 a3 a4 a5 a6
    unfold m_20_67
    exact (z_gC.ite (z_gC.tr z_gC.rf (fc_20_102 _ _ _ _ _)) (z_gC.tr (z_gC.st (.inr ⟨by decide, by decide⟩) z_gC.rf) (ih _ _ _ _ _ _)))
theorem fc_20 (k : Nat) (x1 : Int32) (x3 : Int32) (x4 : Int32) (M : ux_M)  : z_gC k M (m_20 k x1 x3 x4 M) := by
  unfold m_20
  exact (z_gC.ite z_gC.rf (z_gC.ite z_gC.rf (z_gC.ite z_gC.rf (z_gC.ite (z_gC.tr (z_gC.st (.inr ⟨by decide, by decide⟩) (z_gC.st (.inr ⟨by decide, by decide⟩) (z_gC.st (.inr ⟨by decide, by decide⟩) z_gC.rf))) (fc_20_67 _ _ _ _ _ _ _)) z_gC.rf))))
theorem fc_19 (x1 : Int32) (M : ux_M)  : z_gC 4 M (m_19 x1 M) := by
  unfold m_19
  exact (z_gC.ite (z_gC.ite (z_gC.st (.inl rfl) (z_gC.st (.inl rfl) z_gC.rf)) (z_gC.ite (z_gC.ite (z_gC.tr (z_gC.tr (z_gC.tr z_gC.rf (fc_15 _ _ _ _)) (fc_20 _ _ _ _ _)) (fc_10 _)) (z_gC.st (.inl rfl) (z_gC.st (.inl rfl) (z_gC.tr z_gC.rf (fc_15 _ _ _ _))))) (z_gC.st (.inl rfl) (z_gC.st (.inl rfl) z_gC.rf)))) (z_gC.st (.inl rfl) (z_gC.st (.inl rfl) z_gC.rf)))
theorem fc_23_41 (x1 : Int32) (x2 : Int32) (M : ux_M)  : z_gC 4 M (m_23_41 x1 x2 M) := by
  unfold m_23_41
  exact (z_gC.ite (z_gC.st (.inl rfl) (z_gC.st (.inl rfl) z_gC.rf)) (z_gC.tr (z_gC.st (.inr ⟨by decide, by decide⟩) z_gC.rf) (fc_10 _)))
theorem fc_23 (x1 : Int32) (M : ux_M)  : z_gC 4 M (m_23 x1 M) := by
  unfold m_23
  exact (z_gC.ite (z_gC.ite (z_gC.ite (z_gC.tr z_gC.rf (fc_23_41 _ _ _)) (z_gC.tr z_gC.rf (fc_23_41 _ _ _))) (z_gC.tr z_gC.rf (fc_23_41 _ _ _))) (z_gC.tr z_gC.rf (fc_23_41 _ _ _)))
theorem fc_25_74 (x1 : Int32) (x2 : Int32) (x3 : Int32) (M : ux_M)  : z_gC 4 M (m_25_74 x1 x2 x3 M) := by
  unfold m_25_74
  exact (z_gC.ite (z_gC.st (.inl rfl) (z_gC.st (.inl rfl) z_gC.rf)) (z_gC.ite (z_gC.tr z_gC.rf (fc_10 _)) (z_gC.st (.inl rfl) (z_gC.st (.inl rfl) z_gC.rf))))
theorem fc_25_27   : ∀ (a0 : Nat) (a1 : Int32) (a2 : Int32) (a3 : Int32) (a4 : Int32) (a5 : ux_M), z_gC 4 a5 (m_25_27 a0 a1 a2 a3 a4 a5) := by
  intro a0
  induction a0 with
  | zero => intro a1 a2 a3 a4 a5; exact z_gC.rf
  | succ a0 ih =>
    intro a1 a2 a3 a4 a5
    unfold m_25_27
    exact (z_gC.ite (z_gC.tr z_gC.rf (fc_25_74 _ _ _ _)) (z_gC.ite (z_gC.tr z_gC.rf (fc_25_74 _ _ _ _)) (z_gC.tr z_gC.rf (ih _ _ _ _ _))))
theorem fc_25 (x1 : Int32) (x2 : Int32) (M : ux_M)  : z_gC 4 M (m_25 x1 x2 M) := by
  unfold m_25
  exact (z_gC.ite (z_gC.tr z_gC.rf (fc_25_27 _ _ _ _ _ _)) (z_gC.st (.inl rfl) (z_gC.st (.inl rfl) z_gC.rf)))
theorem fc_24 (x1 : Int32) (x2 : Int32) (M : ux_M)  : z_gC 4 M (m_24 x1 x2 M) := by
  unfold m_24
  exact (z_gC.ite (z_gC.tr z_gC.rf (fc_25 _ _ _)) (z_gC.st (.inr ⟨by decide, by decide⟩) (z_gC.tr z_gC.rf (fc_25 _ _ _))))
theorem fc_21 (x1 : Int32) (M : ux_M)  : z_gC 4 M (m_21 x1 M) := by
  unfold m_21
  exact (z_gC.ite (z_gC.st (.inl rfl) (z_gC.st (.inl rfl) z_gC.rf)) (z_gC.ite (z_gC.tr (z_gC.tr z_gC.rf (fc_10 _)) (fc_23 _ _)) (z_gC.ite (z_gC.ite (z_gC.tr (z_gC.tr (z_gC.tr z_gC.rf (fc_10 _)) (fc_24 _ _ _)) (fc_24 _ _ _)) (z_gC.tr (z_gC.tr z_gC.rf (fc_10 _)) (fc_24 _ _ _))) (z_gC.tr (z_gC.tr z_gC.rf (fc_10 _)) (fc_24 _ _ _)))))
theorem fc_26 (x1 : Int32) (M : ux_M)  : z_gC 4 M (m_26 x1 M) := by
  unfold m_26
  exact (z_gC.ite (z_gC.tr z_gC.rf (fc_18 _)) (z_gC.ite (z_gC.ite (z_gC.tr (z_gC.tr (z_gC.tr z_gC.rf (fc_18 _)) (fc_10 _)) (fc_25 _ _ _)) (z_gC.st (.inr ⟨by decide, by decide⟩) (z_gC.st (.inr ⟨by decide, by decide⟩) (z_gC.tr (z_gC.tr (z_gC.tr z_gC.rf (fc_18 _)) (fc_10 _)) (fc_25 _ _ _))))) (z_gC.st (.inl rfl) (z_gC.st (.inl rfl) (z_gC.tr z_gC.rf (fc_18 _))))))
theorem fc_11_59   : ∀ (a0 : Nat) (a1 : Int32) (a2 : Int32) (a3 : ux_M), z_gC 4 a3 (m_11_59 a0 a1 a2 a3) := by
  intro a0
  induction a0 with
  | zero => intro a1 a2 a3; exact z_gC.rf
  | succ a0 ih =>
    intro a1 a2 a3
    unfold m_11_59
    exact (z_gC.ite z_gC.rf (z_gC.ite (z_gC.ite (z_gC.tr (z_gC.tr z_gC.rf (fc_21 _ _)) (ih _ _ _)) z_gC.rf) z_gC.rf))
theorem fc_11 (M : ux_M)  : z_gC 4 M (m_11 M) := by
  unfold m_11
  exact (z_gC.ite (z_gC.tr z_gC.rf (fc_14 _)) (z_gC.ite (z_gC.ite (z_gC.tr (z_gC.tr z_gC.rf (fc_10 _)) (fc_19 _ _)) (z_gC.ite (z_gC.tr (z_gC.tr (z_gC.tr z_gC.rf (fc_10 _)) (fc_19 _ _)) (fc_11_59 _ _ _ _)) (z_gC.ite (z_gC.tr (z_gC.tr (z_gC.tr z_gC.rf (fc_10 _)) (fc_19 _ _)) (fc_26 _ _)) (z_gC.tr (z_gC.tr z_gC.rf (fc_10 _)) (fc_19 _ _))))) (z_gC.st (.inl rfl) (z_gC.st (.inl rfl) z_gC.rf))))
theorem fc_27_75 (km67 : Nat → Int32 → ux_M → ux_M) (hkm67 : ∀ (v0 : Nat) (v1 : Int32) (v2 : ux_M), z_gC v0 v2 (km67 v0 v1 v2)) : ∀ (a0 : Nat) (a1 : Nat) (a2 : Int32) (a3 : Int32) (a4 : ux_M), z_gC a1 a4 (m_27_75 km67 a0 a1 a2 a3 a4) := by
  intro a0
  induction a0 with
  | zero => intro a1 a2 a3 a4; exact z_gC.rf
  | succ a0 ih =>
    intro a1 a2 a3 a4
    unfold m_27_75
    exact (z_gC.ite (z_gC.tr z_gC.rf (hkm67 _ _ _)) (z_gC.ite (z_gC.ite (z_gC.ite (z_gC.tr z_gC.rf (ih _ _ _ _)) (z_gC.tr (z_gC.st (.inr ⟨by decide, by decide⟩) z_gC.rf) (ih _ _ _ _))) (z_gC.ite (z_gC.tr (z_gC.st (.inr ⟨by decide, by decide⟩) z_gC.rf) (ih _ _ _ _)) (z_gC.tr (z_gC.st (.inr ⟨by decide, by decide⟩) (z_gC.st (.inr ⟨by decide, by decide⟩) z_gC.rf)) (ih _ _ _ _)))) (z_gC.ite (z_gC.ite (z_gC.tr (z_gC.st (.inr ⟨by decide, by decide⟩) z_gC.rf) (ih _ _ _ _)) (z_gC.tr (z_gC.st (.inr ⟨by decide, by decide⟩) (z_gC.st (.inr ⟨by decide, by decide⟩) z_gC.rf)) (ih _ _ _ _))) (z_gC.ite (z_gC.tr (z_gC.st (.inr ⟨by decide, by decide⟩) (z_gC.st (.inr ⟨by decide, by decide⟩) z_gC.rf)) (ih _ _ _ _)) (z_gC.tr (z_gC.st (.inr ⟨by decide, by decide⟩) (z_gC.st (.inr ⟨by decide, by decide⟩) (z_gC.st (.inr ⟨by decide, by decide⟩) z_gC.rf))) (ih _ _ _ _))))))
theorem fc_27_67   : ∀ (a0 : Nat) (a1 : Nat) (a2 : Int32) (a3 : ux_M), z_gC a1 a3 (m_27_67 a0 a1 a2 a3) := by
  intro a0
  induction a0 with
  | zero => intro a1 a2 a3; exact z_gC.rf
  | succ a0 ih =>
    intro a1 a2 a3
    unfold m_27_67
    exact (z_gC.ite z_gC.rf (z_gC.tr z_gC.rf (fc_27_75 _ (fun w0 w1 w2 => ih w0 w1 w2) _ _ _ _ _)))
theorem fc_27_2   : ∀ (a0 : Nat) (a1 : Nat) (a2 : Int32) (a3 : ux_M), z_gC a1 a3 (m_27_2 a0 a1 a2 a3) := by
  intro a0
  induction a0 with
  | zero => intro a1 a2 a3; exact z_gC.rf
  | succ a0 ih =>
    intro a1 a2 a3
    unfold m_27_2
    exact (z_gC.ite (z_gC.tr z_gC.rf (fc_27_67 _ _ _ _)) (z_gC.tr (z_gC.st (.inr ⟨by decide, by decide⟩) (z_gC.st (.inr ⟨by decide, by decide⟩) (z_gC.st (.inr ⟨by decide, by decide⟩) (z_gC.st (.inr ⟨by decide, by decide⟩) z_gC.rf)))) (ih _ _ _)))
theorem fc_27 (k : Nat) (M : ux_M)  : z_gC k M (m_27 k M) := by
  unfold m_27
  exact (z_gC.tr z_gC.rf (fc_27_2 _ _ _ _))
theorem fc_8_43   : ∀ (a0 : Nat) (a1 : Int32) (a2 : ux_M), z_gC 4 a2 (m_8_43 a0 a1 a2) := by
  intro a0
  induction a0 with
  | zero => intro a1 a2; exact z_gC.rf
  | succ a0 ih =>
    intro a1 a2
    unfold m_8_43
    exact (z_gC.ite z_gC.rf (z_gC.ite (z_gC.ite (z_gC.tr (z_gC.tr z_gC.rf (fc_11 _)) (fc_27 _ _)) (z_gC.ite (z_gC.ite (z_gC.ite (z_gC.tr (z_gC.tr (z_gC.tr z_gC.rf (fc_11 _)) (fc_10 _)) (ih _ _)) (z_gC.tr z_gC.rf (fc_11 _))) (z_gC.ite (z_gC.tr (z_gC.tr (z_gC.st (.inl rfl) (z_gC.st (.inl rfl) (z_gC.tr z_gC.rf (fc_11 _)))) (fc_10 _)) (ih _ _)) (z_gC.st (.inl rfl) (z_gC.st (.inl rfl) (z_gC.tr z_gC.rf (fc_11 _)))))) (z_gC.ite (z_gC.tr (z_gC.tr (z_gC.tr z_gC.rf (fc_11 _)) (fc_10 _)) (ih _ _)) (z_gC.tr z_gC.rf (fc_11 _))))) (z_gC.ite (z_gC.ite (z_gC.ite (z_gC.tr (z_gC.tr (z_gC.tr z_gC.rf (fc_11 _)) (fc_10 _)) (ih _ _)) (z_gC.tr z_gC.rf (fc_11 _))) (z_gC.ite (z_gC.tr (z_gC.tr (z_gC.st (.inl rfl) (z_gC.st (.inl rfl) (z_gC.tr z_gC.rf (fc_11 _)))) (fc_10 _)) (ih _ _)) (z_gC.st (.inl rfl) (z_gC.st (.inl rfl) (z_gC.tr z_gC.rf (fc_11 _)))))) (z_gC.ite (z_gC.tr (z_gC.tr (z_gC.tr z_gC.rf (fc_11 _)) (fc_10 _)) (ih _ _)) (z_gC.tr z_gC.rf (fc_11 _))))))
theorem fc_8 (x2 : Int32) (M : ux_M)  : z_gC 4 M (m_8 x2 M) := by
  unfold m_8
  exact (z_gC.tr (z_gC.tr (z_gC.tr (z_gC.st (.inl rfl) (z_gC.st (.inl rfl) (z_gC.st (.inl rfl) (z_gC.st (.inl rfl) (z_gC.st (.inl rfl) z_gC.rf))))) (fc_9 _ _)) (fc_10 _)) (fc_8_43 _ _ _))
theorem fd_152_0   : ∀ (a0 : Nat) (a1 : ux_M), z_gD a1 (m_152_0 a0 a1) := by
  intro a0
  induction a0 with
  | zero => intro a1; exact z_gD.rf
  | succ a0 ih =>
    intro a1
    unfold m_152_0
    exact (z_gD.ite (z_gD.tr (z_gD.st (.inr ⟨rfl, by decide, by decide⟩) z_gD.rf) (ih _)) (z_gD.st (.inr ⟨rfl, by decide, by decide⟩) z_gD.rf))
theorem fd_152 (M : ux_M)  : z_gD M (m_152 M) := by
  unfold m_152
  exact (z_gD.tr z_gD.rf (fd_152_0 _ _))
theorem fd_160 (x1 : Int32) (M : ux_M)  : z_gD M (m_160 x1 M) := by
  unfold m_160
  exact (z_gD.ite (z_gD.st (.inr ⟨rfl, by decide, by decide⟩) (z_gD.st (.inr ⟨rfl, by decide, by decide⟩) z_gD.rf)) z_gD.rf)
theorem fd_161 (M : ux_M)  : z_gD M (m_161 M) := by
  unfold m_161
  exact (z_gD.st (.inr ⟨rfl, by decide, by decide⟩) z_gD.rf)
theorem fd_159_159   : ∀ (a0 : Nat) (a1 : Int32) (a2 : ux_M), z_gD a2 (m_159_159 a0 a1 a2) := by
  intro a0
  induction a0 with
  | zero => intro a1 a2; exact z_gD.rf
  | succ a0 ih =>
    intro a1 a2
    unfold m_159_159
    exact (z_gD.ite (z_gD.tr (z_gD.st (.inl rfl) (z_gD.st (.inl rfl) (z_gD.st (.inl rfl) (z_gD.st (.inl rfl) (z_gD.st (.inl rfl) (z_gD.st (.inl rfl) z_gD.rf)))))) (fd_161 _)) (z_gD.tr (z_gD.st (.inl rfl) z_gD.rf) (ih _ _)))
theorem fd_159_76 (x1 : Int32) (z0 : Int32) (M : ux_M)  : z_gD M (m_159_76 x1 z0 M) := by
  unfold m_159_76
  exact (z_gD.ite (z_gD.tr z_gD.rf (fd_160 _ _)) (z_gD.ite (z_gD.ite (z_gD.tr (z_gD.st (.inl rfl) (z_gD.st (.inl rfl) (z_gD.st (.inr ⟨rfl, by decide, by decide⟩) z_gD.rf))) (fd_159_159 _ _ _)) (z_gD.tr z_gD.rf (fd_160 _ _))) (z_gD.tr z_gD.rf (fd_160 _ _))))
theorem fd_159_71 (x1 : Int32) (M : ux_M)  : z_gD M (m_159_71 x1 M) := by
  unfold m_159_71
  exact (z_gD.tr z_gD.rf (fd_159_76 _ _ _))
theorem fd_159 (x1 : Int32) (M : ux_M)  : z_gD M (m_159 x1 M) := by
  unfold m_159
  exact (z_gD.ite (z_gD.tr z_gD.rf (fd_160 _ _)) (z_gD.ite (z_gD.tr (z_gD.tr (z_gD.tr z_gD.rf (fd_161 _)) (fd_152 _)) (fd_160 _ _)) (z_gD.ite (z_gD.ite (z_gD.ite (z_gD.tr (z_gD.tr (z_gD.tr z_gD.rf (fd_161 _)) (fd_152 _)) (fd_159_76 _ _ _)) (z_gD.tr (z_gD.tr (z_gD.tr z_gD.rf (fd_161 _)) (fd_152 _)) (fd_159_71 _ _))) (z_gD.tr (z_gD.tr (z_gD.tr z_gD.rf (fd_161 _)) (fd_152 _)) (fd_159_71 _ _))) (z_gD.tr (z_gD.tr (z_gD.tr z_gD.rf (fd_161 _)) (fd_152 _)) (fd_159_71 _ _)))))
theorem fd_166_25   : ∀ (a0 : Nat) (a1 : Int32) (a2 : Int32) (a3 : Int32) (a4 : Int64) (a5 : ux_M), z_gD a5 (m_166_25 a0 a1 a2 a3 a4 a5) := by
  intro a0
  induction a0 with
  | zero => intro a1 a2 a3 a4 a5; exact z_gD.rf
  | succ a0 ih =>
    intro a1 a2 a3 a4 a5
    unfold m_166_25
    exact (z_gD.ite (z_gD.ite (z_gD.st (.inl rfl) z_gD.rf) (z_gD.tr z_gD.rf (fd_160 _ _))) (z_gD.tr (z_gD.st (.inr ⟨rfl, by decide, by decide⟩) z_gD.rf) (ih _ _ _ _ _)))
theorem fd_166 (x1 : Int32) (x2 : Int32) (x3 : Int32) (M : ux_M)  : z_gD M (m_166 x1 x2 x3 M) := by
  unfold m_166
  exact (z_gD.ite (z_gD.tr (z_gD.tr z_gD.rf (fd_152 _)) (fd_160 _ _)) (z_gD.tr (z_gD.tr z_gD.rf (fd_152 _)) (fd_166_25 _ _ _ _ _ _)))
theorem fd_168_45 (z0 : Int32) (M : ux_M)  : z_gD M (m_168_45 z0 M) := by
  unfold m_168_45
  exact (z_gD.ite (z_gD.tr z_gD.rf (fd_160 _ _)) (z_gD.tr (z_gD.st (.inl rfl) z_gD.rf) (fd_161 _)))
theorem fd_168 (M : ux_M)  : z_gD M (m_168 M) := by
  unfold m_168
  exact (z_gD.ite (z_gD.ite (z_gD.ite (z_gD.tr (z_gD.tr z_gD.rf (fd_152 _)) (fd_168_45 _ _)) (z_gD.tr (z_gD.tr z_gD.rf (fd_152 _)) (fd_168_45 _ _))) (z_gD.tr (z_gD.tr z_gD.rf (fd_152 _)) (fd_168_45 _ _))) (z_gD.tr (z_gD.tr z_gD.rf (fd_152 _)) (fd_168_45 _ _)))
theorem fd_165 (M : ux_M)  : z_gD M (m_165 M) := by
  unfold m_165
  exact (z_gD.ite (z_gD.ite (z_gD.ite (z_gD.ite (z_gD.ite (z_gD.ite (z_gD.ite (z_gD.ite (z_gD.ite (z_gD.tr z_gD.rf (fd_160 _ _)) (z_gD.ite (z_gD.tr z_gD.rf (fd_161 _)) (z_gD.ite (z_gD.tr (z_gD.tr z_gD.rf (fd_161 _)) (fd_166 _ _ _ _)) (z_gD.tr (z_gD.tr z_gD.rf (fd_161 _)) (fd_166 _ _ _ _))))) (z_gD.ite (z_gD.tr z_gD.rf (fd_161 _)) (z_gD.ite (z_gD.tr (z_gD.tr z_gD.rf (fd_161 _)) (fd_166 _ _ _ _)) (z_gD.ite (z_gD.tr (z_gD.tr (z_gD.tr z_gD.rf (fd_161 _)) (fd_166 _ _ _ _)) (fd_166 _ _ _ _)) (z_gD.tr (z_gD.tr (z_gD.tr z_gD.rf (fd_161 _)) (fd_166 _ _ _ _)) (fd_166 _ _ _ _)))))) (z_gD.ite (z_gD.tr z_gD.rf (fd_161 _)) (z_gD.ite (z_gD.tr (z_gD.tr z_gD.rf (fd_161 _)) (fd_166 _ _ _ _)) (z_gD.tr (z_gD.tr z_gD.rf (fd_161 _)) (fd_166 _ _ _ _))))) (z_gD.ite (z_gD.tr z_gD.rf (fd_161 _)) (z_gD.ite (z_gD.tr (z_gD.tr z_gD.rf (fd_161 _)) (fd_168 _)) (z_gD.tr (z_gD.tr z_gD.rf (fd_161 _)) (fd_168 _))))) (z_gD.ite (z_gD.tr z_gD.rf (fd_161 _)) (z_gD.ite (z_gD.tr (z_gD.tr z_gD.rf (fd_161 _)) (fd_166 _ _ _ _)) (z_gD.tr (z_gD.tr z_gD.rf (fd_161 _)) (fd_166 _ _ _ _))))) (z_gD.ite (z_gD.tr z_gD.rf (fd_161 _)) (z_gD.ite (z_gD.tr (z_gD.tr z_gD.rf (fd_161 _)) (fd_166 _ _ _ _)) (z_gD.tr (z_gD.tr z_gD.rf (fd_161 _)) (fd_166 _ _ _ _))))) (z_gD.ite (z_gD.tr z_gD.rf (fd_161 _)) (z_gD.ite (z_gD.tr (z_gD.tr z_gD.rf (fd_161 _)) (fd_166 _ _ _ _)) (z_gD.tr (z_gD.tr z_gD.rf (fd_161 _)) (fd_166 _ _ _ _))))) (z_gD.ite (z_gD.tr z_gD.rf (fd_161 _)) (z_gD.ite (z_gD.tr (z_gD.tr z_gD.rf (fd_161 _)) (fd_166 _ _ _ _)) (z_gD.tr (z_gD.tr z_gD.rf (fd_161 _)) (fd_166 _ _ _ _))))) (z_gD.ite (z_gD.tr z_gD.rf (fd_161 _)) (z_gD.ite (z_gD.tr (z_gD.tr z_gD.rf (fd_161 _)) (fd_166 _ _ _ _)) (z_gD.tr (z_gD.tr z_gD.rf (fd_161 _)) (fd_166 _ _ _ _)))))
theorem fd_158_15   : ∀ (a0 : Nat) (a1 : ux_M), z_gD a1 (m_158_15 a0 a1) := by
  intro a0
  induction a0 with
  | zero => intro a1; exact z_gD.rf
  | succ a0 ih =>
    intro a1
    unfold m_158_15
    exact (z_gD.ite (z_gD.st (.inl rfl) z_gD.rf) (z_gD.ite (z_gD.tr z_gD.rf (fd_165 _)) (z_gD.tr (z_gD.tr (z_gD.tr z_gD.rf (fd_165 _)) (fd_152 _)) (ih _))))
theorem fd_158 (M : ux_M)  : z_gD M (m_158 M) := by
  unfold m_158
  exact (z_gD.ite (z_gD.tr z_gD.rf (fd_159 _ _)) (z_gD.tr (z_gD.tr (z_gD.tr z_gD.rf (fd_159 _ _)) (fd_152 _)) (fd_158_15 _ _)))
theorem fd_169 (M : ux_M)  : z_gD M (m_169 M) := by
  unfold m_169
  exact (z_gD.ite (z_gD.tr z_gD.rf (fd_159 _ _)) (z_gD.ite (z_gD.tr (z_gD.tr (z_gD.tr z_gD.rf (fd_159 _ _)) (fd_152 _)) (fd_160 _ _)) (z_gD.ite (z_gD.tr (z_gD.tr (z_gD.tr z_gD.rf (fd_159 _ _)) (fd_152 _)) (fd_160 _ _)) (z_gD.ite (z_gD.ite (z_gD.tr (z_gD.st (.inl rfl) (z_gD.tr (z_gD.tr z_gD.rf (fd_159 _ _)) (fd_152 _))) (fd_161 _)) (z_gD.ite (z_gD.tr (z_gD.tr (z_gD.st (.inl rfl) (z_gD.tr (z_gD.tr z_gD.rf (fd_159 _ _)) (fd_152 _))) (fd_161 _)) (fd_166 _ _ _ _)) (z_gD.st (.inl rfl) (z_gD.tr (z_gD.tr (z_gD.st (.inl rfl) (z_gD.tr (z_gD.tr z_gD.rf (fd_159 _ _)) (fd_152 _))) (fd_161 _)) (fd_166 _ _ _ _))))) (z_gD.tr (z_gD.tr (z_gD.tr z_gD.rf (fd_159 _ _)) (fd_152 _)) (fd_160 _ _))))))
theorem fd_170 (M : ux_M)  : z_gD M (m_170 M) := by
  unfold m_170
  exact (z_gD.ite (z_gD.tr z_gD.rf (fd_159 _ _)) (z_gD.st (.inl rfl) (z_gD.tr z_gD.rf (fd_159 _ _))))
theorem fd_171 (M : ux_M)  : z_gD M (m_171 M) := by
  unfold m_171
  exact (z_gD.ite (z_gD.tr z_gD.rf (fd_160 _ _)) (z_gD.ite (z_gD.tr (z_gD.tr (z_gD.tr z_gD.rf (fd_161 _)) (fd_152 _)) (fd_160 _ _)) (z_gD.ite (z_gD.tr (z_gD.tr (z_gD.tr (z_gD.tr (z_gD.tr z_gD.rf (fd_161 _)) (fd_152 _)) (fd_161 _)) (fd_152 _)) (fd_160 _ _)) (z_gD.ite (z_gD.tr (z_gD.tr (z_gD.tr (z_gD.tr (z_gD.tr z_gD.rf (fd_161 _)) (fd_152 _)) (fd_161 _)) (fd_152 _)) (fd_160 _ _)) (z_gD.ite (z_gD.tr (z_gD.tr (z_gD.tr (z_gD.tr (z_gD.tr z_gD.rf (fd_161 _)) (fd_152 _)) (fd_161 _)) (fd_152 _)) (fd_160 _ _)) (z_gD.ite (z_gD.tr (z_gD.st (.inl rfl) (z_gD.tr (z_gD.tr (z_gD.tr (z_gD.tr z_gD.rf (fd_161 _)) (fd_152 _)) (fd_161 _)) (fd_152 _))) (fd_161 _)) (z_gD.tr (z_gD.st (.inl rfl) (z_gD.tr (z_gD.tr (z_gD.tr (z_gD.tr z_gD.rf (fd_161 _)) (fd_152 _)) (fd_161 _)) (fd_152 _))) (fd_161 _))))))))
theorem fd_151 (M : ux_M)  : z_gD M (m_151 M) := by
  unfold m_151
  exact (z_gD.ite (z_gD.ite (z_gD.ite (z_gD.tr (z_gD.tr z_gD.rf (fd_152 _)) (fd_171 _)) (z_gD.tr (z_gD.tr z_gD.rf (fd_152 _)) (fd_170 _))) (z_gD.tr (z_gD.tr z_gD.rf (fd_152 _)) (fd_169 _))) (z_gD.tr (z_gD.tr z_gD.rf (fd_152 _)) (fd_158 _)))
theorem fd_150_9   : ∀ (a0 : Nat) (a1 : ux_M), z_gD a1 (m_150_9 a0 a1) := by
  intro a0
  induction a0 with
  | zero => intro a1; exact z_gD.rf
  | succ a0 ih =>
    intro a1
    unfold m_150_9
    exact (z_gD.ite (z_gD.ite (z_gD.tr (z_gD.st (.inr ⟨rfl, by decide, by decide⟩) (z_gD.tr z_gD.rf (fd_152 _))) (fd_151 _)) (z_gD.tr (z_gD.tr (z_gD.st (.inr ⟨rfl, by decide, by decide⟩) (z_gD.tr z_gD.rf (fd_152 _))) (fd_151 _)) (ih _))) (z_gD.ite (z_gD.tr (z_gD.tr z_gD.rf (fd_152 _)) (fd_152 _)) (z_gD.ite (z_gD.tr (z_gD.tr (z_gD.tr z_gD.rf (fd_152 _)) (fd_152 _)) (fd_160 _ _)) (z_gD.tr (z_gD.tr (z_gD.tr z_gD.rf (fd_152 _)) (fd_152 _)) (fd_160 _ _)))))
theorem fd_150 (M : ux_M)  : z_gD M (m_150 M) := by
  unfold m_150
  exact (z_gD.ite (z_gD.tr z_gD.rf (fd_151 _)) (z_gD.tr (z_gD.tr z_gD.rf (fd_151 _)) (fd_150_9 _ _)))
