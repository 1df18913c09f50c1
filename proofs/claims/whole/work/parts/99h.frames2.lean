/-! WHERE THE CALLS WRITE (by wip/whole/gen_fr2.py): z_fA inside a world, its jobs and its transaction; z_fB in the reference's row and its transaction -/
def z_fA (k : Nat) (M M' : ux_M) : Prop := ∀ a s r i, ¬ (a = k ∧ s < 344085) → M' a s r i = M a s r i
def z_bS (s i : Nat) : Prop := (s = 819253 ∧ (i = 18 ∨ i = 19)) ∨ s = 844257 ∨ s = 950305 ∨ s = 966689 ∨ s = 983073 ∨ s = 999553
def z_fB (M M' : ux_M) : Prop := ∀ a s r i, ¬ (a = 5 ∧ z_bS s i) → M' a s r i = M a s r i
theorem z_fA.rf {k : Nat} {M : ux_M} : z_fA k M M := fun _ _ _ _ _ => rfl
theorem z_fB.rf {M : ux_M} : z_fB M M := fun _ _ _ _ _ => rfl
theorem z_fA.tr {k : Nat} {M X Y : ux_M} (h : z_fA k M X) (h' : z_fA k X Y) : z_fA k M Y := fun a s r i q => (h' a s r i q).trans (h a s r i q)
theorem z_fB.tr {M X Y : ux_M} (h : z_fB M X) (h' : z_fB X Y) : z_fB M Y := fun a s r i q => (h' a s r i q).trans (h a s r i q)
theorem z_fA.st {k s r i : Nat} {v : Int32} {M X : ux_M} (hs : s < 344085) (h : z_fA k M X) : z_fA k M (ux_set X k s r i v) := fun a s' r' i' q => by
  show (if a = k ∧ s' = s ∧ r' = r ∧ i' = i then v else X a s' r' i') = _
  rw [if_neg (fun z => q ⟨z.1, by rw [z.2.1]; exact hs⟩)]; exact h a s' r' i' q
theorem z_fB.st {s r i : Nat} {v : Int32} {M X : ux_M} (hs : z_bS s i) (h : z_fB M X) : z_fB M (ux_set X 5 s r i v) := fun a s' r' i' q => by
  show (if a = 5 ∧ s' = s ∧ r' = r ∧ i' = i then v else X a s' r' i') = _
  rw [if_neg (fun z => q ⟨z.1, by rw [z.2.1, z.2.2.2]; exact hs⟩)]; exact h a s' r' i' q
theorem z_fB.pt {x y v : Int32} {M X : ux_M} (h : z_fB M X) : z_fB M (ux_put X x y v) := z_fB.st (.inr (.inl rfl)) h
theorem z_fA.ite {k : Nat} {p : Prop} [Decidable p] {M A B : ux_M} (h : z_fA k M A) (h' : z_fA k M B) : z_fA k M (if p then A else B) := by split <;> assumption
theorem z_fB.ite {p : Prop} [Decidable p] {M A B : ux_M} (h : z_fB M A) (h' : z_fB M B) : z_fB M (if p then A else B) := by split <;> assumption
theorem z_fW.fA {k : Nat} {M X : ux_M} (h : z_fW k M X) : z_fA k M X := fun a s r i q => h a s r i (fun z => q ⟨z.1, by omega⟩)
theorem z_fR.fB {M X : ux_M} (h : z_fR M X) : z_fB M X := fun a s r i q => h a s r i (fun z => q ⟨z.1, .inr (.inl z.2)⟩)
theorem fa_41b_16 (km4 : Nat → Int32 → Int32 → ux_M → ux_M) (hkm4 : ∀ (v0 : Nat) (v1 : Int32) (v2 : Int32) (v3 : ux_M), z_fA v0 v3 (km4 v0 v1 v2 v3)) : ∀ (a0 : Nat) (a1 : Nat) (a2 : Int32) (a3 : Int32) (a4 : Int32) (a5 : Int32) (a6 : ux_M), z_fA a1 a6 (m_41b_16 km4 a0 a1 a2 a3 a4 a5 a6) := by
  intro a0
  induction a0 with
  | zero => intro a1 a2 a3 a4 a5 a6; exact z_fA.rf
  | succ a0 ih =>
    intro a1 a2 a3 a4 a5 a6
    unfold m_41b_16
    exact (z_fA.ite (z_fA.ite z_fA.rf (z_fA.tr z_fA.rf (hkm4 _ _ _ _))) (z_fA.ite (z_fA.ite z_fA.rf (z_fA.tr z_fA.rf (hkm4 _ _ _ _))) (z_fA.ite (z_fA.tr z_fA.rf (ih _ _ _ _ _ _)) (z_fA.tr z_fA.rf (ih _ _ _ _ _ _)))))
theorem fa_41b_4 : ∀ (a0 : Nat) (a1 : Nat) (a2 : Int32) (a3 : Int32) (a4 : ux_M), z_fA a1 a4 (m_41b_4 a0 a1 a2 a3 a4) := fun a0 a1 a2 a3 a4 => (fw_41b_4 a0 a1 a2 a3 a4).fA
theorem fa_41b (k : Nat) (x1 : Int32) (M : ux_M) : z_fA k M (m_41b k x1 M) := (fw_41b k x1 M).fA
theorem fa_40b_4 : ∀ (a0 : Nat) (a1 : Nat) (a2 : Int32) (a3 : Int32) (a4 : ux_M), z_fA a1 a4 (m_40b_4 a0 a1 a2 a3 a4) := fun a0 a1 a2 a3 a4 => (fw_40b_4 a0 a1 a2 a3 a4).fA
theorem fa_40b (k : Nat) (M : ux_M) : z_fA k M (m_40b k M) := (fw_40b k M).fA
theorem fa_58_43 (k : Nat) (x1 : Int32) (x2 : Int32) (M : ux_M) : z_fA k M (m_58_43 k x1 x2 M) := (fw_58_43 k x1 x2 M).fA
theorem fa_58 (k : Nat) (x1 : Int32) (x2 : Int32) (M : ux_M) : z_fA k M (m_58 k x1 x2 M) := (fw_58 k x1 x2 M).fA
theorem fa_56_40 (mr : Nat → Int32 → Int32 → Int32 → ux_M → ux_M) (hmr : ∀ (v0 : Nat) (v1 : Int32) (v2 : Int32) (v3 : Int32) (v4 : ux_M), z_fA v0 v4 (mr v0 v1 v2 v3 v4)) : ∀ (a0 : Nat) (a1 : Nat) (a2 : Int32) (a3 : Int32) (a4 : Int32) (a5 : ux_M), z_fA a1 a5 (m_56_40 mr a0 a1 a2 a3 a4 a5) := by
  intro a0
  induction a0 with
  | zero => intro a1 a2 a3 a4 a5; exact z_fA.rf
  | succ a0 ih =>
    intro a1 a2 a3 a4 a5
    unfold m_56_40
    exact (z_fA.ite z_fA.rf (z_fA.ite (z_fA.ite (z_fA.tr z_fA.rf (ih _ _ _ _ _)) (z_fA.ite (z_fA.tr z_fA.rf (ih _ _ _ _ _)) (z_fA.tr (z_fA.tr z_fA.rf (hmr _ _ _ _ _)) (ih _ _ _ _ _)))) (z_fA.ite (z_fA.tr z_fA.rf (ih _ _ _ _ _)) (z_fA.ite (z_fA.tr z_fA.rf (ih _ _ _ _ _)) (z_fA.tr (z_fA.tr z_fA.rf (hmr _ _ _ _ _)) (ih _ _ _ _ _))))))
theorem fa_56_30 (mr : Nat → Int32 → Int32 → Int32 → ux_M → ux_M) (k : Nat) (x1 : Int32) (x3 : Int32) (M : ux_M) (hmr : ∀ (v0 : Nat) (v1 : Int32) (v2 : Int32) (v3 : Int32) (v4 : ux_M), z_fA v0 v4 (mr v0 v1 v2 v3 v4)) : z_fA k M (m_56_30 mr k x1 x3 M) := by
  unfold m_56_30
  exact (z_fA.ite (z_fA.tr z_fA.rf (fa_56_40 _ (fun w0 w1 w2 w3 w4 => hmr w0 w1 w2 w3 w4) _ _ _ _ _ _)) z_fA.rf)
theorem fab_56 (mr : Nat → Int32 → Int32 → Int32 → ux_M → ux_M) (k : Nat) (x1 : Int32) (x2 : Int32) (x3 : Int32) (M : ux_M) (hmr : ∀ (v0 : Nat) (v1 : Int32) (v2 : Int32) (v3 : Int32) (v4 : ux_M), z_fA v0 v4 (mr v0 v1 v2 v3 v4)) : z_fA k M (mb_56 mr k x1 x2 x3 M) := by
  unfold mb_56
  exact (z_fA.ite (z_fA.ite (z_fA.tr (z_fA.tr (z_fA.st (by decide) (z_fA.st (by decide) (z_fA.st (by decide) (z_fA.st (by decide) (z_fA.st (by decide) z_fA.rf))))) (fa_58 _ _ _ _)) (fa_56_30 _ _ _ _ _ (fun w0 w1 w2 w3 w4 => hmr w0 w1 w2 w3 w4) )) (z_fA.tr (z_fA.st (by decide) (z_fA.st (by decide) (z_fA.st (by decide) (z_fA.st (by decide) (z_fA.st (by decide) z_fA.rf))))) (fa_56_30 _ _ _ _ _ (fun w0 w1 w2 w3 w4 => hmr w0 w1 w2 w3 w4) ))) (z_fA.tr (z_fA.st (by decide) (z_fA.st (by decide) (z_fA.st (by decide) (z_fA.st (by decide) (z_fA.st (by decide) z_fA.rf))))) (fa_56_30 _ _ _ _ _ (fun w0 w1 w2 w3 w4 => hmr w0 w1 w2 w3 w4) )))
theorem faF_56   : ∀ (a0 : Nat) (a1 : Nat) (a2 : Int32) (a3 : Int32) (a4 : Int32) (a5 : ux_M), z_fA a1 a5 (mF_56 a0 a1 a2 a3 a4 a5) := by
  intro a0
  induction a0 with
  | zero => intro a1 a2 a3 a4 a5; exact z_fA.rf
  | succ a0 ih =>
    intro a1 a2 a3 a4 a5
    unfold mF_56; (try dsimp only)
    repeat (first | with_reducible exact z_fA.rf | with_reducible refine z_fA.ite ?_ ?_ | with_reducible refine z_fA.st (by omega) ?_ | with_reducible refine z_fA.tr ?_ (fab_56 _ _ _ _ _ _ (fun _ _ _ _ _ => by first | exact ih _ _ _ _ _ | exact ih _ _ _ _ | exact ih _ _ _ | exact ih _ _ | exact ih _) ) | with_reducible refine z_fA.tr ?_ (ih _ _ _ _ _))
theorem fa_56 (k : Nat) (x1 : Int32) (x2 : Int32) (x3 : Int32) (M : ux_M) : z_fA k M (m_56 k x1 x2 x3 M) := (fw_56 k x1 x2 x3 M).fA
theorem fa_60 (k : Nat) (x1 : Int32) (M : ux_M) : z_fA k M (m_60 k x1 M) := (fw_60 k x1 M).fA
theorem fa_59_79 (k : Nat) (x1 : Int32) (x2 : Int32) (M : ux_M) : z_fA k M (m_59_79 k x1 x2 M) := (fw_59_79 k x1 x2 M).fA
theorem fa_59_48 (k : Nat) (x1 : Int32) (x2 : Int32) (z0 : Int32) (M : ux_M) : z_fA k M (m_59_48 k x1 x2 z0 M) := (fw_59_48 k x1 x2 z0 M).fA
theorem fa_59_43 (k : Nat) (x1 : Int32) (x2 : Int32) (M : ux_M) : z_fA k M (m_59_43 k x1 x2 M) := (fw_59_43 k x1 x2 M).fA
theorem fa_59_47 (k : Nat) (x1 : Int32) (x2 : Int32) (M : ux_M) : z_fA k M (m_59_47 k x1 x2 M) := (fw_59_47 k x1 x2 M).fA
theorem fa_59_14 (k : Nat) (x1 : Int32) (x2 : Int32) (z0 : Int32) (z1 : Int32) (M : ux_M) : z_fA k M (m_59_14 k x1 x2 z0 z1 M) := (fw_59_14 k x1 x2 z0 z1 M).fA
theorem fa_59 (k : Nat) (x1 : Int32) (x2 : Int32) (M : ux_M) : z_fA k M (m_59 k x1 x2 M) := (fw_59 k x1 x2 M).fA
theorem fa_52_69 : ∀ (a0 : Nat) (a1 : Nat) (a2 : Int32) (a3 : Int32) (a4 : Int32) (a5 : ux_M), z_fA a1 a5 (m_52_69 a0 a1 a2 a3 a4 a5) := fun a0 a1 a2 a3 a4 a5 => (fw_52_69 a0 a1 a2 a3 a4 a5).fA
theorem fa_52_17 (k : Nat) (x1 : Int32) (z0 : Int32) (M : ux_M) : z_fA k M (m_52_17 k x1 z0 M) := (fw_52_17 k x1 z0 M).fA
theorem fa_52 (k : Nat) (x1 : Int32) (M : ux_M) : z_fA k M (m_52 k x1 M) := (fw_52 k x1 M).fA
theorem fa_61 (k : Nat) (x1 : Int32) (M : ux_M) : z_fA k M (m_61 k x1 M) := (fw_61 k x1 M).fA
theorem fa_62 (k : Nat) (x1 : Int32) (M : ux_M) : z_fA k M (m_62 k x1 M) := (fw_62 k x1 M).fA
theorem fa_66_79 (km51 : Nat → Int32 → Int32 → ux_M → ux_M) (hkm51 : ∀ (v0 : Nat) (v1 : Int32) (v2 : Int32) (v3 : ux_M), z_fA v0 v3 (km51 v0 v1 v2 v3)) : ∀ (a0 : Nat) (a1 : Nat) (a2 : Int32) (a3 : Int32) (a4 : Int32) (a5 : Int32) (a6 : Int32) (a7 : Int32) (a8 : ux_M), z_fA a1 a8 (m_66_79 km51 a0 a1 a2 a3 a4 a5 a6 a7 a8) := by
  intro a0
  induction a0 with
  | zero => intro a1 a2 a3 a4 a5 a6 a7 a8; exact z_fA.rf
  | succ a0 ih =>
    intro a1 a2 a3 a4 a5 a6 a7 a8
    unfold m_66_79
    exact (z_fA.ite (z_fA.ite (z_fA.ite (z_fA.ite (z_fA.st (by decide) (z_fA.st (by decide) z_fA.rf)) (z_fA.tr z_fA.rf (hkm51 _ _ _ _))) (z_fA.tr z_fA.rf (hkm51 _ _ _ _))) (z_fA.tr z_fA.rf (hkm51 _ _ _ _))) (z_fA.ite (z_fA.ite (z_fA.ite (z_fA.tr z_fA.rf (ih _ _ _ _ _ _ _ _)) (z_fA.tr (z_fA.st (by decide) z_fA.rf) (ih _ _ _ _ _ _ _ _))) (z_fA.ite (z_fA.tr (z_fA.st (by decide) (z_fA.st (by decide) z_fA.rf)) (ih _ _ _ _ _ _ _ _)) (z_fA.tr (z_fA.st (by decide) (z_fA.st (by decide) (z_fA.st (by decide) z_fA.rf))) (ih _ _ _ _ _ _ _ _)))) (z_fA.ite (z_fA.ite (z_fA.tr (z_fA.st (by decide) (z_fA.st (by decide) z_fA.rf)) (ih _ _ _ _ _ _ _ _)) (z_fA.tr (z_fA.st (by decide) (z_fA.st (by decide) (z_fA.st (by decide) z_fA.rf))) (ih _ _ _ _ _ _ _ _))) (z_fA.ite (z_fA.tr (z_fA.st (by decide) (z_fA.st (by decide) (z_fA.st (by decide) (z_fA.st (by decide) z_fA.rf)))) (ih _ _ _ _ _ _ _ _)) (z_fA.tr (z_fA.st (by decide) (z_fA.st (by decide) (z_fA.st (by decide) (z_fA.st (by decide) (z_fA.st (by decide) z_fA.rf))))) (ih _ _ _ _ _ _ _ _))))))
theorem fa_66_51   : ∀ (a0 : Nat) (a1 : Nat) (a2 : Int32) (a3 : Int32) (a4 : ux_M), z_fA a1 a4 (m_66_51 a0 a1 a2 a3 a4) := by
  intro a0
  induction a0 with
  | zero => intro a1 a2 a3 a4; exact z_fA.rf
  | succ a0 ih =>
    intro a1 a2 a3 a4
    unfold m_66_51
    exact (z_fA.ite (z_fA.st (by decide) (z_fA.st (by decide) z_fA.rf)) (z_fA.tr z_fA.rf (fa_66_79 _ (fun w0 w1 w2 w3 => ih w0 w1 w2 w3) _ _ _ _ _ _ _ _ _)))
theorem fa_66_29 (k : Nat) (x2 : Int32) (x3 : Int32) (x4 : Int32) (z0 : Int32) (M : ux_M)  : z_fA k M (m_66_29 k x2 x3 x4 z0 M) := by
  unfold m_66_29
  exact (z_fA.ite (z_fA.tr (z_fA.st (by decide) (z_fA.st (by decide) z_fA.rf)) (fa_66_51 _ _ _ _ _)) (z_fA.tr (z_fA.st (by decide) (z_fA.st (by decide) z_fA.rf)) (fa_66_51 _ _ _ _ _)))
theorem fa_66_13 (k : Nat) (x2 : Int32) (x3 : Int32) (x4 : Int32) (z0 : Int32) (M : ux_M)  : z_fA k M (m_66_13 k x2 x3 x4 z0 M) := by
  unfold m_66_13
  exact (z_fA.ite (z_fA.tr (z_fA.st (by decide) z_fA.rf) (fa_66_29 _ _ _ _ _ _)) (z_fA.tr (z_fA.st (by decide) z_fA.rf) (fa_66_29 _ _ _ _ _ _)))
theorem fa_66 (k : Nat) (x2 : Int32) (x3 : Int32) (x4 : Int32) (M : ux_M)  : z_fA k M (m_66 k x2 x3 x4 M) := by
  unfold m_66
  exact (z_fA.ite (z_fA.tr z_fA.rf (fa_66_13 _ _ _ _ _ _)) (z_fA.tr z_fA.rf (fa_66_13 _ _ _ _ _ _)))
theorem fa_67_38 (km18 : Nat → Int32 → ux_M → ux_M) (hkm18 : ∀ (v0 : Nat) (v1 : Int32) (v2 : ux_M), z_fA v0 v2 (km18 v0 v1 v2)) : ∀ (a0 : Nat) (a1 : Nat) (a2 : Int32) (a3 : Int32) (a4 : Int32) (a5 : Int32) (a6 : ux_M), z_fA a1 a6 (m_67_38 km18 a0 a1 a2 a3 a4 a5 a6) := by
  intro a0
  induction a0 with
  | zero => intro a1 a2 a3 a4 a5 a6; exact z_fA.rf
  | succ a0 ih =>
    intro a1 a2 a3 a4 a5 a6
    unfold m_67_38
    exact (z_fA.ite (z_fA.ite (z_fA.ite z_fA.rf (z_fA.tr z_fA.rf (hkm18 _ _ _))) (z_fA.tr z_fA.rf (hkm18 _ _ _))) (z_fA.ite (z_fA.ite (z_fA.tr z_fA.rf (ih _ _ _ _ _ _)) (z_fA.tr (z_fA.st (by decide) z_fA.rf) (ih _ _ _ _ _ _))) (z_fA.ite (z_fA.tr (z_fA.st (by decide) (z_fA.st (by decide) z_fA.rf)) (ih _ _ _ _ _ _)) (z_fA.tr (z_fA.st (by decide) (z_fA.st (by decide) (z_fA.st (by decide) z_fA.rf))) (ih _ _ _ _ _ _)))))
theorem fa_67_18   : ∀ (a0 : Nat) (a1 : Nat) (a2 : Int32) (a3 : ux_M), z_fA a1 a3 (m_67_18 a0 a1 a2 a3) := by
  intro a0
  induction a0 with
  | zero => intro a1 a2 a3; exact z_fA.rf
  | succ a0 ih =>
    intro a1 a2 a3
    unfold m_67_18
    exact (z_fA.ite z_fA.rf (z_fA.tr z_fA.rf (fa_67_38 _ (fun w0 w1 w2 => ih w0 w1 w2) _ _ _ _ _ _ _)))
theorem fa_67 (k : Nat) (M : ux_M)  : z_fA k M (m_67 k M) := by
  unfold m_67
  exact (z_fA.tr (z_fA.st (by decide) (z_fA.st (by decide) z_fA.rf)) (fa_67_18 _ _ _ _))
theorem fa_68 (k : Nat) (x1 : Int32) (M : ux_M)  : z_fA k M (m_68 k x1 M) := by
  unfold m_68
  exact (z_fA.ite (z_fA.st (by decide) z_fA.rf) (z_fA.st (by decide) z_fA.rf))
theorem fa_69_2   : ∀ (a0 : Nat) (a1 : Nat) (a2 : Int32) (a3 : ux_M), z_fA a1 a3 (m_69_2 a0 a1 a2 a3) := by
  intro a0
  induction a0 with
  | zero => intro a1 a2 a3; exact z_fA.rf
  | succ a0 ih =>
    intro a1 a2 a3
    unfold m_69_2
    exact (z_fA.ite z_fA.rf (z_fA.tr (z_fA.st (by decide) z_fA.rf) (ih _ _ _)))
theorem fa_69 (k : Nat) (M : ux_M)  : z_fA k M (m_69 k M) := by
  unfold m_69
  exact (z_fA.tr z_fA.rf (fa_69_2 _ _ _ _))
theorem fa_73 (k : Nat) (x1 : Int32) (M : ux_M)  : z_fA k M (m_73 k x1 M) := by
  unfold m_73
  exact (z_fA.ite (z_fA.st (by decide) z_fA.rf) (z_fA.st (by decide) z_fA.rf))
theorem fa_65_113   : ∀ (a0 : Nat) (a1 : Nat) (a2 : Int32) (a3 : Int32) (a4 : Int32) (a5 : ux_M), z_fA a1 a5 (m_65_113 a0 a1 a2 a3 a4 a5) := by
  intro a0
  induction a0 with
  | zero => intro a1 a2 a3 a4 a5; exact z_fA.rf
  | succ a0 ih =>
    intro a1 a2 a3 a4 a5
    unfold m_65_113
    exact (z_fA.ite z_fA.rf (z_fA.ite (z_fA.ite (z_fA.tr (z_fA.tr (z_fA.st (by decide) (z_fA.st (by decide) (z_fA.tr z_fA.rf (fa_67 _ _)))) (fa_69 _ _)) (fa_40b _ _)) (z_fA.ite (z_fA.tr (z_fA.tr (z_fA.st (by decide) (z_fA.st (by decide) (z_fA.tr z_fA.rf (fa_67 _ _)))) (fa_69 _ _)) (fa_40b _ _)) (z_fA.tr (z_fA.tr (z_fA.tr (z_fA.tr (z_fA.st (by decide) (z_fA.st (by decide) (z_fA.tr z_fA.rf (fa_67 _ _)))) (fa_69 _ _)) (fa_40b _ _)) (fa_73 _ _ _)) (ih _ _ _ _ _)))) (z_fA.tr (z_fA.tr (z_fA.tr z_fA.rf (fa_67 _ _)) (fa_68 _ _ _)) (ih _ _ _ _ _))))
theorem fa_65 (k : Nat) (x2 : Int32) (x3 : Int32) (M : ux_M)  : z_fA k M (m_65 k x2 x3 M) := by
  unfold m_65
  exact (z_fA.ite (z_fA.ite (z_fA.tr (z_fA.st (by decide) (z_fA.st (by decide) (z_fA.tr z_fA.rf (fa_66 _ _ _ _ _)))) (fa_65_113 _ _ _ _ _ _)) (z_fA.tr z_fA.rf (fa_66 _ _ _ _ _))) (z_fA.tr z_fA.rf (fa_66 _ _ _ _ _)))
theorem fa_76_53 (k : Nat) (x2 : Int32) (x3 : Int32) (z0 : Int32) (M : ux_M) : z_fA k M (m_76_53 k x2 x3 z0 M) := (fw_76_53 k x2 x3 z0 M).fA
theorem fa_76_27 (k : Nat) (x2 : Int32) (x3 : Int32) (z0 : Int32) (M : ux_M) : z_fA k M (m_76_27 k x2 x3 z0 M) := (fw_76_27 k x2 x3 z0 M).fA
theorem fa_76 (k : Nat) (x1 : Int32) (x2 : Int32) (M : ux_M) : z_fA k M (m_76 k x1 x2 M) := (fw_76 k x1 x2 M).fA
theorem fa_74_2 : ∀ (a0 : Nat) (a1 : Nat) (a2 : Int32) (a3 : ux_M), z_fA a1 a3 (m_74_2 a0 a1 a2 a3) := fun a0 a1 a2 a3 => (fw_74_2 a0 a1 a2 a3).fA
theorem fa_74 (k : Nat) (M : ux_M) : z_fA k M (m_74 k M) := (fw_74 k M).fA
theorem fa_64_65 (k : Nat) (M : ux_M) : z_fA k M (m_64_65 k M) := (fw_64_65 k M).fA
theorem fa_64 (k : Nat) (x1 : Int32) (x2 : Int32) (x3 : Int32) (M : ux_M)  : z_fA k M (m_64 k x1 x2 x3 M) := by
  unfold m_64
  exact (z_fA.ite (z_fA.ite (z_fA.tr (z_fA.tr z_fA.rf (fa_65 _ _ _ _)) (fa_64_65 _ _)) (z_fA.ite (z_fA.tr z_fA.rf (fa_65 _ _ _ _)) (z_fA.tr (z_fA.tr z_fA.rf (fa_65 _ _ _ _)) (fa_64_65 _ _)))) (z_fA.tr z_fA.rf (fa_65 _ _ _ _)))
theorem fa_63_2   : ∀ (a0 : Nat) (a1 : Nat) (a2 : Int32) (a3 : Int32) (a4 : ux_M), z_fA a1 a4 (m_63_2 a0 a1 a2 a3 a4) := by
  intro a0
  induction a0 with
  | zero => intro a1 a2 a3 a4; exact z_fA.rf
  | succ a0 ih =>
    intro a1 a2 a3 a4
    unfold m_63_2
    exact (z_fA.ite z_fA.rf (z_fA.ite (z_fA.ite (z_fA.tr z_fA.rf (ih _ _ _ _)) (z_fA.ite (z_fA.tr (z_fA.tr z_fA.rf (fa_64 _ _ _ _ _)) (ih _ _ _ _)) (z_fA.ite (z_fA.tr (z_fA.tr z_fA.rf (fa_64 _ _ _ _ _)) (ih _ _ _ _)) (z_fA.tr z_fA.rf (ih _ _ _ _))))) (z_fA.ite (z_fA.tr z_fA.rf (ih _ _ _ _)) (z_fA.ite (z_fA.tr (z_fA.tr z_fA.rf (fa_64 _ _ _ _ _)) (ih _ _ _ _)) (z_fA.ite (z_fA.tr (z_fA.tr z_fA.rf (fa_64 _ _ _ _ _)) (ih _ _ _ _)) (z_fA.tr z_fA.rf (ih _ _ _ _)))))))
theorem fa_63 (k : Nat) (x1 : Int32) (M : ux_M)  : z_fA k M (m_63 k x1 M) := by
  unfold m_63
  exact (z_fA.tr z_fA.rf (fa_63_2 _ _ _ _ _))
theorem fa_77 (k : Nat) (x1 : Int32) (M : ux_M) : z_fA k M (m_77 k x1 M) := (fw_77 k x1 M).fA
theorem fa_51 (k : Nat) (x1 : Int32) (M : ux_M)  : z_fA k M (m_51 k x1 M) := by
  unfold m_51
  exact (z_fA.ite (z_fA.tr z_fA.rf (fa_52 _ _ _)) (z_fA.ite (z_fA.ite (z_fA.tr (z_fA.tr z_fA.rf (fa_62 _ _ _)) (fa_63 _ _ _)) (z_fA.ite (z_fA.tr (z_fA.tr z_fA.rf (fa_59 _ _ _ _)) (fa_63 _ _ _)) (z_fA.tr (z_fA.tr z_fA.rf (fa_62 _ _ _)) (fa_63 _ _ _)))) (z_fA.ite (z_fA.tr z_fA.rf (fa_61 _ _ _)) (z_fA.tr z_fA.rf (fa_77 _ _ _)))))
theorem fa_84 (k : Nat) (x1 : Int32) (M : ux_M) : z_fA k M (m_84 k x1 M) := (fw_84 k x1 M).fA
theorem fa_83_22 : ∀ (a0 : Nat) (a1 : Nat) (a2 : Int32) (a3 : Int32) (a4 : ux_M), z_fA a1 a4 (m_83_22 a0 a1 a2 a3 a4) := fun a0 a1 a2 a3 a4 => (fw_83_22 a0 a1 a2 a3 a4).fA
theorem fa_83 (k : Nat) (x1 : Int32) (M : ux_M) : z_fA k M (m_83 k x1 M) := (fw_83 k x1 M).fA
theorem fa_85 (k : Nat) (x1 : Int32) (M : ux_M) : z_fA k M (m_85 k x1 M) := (fw_85 k x1 M).fA
theorem fa_80_103 (k : Nat) (x1 : Int32) (M : ux_M) : z_fA k M (m_80_103 k x1 M) := (fw_80_103 k x1 M).fA
theorem fa_80 (k : Nat) (x1 : Int32) (M : ux_M) : z_fA k M (m_80 k x1 M) := (fw_80 k x1 M).fA
theorem fa_87 (k : Nat) (x1 : Int32) (M : ux_M) : z_fA k M (m_87 k x1 M) := (fw_87 k x1 M).fA
theorem fa_86 (k : Nat) (x1 : Int32) (M : ux_M) : z_fA k M (m_86 k x1 M) := (fw_86 k x1 M).fA
theorem fa_88 (k : Nat) (x1 : Int32) (M : ux_M) : z_fA k M (m_88 k x1 M) := (fw_88 k x1 M).fA
theorem fa_78_12 (km2 : Nat → Int32 → ux_M → ux_M) (hkm2 : ∀ (v0 : Nat) (v1 : Int32) (v2 : ux_M), z_fA v0 v2 (km2 v0 v1 v2)) : ∀ (a0 : Nat) (a1 : Nat) (a2 : Int32) (a3 : Int32) (a4 : Int32) (a5 : ux_M), z_fA a1 a5 (m_78_12 km2 a0 a1 a2 a3 a4 a5) := by
  intro a0
  induction a0 with
  | zero => intro a1 a2 a3 a4 a5; exact z_fA.rf
  | succ a0 ih =>
    intro a1 a2 a3 a4 a5
    unfold m_78_12
    exact (z_fA.ite (z_fA.ite z_fA.rf (z_fA.tr z_fA.rf (hkm2 _ _ _))) (z_fA.ite (z_fA.ite (z_fA.ite (z_fA.ite (z_fA.tr z_fA.rf (ih _ _ _ _ _)) (z_fA.ite (z_fA.tr (z_fA.tr z_fA.rf (fa_80 _ _ _)) (ih _ _ _ _ _)) (z_fA.ite (z_fA.tr (z_fA.tr z_fA.rf (fa_86 _ _ _)) (ih _ _ _ _ _)) (z_fA.tr (z_fA.tr z_fA.rf (fa_88 _ _ _)) (ih _ _ _ _ _))))) (z_fA.ite (z_fA.tr (z_fA.tr z_fA.rf (fa_80 _ _ _)) (ih _ _ _ _ _)) (z_fA.ite (z_fA.tr (z_fA.tr z_fA.rf (fa_86 _ _ _)) (ih _ _ _ _ _)) (z_fA.tr (z_fA.tr z_fA.rf (fa_88 _ _ _)) (ih _ _ _ _ _))))) (z_fA.tr z_fA.rf (ih _ _ _ _ _))) (z_fA.tr z_fA.rf (ih _ _ _ _ _))))
theorem fa_78_2 : ∀ (a0 : Nat) (a1 : Nat) (a2 : Int32) (a3 : ux_M), z_fA a1 a3 (m_78_2 a0 a1 a2 a3) := fun a0 a1 a2 a3 => (fw_78_2 a0 a1 a2 a3).fA
theorem fa_78 (k : Nat) (M : ux_M) : z_fA k M (m_78 k M) := (fw_78 k M).fA
theorem fa_50_31 (km2 : Nat → Int32 → Int32 → ux_M → ux_M) (hkm2 : ∀ (v0 : Nat) (v1 : Int32) (v2 : Int32) (v3 : ux_M), z_fA v0 v3 (km2 v0 v1 v2 v3)) : ∀ (a0 : Nat) (a1 : Nat) (a2 : Int32) (a3 : Int32) (a4 : Int32) (a5 : ux_M), z_fA a1 a5 (m_50_31 km2 a0 a1 a2 a3 a4 a5) := by
  intro a0
  induction a0 with
  | zero => intro a1 a2 a3 a4 a5; exact z_fA.rf
  | succ a0 ih =>
    intro a1 a2 a3 a4 a5
    unfold m_50_31
    exact (z_fA.ite (z_fA.tr (z_fA.tr z_fA.rf (fa_78 _ _)) (hkm2 _ _ _ _)) (z_fA.ite (z_fA.tr (z_fA.tr z_fA.rf (fa_51 _ _ _)) (ih _ _ _ _ _)) (z_fA.tr z_fA.rf (ih _ _ _ _ _))))
theorem fa_50_2   : ∀ (a0 : Nat) (a1 : Nat) (a2 : Int32) (a3 : Int32) (a4 : ux_M), z_fA a1 a4 (m_50_2 a0 a1 a2 a3 a4) := by
  intro a0
  induction a0 with
  | zero => intro a1 a2 a3 a4; exact z_fA.rf
  | succ a0 ih =>
    intro a1 a2 a3 a4
    unfold m_50_2
    exact (z_fA.ite z_fA.rf (z_fA.ite z_fA.rf (z_fA.tr (z_fA.st (by decide) z_fA.rf) (fa_50_31 _ (fun w0 w1 w2 w3 => ih w0 w1 w2 w3) _ _ _ _ _ _))))
theorem fa_50 (k : Nat) (x1 : Int32) (M : ux_M)  : z_fA k M (m_50 k x1 M) := by
  unfold m_50
  exact (z_fA.tr z_fA.rf (fa_50_2 _ _ _ _ _))
theorem fa_91 (k : Nat) (x1 : Int32) (x2 : Int32) (M : ux_M)  : z_fA k M (m_91 k x1 x2 M) := by
  unfold m_91
  exact (z_fA.ite (z_fA.tr (z_fA.tr z_fA.rf (fa_59 _ _ _ _)) (fa_63 _ _ _)) (z_fA.ite (z_fA.tr (z_fA.tr z_fA.rf (fa_56 _ _ _ _ _)) (fa_59 _ _ _ _)) (z_fA.tr z_fA.rf (fa_59 _ _ _ _))))
theorem fa_106_34 (km25 : Nat → Int32 → Int32 → Int32 → ux_M → ux_M) (hkm25 : ∀ (v0 : Nat) (v1 : Int32) (v2 : Int32) (v3 : Int32) (v4 : ux_M), z_fA v0 v4 (km25 v0 v1 v2 v3 v4)) : ∀ (a0 : Nat) (a1 : Nat) (a2 : Int32) (a3 : Int32) (a4 : Int32) (a5 : Int32) (a6 : ux_M), z_fA a1 a6 (m_106_34 km25 a0 a1 a2 a3 a4 a5 a6) := by
  intro a0
  induction a0 with
  | zero => intro a1 a2 a3 a4 a5 a6; exact z_fA.rf
  | succ a0 ih =>
    intro a1 a2 a3 a4 a5 a6
    unfold m_106_34
    exact (z_fA.ite (z_fA.tr z_fA.rf (hkm25 _ _ _ _ _)) (z_fA.ite (z_fA.tr z_fA.rf (ih _ _ _ _ _ _)) (z_fA.tr (z_fA.st (by decide) z_fA.rf) (ih _ _ _ _ _ _))))
theorem fa_106_25   : ∀ (a0 : Nat) (a1 : Nat) (a2 : Int32) (a3 : Int32) (a4 : Int32) (a5 : ux_M), z_fA a1 a5 (m_106_25 a0 a1 a2 a3 a4 a5) := by
  intro a0
  induction a0 with
  | zero => intro a1 a2 a3 a4 a5; exact z_fA.rf
  | succ a0 ih =>
    intro a1 a2 a3 a4 a5
    unfold m_106_25
    exact (z_fA.ite z_fA.rf (z_fA.tr z_fA.rf (fa_106_34 _ (fun w0 w1 w2 w3 w4 => ih w0 w1 w2 w3 w4) _ _ _ _ _ _ _)))
theorem fa_106_2   : ∀ (a0 : Nat) (a1 : Nat) (a2 : Int32) (a3 : Int32) (a4 : ux_M), z_fA a1 a4 (m_106_2 a0 a1 a2 a3 a4) := by
  intro a0
  induction a0 with
  | zero => intro a1 a2 a3 a4; exact z_fA.rf
  | succ a0 ih =>
    intro a1 a2 a3 a4
    unfold m_106_2
    exact (z_fA.ite (z_fA.tr z_fA.rf (fa_106_25 _ _ _ _ _ _)) (z_fA.tr (z_fA.st (by decide) z_fA.rf) (ih _ _ _ _)))
theorem fa_106 (k : Nat) (x1 : Int32) (M : ux_M)  : z_fA k M (m_106 k x1 M) := by
  unfold m_106
  exact (z_fA.tr z_fA.rf (fa_106_2 _ _ _ _ _))
theorem fa_105_2   : ∀ (a0 : Nat) (a1 : Nat) (a2 : Int32) (a3 : ux_M), z_fA a1 a3 (m_105_2 a0 a1 a2 a3) := by
  intro a0
  induction a0 with
  | zero => intro a1 a2 a3; exact z_fA.rf
  | succ a0 ih =>
    intro a1 a2 a3
    unfold m_105_2
    exact (z_fA.ite (z_fA.tr z_fA.rf (fa_106 _ _ _)) (z_fA.tr (z_fA.st (by decide) z_fA.rf) (ih _ _ _)))
theorem fa_105 (k : Nat) (M : ux_M)  : z_fA k M (m_105 k M) := by
  unfold m_105
  exact (z_fA.tr z_fA.rf (fa_105_2 _ _ _ _))
theorem fa_109 (k : Nat) (x1 : Int32) (M : ux_M) : z_fA k M (m_109 k x1 M) := (fw_109 k x1 M).fA
theorem fa_117_24 (k : Nat) (x1 : Int32) (z0 : Int32) (M : ux_M)  : z_fA k M (m_117_24 k x1 z0 M) := by
  unfold m_117_24
  exact (z_fA.ite z_fA.rf (z_fA.ite (z_fA.ite (z_fA.tr z_fA.rf (fa_64 _ _ _ _ _)) z_fA.rf) z_fA.rf))
theorem fa_117_19 (k : Nat) (x1 : Int32) (M : ux_M)  : z_fA k M (m_117_19 k x1 M) := by
  unfold m_117_19
  exact (z_fA.tr z_fA.rf (fa_117_24 _ _ _ _))
theorem fa_117 (k : Nat) (x1 : Int32) (M : ux_M)  : z_fA k M (m_117 k x1 M) := by
  unfold m_117
  exact (z_fA.ite (z_fA.tr z_fA.rf (fa_117_19 _ _ _)) (z_fA.ite (z_fA.tr z_fA.rf (fa_117_19 _ _ _)) (z_fA.tr z_fA.rf (fa_117_24 _ _ _ _))))
theorem fa_116_33   : ∀ (a0 : Nat) (a1 : Nat) (a2 : Int32) (a3 : Int32) (a4 : Int32) (a5 : Int32) (a6 : Int32) (a7 : ux_M), z_fA a1 a7 (m_116_33 a0 a1 a2 a3 a4 a5 a6 a7) := by
  intro a0
  induction a0 with
  | zero => intro a1 a2 a3 a4 a5 a6 a7; exact z_fA.rf
  | succ a0 ih =>
    intro a1 a2 a3 a4 a5 a6 a7
    unfold m_116_33
    exact (z_fA.ite z_fA.rf (z_fA.ite (z_fA.tr (z_fA.st (by decide) (z_fA.st (by decide) z_fA.rf)) (ih _ _ _ _ _ _ _)) (z_fA.ite (z_fA.tr (z_fA.tr (z_fA.st (by decide) z_fA.rf) (fa_117 _ _ _)) (ih _ _ _ _ _ _ _)) (z_fA.tr (z_fA.st (by decide) z_fA.rf) (ih _ _ _ _ _ _ _)))))
theorem fa_116 (k : Nat) (x1 : Int32) (x2 : Int32) (M : ux_M)  : z_fA k M (m_116 k x1 x2 M) := by
  unfold m_116
  exact (z_fA.ite z_fA.rf (z_fA.ite (z_fA.tr z_fA.rf (fa_116_33 _ _ _ _ _ _ _ _)) z_fA.rf))
theorem fa_120_35 (k : Nat) (x1 : Int32) (M : ux_M) : z_fA k M (m_120_35 k x1 M) := (fw_120_35 k x1 M).fA
theorem fa_120 (k : Nat) (x1 : Int32) (M : ux_M) : z_fA k M (m_120 k x1 M) := (fw_120 k x1 M).fA
theorem fa_142_2   : ∀ (a0 : Nat) (a1 : Nat) (a2 : Int32) (a3 : ux_M), z_fA a1 a3 (m_142_2 a0 a1 a2 a3) := by
  intro a0
  induction a0 with
  | zero => intro a1 a2 a3; exact z_fA.rf
  | succ a0 ih =>
    intro a1 a2 a3
    unfold m_142_2
    exact (z_fA.ite (z_fA.tr z_fA.rf (fa_106 _ _ _)) (z_fA.ite (z_fA.ite (z_fA.tr (z_fA.st (by decide) z_fA.rf) (ih _ _ _)) (z_fA.tr (z_fA.st (by decide) z_fA.rf) (ih _ _ _))) (z_fA.ite (z_fA.tr (z_fA.st (by decide) z_fA.rf) (ih _ _ _)) (z_fA.tr (z_fA.st (by decide) z_fA.rf) (ih _ _ _)))))
theorem fa_142 (k : Nat) (M : ux_M)  : z_fA k M (m_142 k M) := by
  unfold m_142
  exact (z_fA.tr z_fA.rf (fa_142_2 _ _ _ _))
theorem fb_191_51 (x1 : Int32) (x2 : Int32) (M : ux_M) : z_fB M (m_191_51 x1 x2 M) := (fr_191_51 x1 x2 M).fB
theorem fb_191_14 : ∀ (a0 : Nat) (a1 : Int32) (a2 : Int32) (a3 : Int32) (a4 : ux_M), z_fB a4 (m_191_14 a0 a1 a2 a3 a4) := fun a0 a1 a2 a3 a4 => (fr_191_14 a0 a1 a2 a3 a4).fB
theorem fb_191 (x1 : Int32) (x2 : Int32) (M : ux_M) : z_fB M (m_191 x1 x2 M) := (fr_191 x1 x2 M).fB
theorem fb_190 (x1 : Int32) (x2 : Int32) (M : ux_M) : z_fB M (m_190 x1 x2 M) := (fr_190 x1 x2 M).fB
theorem fb_189 (x1 : Int32) (M : ux_M) : z_fB M (m_189 x1 M) := (fr_189 x1 M).fB
theorem fb_186_2 (mr : Int32 → ux_M → ux_M) (hmr : ∀ (v0 : Int32) (v1 : ux_M), z_fB v1 (mr v0 v1)) : ∀ (a0 : Nat) (a1 : Int32) (a2 : Int32) (a3 : ux_M), z_fB a3 (m_186_2 mr a0 a1 a2 a3) := by
  intro a0
  induction a0 with
  | zero => intro a1 a2 a3; exact z_fB.rf
  | succ a0 ih =>
    intro a1 a2 a3
    unfold m_186_2
    exact (z_fB.ite z_fB.rf (z_fB.ite (z_fB.ite (z_fB.tr z_fB.rf (ih _ _ _)) (z_fB.ite (z_fB.tr (z_fB.tr (z_fB.tr (z_fB.pt (z_fB.pt (z_fB.pt z_fB.rf))) (fb_189 _ _)) (hmr _ _)) (ih _ _ _)) (z_fB.tr z_fB.rf (ih _ _ _)))) (z_fB.tr z_fB.rf (ih _ _ _))))
theorem fbb_186 (mr : Int32 → ux_M → ux_M) (x1 : Int32) (M : ux_M) (hmr : ∀ (v0 : Int32) (v1 : ux_M), z_fB v1 (mr v0 v1)) : z_fB M (mb_186 mr x1 M) := by
  unfold mb_186
  exact (z_fB.tr z_fB.rf (fb_186_2 _ (fun w0 w1 => hmr w0 w1) _ _ _ _))
theorem fbF_186   : ∀ (a0 : Nat) (a1 : Int32) (a2 : ux_M), z_fB a2 (mF_186 a0 a1 a2) := by
  intro a0
  induction a0 with
  | zero => intro a1 a2; exact z_fB.rf
  | succ a0 ih =>
    intro a1 a2
    unfold mF_186; (try dsimp only)
    repeat (first | with_reducible exact z_fB.rf | with_reducible refine z_fB.ite ?_ ?_ | with_reducible refine z_fB.st (by unfold z_bS; omega) ?_ | with_reducible refine z_fB.pt ?_ | with_reducible refine z_fB.tr ?_ (fbb_186 _ _ _ (fun _ _ => by first | exact ih _ _ | exact ih _ _ _ _ | exact ih _ _ _ | exact ih _ _ | exact ih _) ) | with_reducible refine z_fB.tr ?_ (ih _ _))
theorem fb_186 (x1 : Int32) (M : ux_M) : z_fB M (m_186 x1 M) := (fr_186 x1 M).fB
theorem fb_182 (x1 : Int32) (x2 : Int32) (M : ux_M) : z_fB M (m_182 x1 x2 M) := (fr_182 x1 x2 M).fB
theorem fb_199_197 (x1 : Int32) (x4 : Int32) (x5 : Int32) (z0 : Int32) (M : ux_M)  : z_fB M (m_199_197 x1 x4 x5 z0 M) := by
  unfold m_199_197
  exact (z_fB.ite (z_fB.st (.inr (.inr (.inr (.inl rfl)))) (z_fB.st (.inr (.inr (.inl rfl))) (z_fB.st (.inl ⟨rfl, .inl rfl⟩) z_fB.rf))) (z_fB.st (.inr (.inr (.inr (.inl rfl)))) (z_fB.st (.inr (.inr (.inl rfl))) (z_fB.st (.inl ⟨rfl, .inl rfl⟩) z_fB.rf))))
theorem fb_199_192 (x1 : Int32) (x4 : Int32) (x5 : Int32) (M : ux_M)  : z_fB M (m_199_192 x1 x4 x5 M) := by
  unfold m_199_192
  exact (z_fB.tr z_fB.rf (fb_199_197 _ _ _ _ _))
theorem fb_199_196 (x1 : Int32) (x4 : Int32) (x5 : Int32) (M : ux_M)  : z_fB M (m_199_196 x1 x4 x5 M) := by
  unfold m_199_196
  exact (z_fB.tr z_fB.rf (fb_199_197 _ _ _ _ _))
theorem fb_199_151 (x1 : Int32) (x4 : Int32) (x5 : Int32) (M : ux_M)  : z_fB M (m_199_151 x1 x4 x5 M) := by
  unfold m_199_151
  exact (z_fB.ite (z_fB.ite (z_fB.ite (z_fB.tr z_fB.rf (fb_199_196 _ _ _ _)) (z_fB.ite (z_fB.tr z_fB.rf (fb_199_196 _ _ _ _)) (z_fB.tr z_fB.rf (fb_199_192 _ _ _ _)))) (z_fB.tr z_fB.rf (fb_199_192 _ _ _ _))) (z_fB.tr z_fB.rf (fb_199_192 _ _ _ _)))
theorem fb_199_121 (x1 : Int32) (x4 : Int32) (z0 : Int32) (M : ux_M)  : z_fB M (m_199_121 x1 x4 z0 M) := by
  unfold m_199_121
  exact (z_fB.tr (z_fB.st (.inr (.inr (.inr (.inl rfl)))) (z_fB.st (.inr (.inr (.inl rfl))) z_fB.rf)) (fb_199_151 _ _ _ _))
theorem fb_199_116 (x1 : Int32) (x4 : Int32) (M : ux_M)  : z_fB M (m_199_116 x1 x4 M) := by
  unfold m_199_116
  exact (z_fB.tr z_fB.rf (fb_199_121 _ _ _ _))
theorem fb_199_74 (x1 : Int32) (x3 : Int32) (z0 : Int32) (M : ux_M)  : z_fB M (m_199_74 x1 x3 z0 M) := by
  unfold m_199_74
  exact (z_fB.ite (z_fB.ite (z_fB.ite (z_fB.ite (z_fB.tr z_fB.rf (fb_199_116 _ _ _)) (z_fB.tr z_fB.rf (fb_199_121 _ _ _ _))) (z_fB.tr z_fB.rf (fb_199_116 _ _ _))) (z_fB.tr z_fB.rf (fb_199_151 _ _ _ _))) (z_fB.tr z_fB.rf (fb_199_151 _ _ _ _)))
theorem fb_199_73 (x1 : Int32) (x2 : Int32) (x3 : Int32) (M : ux_M)  : z_fB M (m_199_73 x1 x2 x3 M) := by
  unfold m_199_73
  exact (z_fB.tr z_fB.rf (fb_199_74 _ _ _ _))
theorem fb_199_51 (x1 : Int32) (x2 : Int32) (x3 : Int32) (M : ux_M)  : z_fB M (m_199_51 x1 x2 x3 M) := by
  unfold m_199_51
  exact (z_fB.ite (z_fB.ite (z_fB.tr z_fB.rf (fb_199_74 _ _ _ _)) (z_fB.tr z_fB.rf (fb_199_73 _ _ _ _))) (z_fB.tr z_fB.rf (fb_199_73 _ _ _ _)))
theorem fb_199 (x1 : Int32) (x2 : Int32) (x3 : Int32) (M : ux_M)  : z_fB M (m_199 x1 x2 x3 M) := by
  unfold m_199
  exact (z_fB.ite z_fB.rf (z_fB.ite (z_fB.tr z_fB.rf (fb_199_51 _ _ _ _)) (z_fB.ite (z_fB.ite (z_fB.ite (z_fB.st (.inl ⟨rfl, .inr rfl⟩) z_fB.rf) (z_fB.st (.inl ⟨rfl, .inr rfl⟩) z_fB.rf)) (z_fB.st (.inl ⟨rfl, .inr rfl⟩) z_fB.rf)) (z_fB.tr z_fB.rf (fb_199_51 _ _ _ _)))))
theorem fb_202_3   : ∀ (a0 : Nat) (a1 : Int32) (a2 : Int32) (a3 : Int32) (a4 : Int32) (a5 : ux_M), z_fB a5 (m_202_3 a0 a1 a2 a3 a4 a5) := by
  intro a0
  induction a0 with
  | zero => intro a1 a2 a3 a4 a5; exact z_fB.rf
  | succ a0 ih =>
    intro a1 a2 a3 a4 a5
    unfold m_202_3
    exact (z_fB.ite z_fB.rf (z_fB.ite (z_fB.tr (z_fB.tr z_fB.rf (fb_199 _ _ _ _)) (ih _ _ _ _ _)) (z_fB.tr z_fB.rf (ih _ _ _ _ _))))
theorem fb_202 (x1 : Int32) (x2 : Int32) (x3 : Int32) (M : ux_M)  : z_fB M (m_202 x1 x2 x3 M) := by
  unfold m_202
  exact (z_fB.tr z_fB.rf (fb_202_3 _ _ _ _ _ _))
theorem fb_200_75   : ∀ (a0 : Nat) (a1 : Int32) (a2 : Int32) (a3 : Int32) (a4 : Int32) (a5 : ux_M), z_fB a5 (m_200_75 a0 a1 a2 a3 a4 a5) := by
  intro a0
  induction a0 with
  | zero => intro a1 a2 a3 a4 a5; exact z_fB.rf
  | succ a0 ih =>
    intro a1 a2 a3 a4 a5
    unfold m_200_75
    exact (z_fB.ite (z_fB.tr z_fB.rf (fb_202 _ _ _ _)) (z_fB.ite (z_fB.tr z_fB.rf (ih _ _ _ _ _)) (z_fB.ite (z_fB.tr z_fB.rf (ih _ _ _ _ _)) (z_fB.tr z_fB.rf (ih _ _ _ _ _)))))
theorem fb_200 (x1 : Int32) (x2 : Int32) (M : ux_M)  : z_fB M (m_200 x1 x2 M) := by
  unfold m_200
  exact (z_fB.ite (z_fB.tr z_fB.rf (fb_202 _ _ _ _)) (z_fB.ite (z_fB.tr (z_fB.tr (z_fB.tr z_fB.rf (fb_202 _ _ _ _)) (fb_202 _ _ _ _)) (fb_202 _ _ _ _)) (z_fB.tr (z_fB.tr (z_fB.tr (z_fB.tr z_fB.rf (fb_202 _ _ _ _)) (fb_202 _ _ _ _)) (fb_202 _ _ _ _)) (fb_200_75 _ _ _ _ _ _))))
theorem fb_198_71 (km58 : Int32 → ux_M → ux_M) (hkm58 : ∀ (v0 : Int32) (v1 : ux_M), z_fB v1 (km58 v0 v1)) : ∀ (a0 : Nat) (a1 : Int32) (a2 : Int32) (a3 : ux_M), z_fB a3 (m_198_71 km58 a0 a1 a2 a3) := by
  intro a0
  induction a0 with
  | zero => intro a1 a2 a3; exact z_fB.rf
  | succ a0 ih =>
    intro a1 a2 a3
    unfold m_198_71
    exact (z_fB.ite (z_fB.tr z_fB.rf (hkm58 _ _)) (z_fB.ite (z_fB.tr (z_fB.tr z_fB.rf (fb_200 _ _ _)) (ih _ _ _)) (z_fB.tr z_fB.rf (ih _ _ _))))
theorem fb_198_58 (km44 : ux_M → ux_M) (hkm44 : ∀ (v0 : ux_M), z_fB v0 (km44 v0)) : ∀ (a0 : Nat) (a1 : Int32) (a2 : ux_M), z_fB a2 (m_198_58 km44 a0 a1 a2) := by
  intro a0
  induction a0 with
  | zero => intro a1 a2; exact z_fB.rf
  | succ a0 ih =>
    intro a1 a2
    unfold m_198_58
    exact (z_fB.ite (z_fB.tr z_fB.rf (hkm44 _)) (z_fB.tr z_fB.rf (fb_198_71 _ (fun w0 w1 => ih w0 w1) _ _ _ _)))
theorem fb_198_44   : ∀ (a0 : Nat) (a1 : ux_M), z_fB a1 (m_198_44 a0 a1) := by
  intro a0
  induction a0 with
  | zero => intro a1; exact z_fB.rf
  | succ a0 ih =>
    intro a1
    unfold m_198_44
    exact (z_fB.ite z_fB.rf (z_fB.tr (z_fB.st (.inl ⟨rfl, .inl rfl⟩) z_fB.rf) (fb_198_58 _ (fun w0 => ih w0) _ _ _)))
theorem fb_198_2   : ∀ (a0 : Nat) (a1 : Int32) (a2 : Int32) (a3 : Int32) (a4 : ux_M), z_fB a4 (m_198_2 a0 a1 a2 a3 a4) := by
  intro a0
  induction a0 with
  | zero => intro a1 a2 a3 a4; exact z_fB.rf
  | succ a0 ih =>
    intro a1 a2 a3 a4
    unfold m_198_2
    exact (z_fB.ite (z_fB.tr (z_fB.st (.inl ⟨rfl, .inl rfl⟩) (z_fB.tr (z_fB.st (.inl ⟨rfl, .inr rfl⟩) z_fB.rf) (fb_199 _ _ _ _))) (fb_198_44 _ _)) (z_fB.tr (z_fB.st (.inr (.inr (.inr (.inl rfl)))) (z_fB.st (.inr (.inr (.inl rfl))) z_fB.rf)) (ih _ _ _ _)))
theorem fb_198 (x1 : Int32) (x2 : Int32) (M : ux_M)  : z_fB M (m_198 x1 x2 M) := by
  unfold m_198
  exact (z_fB.tr z_fB.rf (fb_198_2 _ _ _ _ _))
theorem fb_204_61 (x2 : Int32) (z0 : Int32) (M : ux_M)  : z_fB M (m_204_61 x2 z0 M) := by
  unfold m_204_61
  exact (z_fB.ite (z_fB.ite z_fB.rf (z_fB.st (.inr (.inr (.inr (.inr (.inl rfl))))) z_fB.rf)) (z_fB.st (.inr (.inr (.inr (.inr (.inl rfl))))) z_fB.rf))
theorem fb_204_29   : ∀ (a0 : Nat) (a1 : Int32) (a2 : Int32) (a3 : ux_M), z_fB a3 (m_204_29 a0 a1 a2 a3) := by
  intro a0
  induction a0 with
  | zero => intro a1 a2 a3; exact z_fB.rf
  | succ a0 ih =>
    intro a1 a2 a3
    unfold m_204_29
    exact (z_fB.ite (z_fB.ite (z_fB.tr z_fB.rf (fb_204_61 _ _ _)) (z_fB.tr z_fB.rf (fb_204_61 _ _ _))) (z_fB.tr z_fB.rf (ih _ _ _)))
theorem fb_204 (M : ux_M)  : z_fB M (m_204 M) := by
  unfold m_204
  exact (z_fB.ite z_fB.rf (z_fB.tr z_fB.rf (fb_204_29 _ _ _ _)))
theorem fb_205_2   : ∀ (a0 : Nat) (a1 : Int32) (a2 : ux_M), z_fB a2 (m_205_2 a0 a1 a2) := by
  intro a0
  induction a0 with
  | zero => intro a1 a2; exact z_fB.rf
  | succ a0 ih =>
    intro a1 a2
    unfold m_205_2
    exact (z_fB.ite z_fB.rf (z_fB.ite (z_fB.ite (z_fB.ite (z_fB.tr (z_fB.st (.inr (.inr (.inl rfl))) (z_fB.st (.inr (.inr (.inl rfl))) z_fB.rf)) (ih _ _)) (z_fB.ite (z_fB.tr (z_fB.st (.inr (.inr (.inl rfl))) (z_fB.st (.inr (.inr (.inl rfl))) z_fB.rf)) (ih _ _)) (z_fB.tr (z_fB.st (.inr (.inr (.inl rfl))) z_fB.rf) (ih _ _)))) (z_fB.ite (z_fB.tr (z_fB.st (.inr (.inr (.inl rfl))) z_fB.rf) (ih _ _)) (z_fB.ite (z_fB.tr (z_fB.st (.inr (.inr (.inl rfl))) z_fB.rf) (ih _ _)) (z_fB.tr z_fB.rf (ih _ _))))) (z_fB.tr z_fB.rf (ih _ _))))
theorem fb_205 (M : ux_M)  : z_fB M (m_205 M) := by
  unfold m_205
  exact (z_fB.tr z_fB.rf (fb_205_2 _ _ _))
theorem fb_210_14 (km2 : Int32 → ux_M → ux_M) (hkm2 : ∀ (v0 : Int32) (v1 : ux_M), z_fB v1 (km2 v0 v1)) : ∀ (a0 : Nat) (a1 : Int32) (a2 : Int32) (a3 : ux_M), z_fB a3 (m_210_14 km2 a0 a1 a2 a3) := by
  intro a0
  induction a0 with
  | zero => intro a1 a2 a3; exact z_fB.rf
  | succ a0 ih =>
    intro a1 a2 a3
    unfold m_210_14
    exact (z_fB.ite (z_fB.tr z_fB.rf (hkm2 _ _)) (z_fB.ite (z_fB.tr (z_fB.st (.inr (.inr (.inr (.inr (.inr rfl))))) z_fB.rf) (ih _ _ _)) (z_fB.tr z_fB.rf (ih _ _ _))))
theorem fb_210_2   : ∀ (a0 : Nat) (a1 : Int32) (a2 : ux_M), z_fB a2 (m_210_2 a0 a1 a2) := by
  intro a0
  induction a0 with
  | zero => intro a1 a2; exact z_fB.rf
  | succ a0 ih =>
    intro a1 a2
    unfold m_210_2
    exact (z_fB.ite z_fB.rf (z_fB.tr z_fB.rf (fb_210_14 _ (fun w0 w1 => ih w0 w1) _ _ _ _)))
theorem fb_210 (M : ux_M)  : z_fB M (m_210 M) := by
  unfold m_210
  exact (z_fB.tr z_fB.rf (fb_210_2 _ _ _))
theorem fb_207_21 (km2 : Int32 → ux_M → ux_M) (hkm2 : ∀ (v0 : Int32) (v1 : ux_M), z_fB v1 (km2 v0 v1)) : ∀ (a0 : Nat) (a1 : Int32) (a2 : Int32) (a3 : ux_M), z_fB a3 (m_207_21 km2 a0 a1 a2 a3) := by
  intro a0
  induction a0 with
  | zero => intro a1 a2 a3; exact z_fB.rf
  | succ a0 ih =>
    intro a1 a2 a3
    unfold m_207_21
    exact (z_fB.ite (z_fB.tr z_fB.rf (hkm2 _ _)) (z_fB.ite (z_fB.tr z_fB.rf (ih _ _ _)) (z_fB.ite (z_fB.tr z_fB.rf (ih _ _ _)) (z_fB.ite (z_fB.tr z_fB.rf (ih _ _ _)) (z_fB.ite (z_fB.tr z_fB.rf (ih _ _ _)) (z_fB.tr (z_fB.st (.inr (.inr (.inr (.inr (.inr rfl))))) z_fB.rf) (ih _ _ _)))))))
theorem fb_207_2   : ∀ (a0 : Nat) (a1 : Int32) (a2 : ux_M), z_fB a2 (m_207_2 a0 a1 a2) := by
  intro a0
  induction a0 with
  | zero => intro a1 a2; exact z_fB.rf
  | succ a0 ih =>
    intro a1 a2
    unfold m_207_2
    exact (z_fB.ite (z_fB.tr z_fB.rf (fb_210 _)) (z_fB.tr (z_fB.st (.inr (.inr (.inr (.inr (.inr rfl))))) z_fB.rf) (fb_207_21 _ (fun w0 w1 => ih w0 w1) _ _ _ _)))
theorem fb_207 (M : ux_M)  : z_fB M (m_207 M) := by
  unfold m_207
  exact (z_fB.tr z_fB.rf (fb_207_2 _ _ _))
theorem fb_206_10   : ∀ (a0 : Nat) (a1 : Int32) (a2 : Int32) (a3 : Int32) (a4 : ux_M), z_fB a4 (m_206_10 a0 a1 a2 a3 a4) := by
  intro a0
  induction a0 with
  | zero => intro a1 a2 a3 a4; exact z_fB.rf
  | succ a0 ih =>
    intro a1 a2 a3 a4
    unfold m_206_10
    exact (z_fB.ite (z_fB.ite z_fB.rf (z_fB.ite z_fB.rf (z_fB.st (.inr (.inr (.inr (.inr (.inl rfl))))) z_fB.rf))) (z_fB.ite (z_fB.ite (z_fB.tr z_fB.rf (ih _ _ _ _)) (z_fB.tr z_fB.rf (ih _ _ _ _))) (z_fB.tr z_fB.rf (ih _ _ _ _))))
theorem fb_206 (M : ux_M)  : z_fB M (m_206 M) := by
  unfold m_206
  exact (z_fB.tr (z_fB.tr z_fB.rf (fb_207 _)) (fb_206_10 _ _ _ _ _))
theorem fb_197_22   : ∀ (a0 : Nat) (a1 : Int32) (a2 : Int32) (a3 : Int32) (a4 : ux_M), z_fB a4 (m_197_22 a0 a1 a2 a3 a4) := by
  intro a0
  induction a0 with
  | zero => intro a1 a2 a3 a4; exact z_fB.rf
  | succ a0 ih =>
    intro a1 a2 a3 a4
    unfold m_197_22
    exact (z_fB.ite (z_fB.ite (z_fB.ite (z_fB.tr (z_fB.tr (z_fB.tr (z_fB.tr (z_fB.tr z_fB.rf (fb_198 _ _ _)) (fb_204 _)) (fb_205 _)) (fb_206 _)) (ih _ _ _ _)) (z_fB.tr (z_fB.tr (z_fB.tr z_fB.rf (fb_198 _ _ _)) (fb_204 _)) (ih _ _ _ _))) (z_fB.tr z_fB.rf (fb_198 _ _ _))) z_fB.rf)
theorem fb_197_2   : ∀ (a0 : Nat) (a1 : Int32) (a2 : Int32) (a3 : Int32) (a4 : ux_M), z_fB a4 (m_197_2 a0 a1 a2 a3 a4) := by
  intro a0
  induction a0 with
  | zero => intro a1 a2 a3 a4; exact z_fB.rf
  | succ a0 ih =>
    intro a1 a2 a3 a4
    unfold m_197_2
    exact (z_fB.ite (z_fB.tr z_fB.rf (fb_197_22 _ _ _ _ _)) (z_fB.tr (z_fB.st (.inr (.inr (.inr (.inr (.inl rfl))))) z_fB.rf) (ih _ _ _ _)))
theorem fb_197 (x1 : Int32) (x2 : Int32) (M : ux_M)  : z_fB M (m_197 x1 x2 M) := by
  unfold m_197
  exact (z_fB.tr z_fB.rf (fb_197_2 _ _ _ _ _))
theorem fb_214 (x1 : Int32) (M : ux_M) : z_fB M (m_214 x1 M) := (fr_214 x1 M).fB
theorem fb_213_18 (x1 : Int32) (x2 : Int32) (M : ux_M) : z_fB M (m_213_18 x1 x2 M) := (fr_213_18 x1 x2 M).fB
theorem fb_213 (x1 : Int32) (x2 : Int32) (M : ux_M) : z_fB M (m_213 x1 x2 M) := (fr_213 x1 x2 M).fB
theorem fb_211_53 : ∀ (a0 : Nat) (a1 : Int32) (a2 : Int32) (a3 : ux_M), z_fB a3 (m_211_53 a0 a1 a2 a3) := fun a0 a1 a2 a3 => (fr_211_53 a0 a1 a2 a3).fB
theorem fb_211_4 : ∀ (a0 : Nat) (a1 : Int32) (a2 : Int32) (a3 : Int32) (a4 : ux_M), z_fB a4 (m_211_4 a0 a1 a2 a3 a4) := fun a0 a1 a2 a3 a4 => (fr_211_4 a0 a1 a2 a3 a4).fB
theorem fb_211 (x1 : Int32) (M : ux_M) : z_fB M (m_211 x1 M) := (fr_211 x1 M).fB
theorem fb_196_2   : ∀ (a0 : Nat) (a1 : Int32) (a2 : Int32) (a3 : ux_M), z_fB a3 (m_196_2 a0 a1 a2 a3) := by
  intro a0
  induction a0 with
  | zero => intro a1 a2 a3; exact z_fB.rf
  | succ a0 ih =>
    intro a1 a2 a3
    unfold m_196_2
    exact (z_fB.ite z_fB.rf (z_fB.ite (z_fB.ite (z_fB.ite (z_fB.tr (z_fB.tr (z_fB.tr z_fB.rf (fb_197 _ _ _)) (fb_211 _ _)) (ih _ _ _)) (z_fB.tr (z_fB.tr z_fB.rf (fb_197 _ _ _)) (ih _ _ _))) (z_fB.ite (z_fB.ite (z_fB.tr (z_fB.tr (z_fB.tr z_fB.rf (fb_197 _ _ _)) (fb_211 _ _)) (ih _ _ _)) (z_fB.tr (z_fB.tr z_fB.rf (fb_197 _ _ _)) (ih _ _ _))) (z_fB.tr z_fB.rf (ih _ _ _)))) (z_fB.tr z_fB.rf (ih _ _ _))))
theorem fb_196 (x1 : Int32) (M : ux_M)  : z_fB M (m_196 x1 M) := by
  unfold m_196
  exact (z_fB.tr z_fB.rf (fb_196_2 _ _ _ _))
theorem fb_194_137 (x1 : Int32) (x4 : Int32) (M : ux_M)  : z_fB M (m_194_137 x1 x4 M) := by
  unfold m_194_137
  exact (z_fB.ite z_fB.rf (z_fB.tr z_fB.rf (fb_196 _ _)))
theorem fb_194_134 (x1 : Int32) (x4 : Int32) (z0 : Int32) (z1 : Int32) (M : ux_M)  : z_fB M (m_194_134 x1 x4 z0 z1 M) := by
  unfold m_194_134
  exact (z_fB.tr (z_fB.tr z_fB.rf (fb_190 _ _ _)) (fb_194_137 _ _ _))
theorem fb_194_123 (x1 : Int32) (x2 : Int32) (x4 : Int32) (M : ux_M)  : z_fB M (m_194_123 x1 x2 x4 M) := by
  unfold m_194_123
  exact (z_fB.ite (z_fB.tr z_fB.rf (fb_194_134 _ _ _ _ _)) (z_fB.tr z_fB.rf (fb_194_134 _ _ _ _ _)))
theorem fb_194_84 (x1 : Int32) (x2 : Int32) (x3 : Int32) (x4 : Int32) (x5 : Int32) (M : ux_M)  : z_fB M (m_194_84 x1 x2 x3 x4 x5 M) := by
  unfold m_194_84
  exact (z_fB.ite (z_fB.tr z_fB.rf (fb_194_123 _ _ _ _)) (z_fB.ite (z_fB.tr (z_fB.pt (z_fB.tr z_fB.rf (fb_190 _ _ _))) (fb_194_137 _ _ _)) (z_fB.tr z_fB.rf (fb_194_123 _ _ _ _))))
theorem fb_194_45 (x1 : Int32) (x2 : Int32) (x3 : Int32) (x4 : Int32) (z0 : Int32) (M : ux_M)  : z_fB M (m_194_45 x1 x2 x3 x4 z0 M) := by
  unfold m_194_45
  exact (z_fB.ite (z_fB.tr (z_fB.pt (z_fB.pt (z_fB.pt z_fB.rf))) (fb_194_84 _ _ _ _ _ _)) (z_fB.ite (z_fB.tr (z_fB.pt (z_fB.pt z_fB.rf)) (fb_194_84 _ _ _ _ _ _)) (z_fB.tr z_fB.rf (fb_194_84 _ _ _ _ _ _))))
theorem fb_194_40 (x1 : Int32) (x2 : Int32) (x3 : Int32) (x4 : Int32) (M : ux_M)  : z_fB M (m_194_40 x1 x2 x3 x4 M) := by
  unfold m_194_40
  exact (z_fB.tr z_fB.rf (fb_194_45 _ _ _ _ _ _))
theorem fb_194_16 (x1 : Int32) (x2 : Int32) (x3 : Int32) (z0 : Int32) (M : ux_M)  : z_fB M (m_194_16 x1 x2 x3 z0 M) := by
  unfold m_194_16
  exact (z_fB.ite (z_fB.tr z_fB.rf (fb_194_40 _ _ _ _ _)) (z_fB.ite (z_fB.tr z_fB.rf (fb_194_40 _ _ _ _ _)) (z_fB.tr z_fB.rf (fb_194_45 _ _ _ _ _ _))))
theorem fb_194 (x1 : Int32) (x2 : Int32) (x3 : Int32) (M : ux_M)  : z_fB M (m_194 x1 x2 x3 M) := by
  unfold m_194
  exact (z_fB.ite (z_fB.tr z_fB.rf (fb_194_16 _ _ _ _ _)) (z_fB.tr z_fB.rf (fb_194_16 _ _ _ _ _)))
theorem fb_193_21 (x1 : Int32) (x2 : Int32) (z0 : Int32) (z1 : Int32) (z2 : Int32) (M : ux_M)  : z_fB M (m_193_21 x1 x2 z0 z1 z2 M) := by
  unfold m_193_21
  exact (z_fB.ite (z_fB.tr (z_fB.pt z_fB.rf) (fb_194 _ _ _ _)) (z_fB.ite (z_fB.ite (z_fB.tr (z_fB.pt z_fB.rf) (fb_194 _ _ _ _)) (z_fB.tr (z_fB.pt z_fB.rf) (fb_194 _ _ _ _))) (z_fB.tr (z_fB.pt z_fB.rf) (fb_194 _ _ _ _))))
theorem fb_193 (x1 : Int32) (x2 : Int32) (M : ux_M)  : z_fB M (m_193 x1 x2 M) := by
  unfold m_193
  exact (z_fB.ite (z_fB.tr (z_fB.pt z_fB.rf) (fb_193_21 _ _ _ _ _ _)) (z_fB.tr (z_fB.pt z_fB.rf) (fb_193_21 _ _ _ _ _ _)))
theorem fb_181_101 : ∀ (a0 : Nat) (a1 : Int32) (a2 : Int32) (a3 : ux_M), z_fB a3 (m_181_101 a0 a1 a2 a3) := fun a0 a1 a2 a3 => (fr_181_101 a0 a1 a2 a3).fB
theorem fb_181_50 (x1 : Int32) (M : ux_M) : z_fB M (m_181_50 x1 M) := (fr_181_50 x1 M).fB
theorem fb_181 (x1 : Int32) (M : ux_M)  : z_fB M (m_181 x1 M) := by
  unfold m_181
  exact (z_fB.ite (z_fB.ite (z_fB.tr z_fB.rf (fb_181_50 _ _)) (z_fB.ite (z_fB.tr (z_fB.tr z_fB.rf (fb_182 _ _ _)) (fb_193 _ _ _)) (z_fB.tr z_fB.rf (fb_193 _ _ _)))) (z_fB.tr z_fB.rf (fb_181_50 _ _)))
theorem fb_215 (x1 : Int32) (M : ux_M) : z_fB M (m_215 x1 M) := (fr_215 x1 M).fB
theorem fb_216 (x1 : Int32) (M : ux_M)  : z_fB M (m_216 x1 M) := by
  unfold m_216
  exact (z_fB.tr (z_fB.pt z_fB.rf) (fb_194 _ _ _ _))
theorem fb_217 (x1 : Int32) (M : ux_M) : z_fB M (m_217 x1 M) := (fr_217 x1 M).fB
theorem fb_180 (x1 : Int32) (M : ux_M)  : z_fB M (m_180 x1 M) := by
  unfold m_180
  exact (z_fB.ite (z_fB.tr z_fB.rf (fb_181 _ _)) (z_fB.ite (z_fB.ite (z_fB.tr z_fB.rf (fb_216 _ _)) (z_fB.ite (z_fB.tr z_fB.rf (fb_193 _ _ _)) (z_fB.tr z_fB.rf (fb_216 _ _)))) (z_fB.ite (z_fB.tr z_fB.rf (fb_215 _ _)) (z_fB.tr z_fB.rf (fb_217 _ _)))))
theorem fb_222_26 (x1 : Int32) (z0 : Int32) (M : ux_M) : z_fB M (m_222_26 x1 z0 M) := (fr_222_26 x1 z0 M).fB
theorem fb_222 (x1 : Int32) (M : ux_M) : z_fB M (m_222 x1 M) := (fr_222 x1 M).fB
theorem fb_221 (x1 : Int32) (x2 : Int32) (M : ux_M) : z_fB M (m_221 x1 x2 M) := (fr_221 x1 x2 M).fB
theorem fb_223 (x1 : Int32) (x2 : Int32) (M : ux_M) : z_fB M (m_223 x1 x2 M) := (fr_223 x1 x2 M).fB
theorem fb_227_22 : ∀ (a0 : Nat) (a1 : Int32) (a2 : Int32) (a3 : ux_M), z_fB a3 (m_227_22 a0 a1 a2 a3) := fun a0 a1 a2 a3 => (fr_227_22 a0 a1 a2 a3).fB
theorem fb_227 (x1 : Int32) (M : ux_M) : z_fB M (m_227 x1 M) := (fr_227 x1 M).fB
theorem fb_229_54 (x1 : Int32) (M : ux_M) : z_fB M (m_229_54 x1 M) := (fr_229_54 x1 M).fB
theorem fb_229_14 : ∀ (a0 : Nat) (a1 : Int32) (a2 : Int32) (a3 : ux_M), z_fB a3 (m_229_14 a0 a1 a2 a3) := fun a0 a1 a2 a3 => (fr_229_14 a0 a1 a2 a3).fB
theorem fb_229 (x1 : Int32) (M : ux_M) : z_fB M (m_229 x1 M) := (fr_229 x1 M).fB
theorem fb_228_31 (x1 : Int32) (z0 : Int32) (M : ux_M)  : z_fB M (m_228_31 x1 z0 M) := by
  unfold m_228_31
  exact (z_fB.ite (z_fB.tr z_fB.rf (fb_181 _ _)) (z_fB.pt z_fB.rf))
theorem fb_228 (x1 : Int32) (M : ux_M)  : z_fB M (m_228 x1 M) := by
  unfold m_228
  exact (z_fB.ite (z_fB.tr (z_fB.tr (z_fB.tr z_fB.rf (fb_190 _ _ _)) (fb_229 _ _)) (fb_228_31 _ _ _)) (z_fB.tr (z_fB.tr (z_fB.tr z_fB.rf (fb_190 _ _ _)) (fb_229 _ _)) (fb_228_31 _ _ _)))
theorem fb_224 (x1 : Int32) (x2 : Int32) (M : ux_M)  : z_fB M (m_224 x1 x2 M) := by
  unfold m_224
  exact (z_fB.ite (z_fB.pt (z_fB.pt (z_fB.pt z_fB.rf))) (z_fB.ite (z_fB.pt z_fB.rf) (z_fB.ite (z_fB.tr (z_fB.tr (z_fB.pt (z_fB.pt (z_fB.pt z_fB.rf))) (fb_189 _ _)) (fb_186 _ _)) (z_fB.ite (z_fB.ite (z_fB.tr (z_fB.pt z_fB.rf) (fb_228 _ _)) (z_fB.tr z_fB.rf (fb_227 _ _))) (z_fB.tr (z_fB.pt z_fB.rf) (fb_228 _ _))))))
theorem fb_218_10 (km2 : Int32 → ux_M → ux_M) (hkm2 : ∀ (v0 : Int32) (v1 : ux_M), z_fB v1 (km2 v0 v1)) : ∀ (a0 : Nat) (a1 : Int32) (a2 : Int32) (a3 : ux_M), z_fB a3 (m_218_10 km2 a0 a1 a2 a3) := by
  intro a0
  induction a0 with
  | zero => intro a1 a2 a3; exact z_fB.rf
  | succ a0 ih =>
    intro a1 a2 a3
    unfold m_218_10
    exact (z_fB.ite (z_fB.tr z_fB.rf (hkm2 _ _)) (z_fB.ite (z_fB.tr z_fB.rf (ih _ _ _)) (z_fB.ite (z_fB.tr z_fB.rf (ih _ _ _)) (z_fB.ite (z_fB.tr z_fB.rf (ih _ _ _)) (z_fB.ite (z_fB.tr (z_fB.tr z_fB.rf (fb_221 _ _ _)) (ih _ _ _)) (z_fB.ite (z_fB.tr (z_fB.tr z_fB.rf (fb_223 _ _ _)) (ih _ _ _)) (z_fB.tr (z_fB.tr z_fB.rf (fb_224 _ _ _)) (ih _ _ _))))))))
theorem fb_218_2   : ∀ (a0 : Nat) (a1 : Int32) (a2 : ux_M), z_fB a2 (m_218_2 a0 a1 a2) := by
  intro a0
  induction a0 with
  | zero => intro a1 a2; exact z_fB.rf
  | succ a0 ih =>
    intro a1 a2
    unfold m_218_2
    exact (z_fB.ite z_fB.rf (z_fB.tr z_fB.rf (fb_218_10 _ (fun w0 w1 => ih w0 w1) _ _ _ _)))
theorem fb_218 (M : ux_M)  : z_fB M (m_218 M) := by
  unfold m_218
  exact (z_fB.tr z_fB.rf (fb_218_2 _ _ _))
theorem fb_177_12   : ∀ (a0 : Nat) (a1 : Int32) (a2 : ux_M), z_fB a2 (m_177_12 a0 a1 a2) := by
  intro a0
  induction a0 with
  | zero => intro a1 a2; exact z_fB.rf
  | succ a0 ih =>
    intro a1 a2
    unfold m_177_12
    exact (z_fB.ite (z_fB.tr z_fB.rf (fb_218 _)) (z_fB.ite (z_fB.tr (z_fB.tr z_fB.rf (fb_180 _ _)) (ih _ _)) (z_fB.tr z_fB.rf (ih _ _))))
theorem fb_177 (M : ux_M)  : z_fB M (m_177 M) := by
  unfold m_177
  exact (z_fB.tr (z_fB.st (.inr (.inl rfl)) z_fB.rf) (fb_177_12 _ _ _))
theorem fb_268_103 (x2 : Int32) (z0 : Int32) (M : ux_M)  : z_fB M (m_268_103 x2 z0 M) := by
  unfold m_268_103
  exact (z_fB.ite (z_fB.ite (z_fB.ite z_fB.rf (z_fB.ite (z_fB.tr (z_fB.tr z_fB.rf (fb_197 _ _ _)) (fb_211 _ _)) (z_fB.tr z_fB.rf (fb_197 _ _ _)))) z_fB.rf) z_fB.rf)
theorem fb_268_98 (x2 : Int32) (M : ux_M)  : z_fB M (m_268_98 x2 M) := by
  unfold m_268_98
  exact (z_fB.tr z_fB.rf (fb_268_103 _ _ _))
theorem fb_268 (x1 : Int32) (M : ux_M)  : z_fB M (m_268 x1 M) := by
  unfold m_268
  exact (z_fB.ite (z_fB.pt (z_fB.pt z_fB.rf)) (z_fB.ite (z_fB.ite (z_fB.tr (z_fB.pt z_fB.rf) (fb_268_98 _ _)) (z_fB.ite (z_fB.tr (z_fB.pt z_fB.rf) (fb_268_98 _ _)) (z_fB.tr (z_fB.pt z_fB.rf) (fb_268_103 _ _ _)))) (z_fB.pt z_fB.rf)))
