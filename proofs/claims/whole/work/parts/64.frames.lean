/-! WHERE THE FUNCTIONS WRITE (by wip/whole/gen_fr.py): z_fK inside an instance, z_fW inside a world and its jobs, z_fR in the reference's row alone -/
def z_fK (k : Nat) (M M' : ux_M) : Prop := ∀ a s r i, ¬ a = k → M' a s r i = M a s r i
def z_fW (k : Nat) (M M' : ux_M) : Prop := ∀ a s r i, ¬ (a = k ∧ (s < 20000 ∨ (40000 < s ∧ s < 270000) ∨ s = 327809)) → M' a s r i = M a s r i
def z_fR (M M' : ux_M) : Prop := ∀ a s r i, ¬ (a = 5 ∧ s = 844257) → M' a s r i = M a s r i
theorem z_fK.rf {k : Nat} {M : ux_M} : z_fK k M M := fun _ _ _ _ _ => rfl
theorem z_fW.rf {k : Nat} {M : ux_M} : z_fW k M M := fun _ _ _ _ _ => rfl
theorem z_fR.rf {M : ux_M} : z_fR M M := fun _ _ _ _ _ => rfl
theorem z_fK.tr {k : Nat} {M X Y : ux_M} (h : z_fK k M X) (h' : z_fK k X Y) : z_fK k M Y := fun a s r i q => (h' a s r i q).trans (h a s r i q)
theorem z_fW.tr {k : Nat} {M X Y : ux_M} (h : z_fW k M X) (h' : z_fW k X Y) : z_fW k M Y := fun a s r i q => (h' a s r i q).trans (h a s r i q)
theorem z_fR.tr {M X Y : ux_M} (h : z_fR M X) (h' : z_fR X Y) : z_fR M Y := fun a s r i q => (h' a s r i q).trans (h a s r i q)
theorem z_fK.st {k s r i : Nat} {v : Int32} {M X : ux_M} (h : z_fK k M X) : z_fK k M (ux_set X k s r i v) := fun a s' r' i' q => by
  show (if a = k ∧ s' = s ∧ r' = r ∧ i' = i then v else X a s' r' i') = _
  rw [if_neg (fun z => q z.1)]; exact h a s' r' i' q
theorem z_fK.cp {k s r : Nat} {g : Nat → Int32} {M X : ux_M} (h : z_fK k M X) : z_fK k M (ux_cpy X k s r g) := fun a s' r' i' q => by
  show (if a = k ∧ s' = s ∧ r' = r then g i' else X a s' r' i') = _
  rw [if_neg (fun z => q z.1)]; exact h a s' r' i' q
theorem z_fW.st {k s r i : Nat} {v : Int32} {M X : ux_M} (hs : s < 20000 ∨ (40000 < s ∧ s < 270000) ∨ s = 327809) (h : z_fW k M X) : z_fW k M (ux_set X k s r i v) := fun a s' r' i' q => by
  show (if a = k ∧ s' = s ∧ r' = r ∧ i' = i then v else X a s' r' i') = _
  rw [if_neg (fun z => q ⟨z.1, by rw [z.2.1]; exact hs⟩)]; exact h a s' r' i' q
theorem z_fR.st {i : Nat} {v : Int32} {M X : ux_M} (h : z_fR M X) : z_fR M (ux_set X 5 844257 0 i v) := fun a s' r' i' q => by
  show (if a = 5 ∧ s' = 844257 ∧ r' = 0 ∧ i' = i then v else X a s' r' i') = _
  rw [if_neg (fun z => q ⟨z.1, z.2.1⟩)]; exact h a s' r' i' q
theorem z_fR.pt {x y v : Int32} {M X : ux_M} (h : z_fR M X) : z_fR M (ux_put X x y v) := z_fR.st h
theorem z_fK.pt {x y v : Int32} {M X : ux_M} (h : z_fK 5 M X) : z_fK 5 M (ux_put X x y v) := z_fK.st h
theorem z_fK.ite {k : Nat} {p : Prop} [Decidable p] {M A B : ux_M} (h : z_fK k M A) (h' : z_fK k M B) : z_fK k M (if p then A else B) := by split <;> assumption
theorem z_fW.ite {k : Nat} {p : Prop} [Decidable p] {M A B : ux_M} (h : z_fW k M A) (h' : z_fW k M B) : z_fW k M (if p then A else B) := by split <;> assumption
theorem z_fR.ite {p : Prop} [Decidable p] {M A B : ux_M} (h : z_fR M A) (h' : z_fR M B) : z_fR M (if p then A else B) := by split <;> assumption
theorem fw_15_53 (km23 : Nat → Int32 → Int32 → Int32 → ux_M → ux_M) (hkm23 : ∀ (v0 : Nat) (v1 : Int32) (v2 : Int32) (v3 : Int32) (v4 : ux_M), z_fW v0 v4 (km23 v0 v1 v2 v3 v4)) : ∀ (a0 : Nat) (a1 : Nat) (a2 : Int32) (a3 : Int32) (a4 : Int32) (a5 : Int32) (a6 : Int32) (a7 : ux_M), z_fW a1 a7 (m_15_53 km23 a0 a1 a2 a3 a4 a5 a6 a7) := by
  intro a0
  induction a0 with
  | zero => intro a1 a2 a3 a4 a5 a6 a7; exact z_fW.rf
  | succ a0 ih =>
    intro a1 a2 a3 a4 a5 a6 a7
    unfold m_15_53; (try dsimp only)
    repeat (first | with_reducible exact z_fW.rf | with_reducible refine z_fW.ite ?_ ?_ | with_reducible refine z_fW.st (by omega) ?_ | with_reducible refine z_fW.tr ?_ (hkm23 _ _ _ _ _) | with_reducible refine z_fW.tr ?_ (ih _ _ _ _ _ _ _))
theorem fw_15_23   : ∀ (a0 : Nat) (a1 : Nat) (a2 : Int32) (a3 : Int32) (a4 : Int32) (a5 : ux_M), z_fW a1 a5 (m_15_23 a0 a1 a2 a3 a4 a5) := by
  intro a0
  induction a0 with
  | zero => intro a1 a2 a3 a4 a5; exact z_fW.rf
  | succ a0 ih =>
    intro a1 a2 a3 a4 a5
    unfold m_15_23; (try dsimp only)
    repeat (first | with_reducible exact z_fW.rf | with_reducible refine z_fW.ite ?_ ?_ | with_reducible refine z_fW.st (by omega) ?_ | with_reducible refine z_fW.tr ?_ (fw_15_53 _ (fun _ _ _ _ _ => by first | exact ih _ _ _ _ _ | exact ih _ _ _ _ | exact ih _ _ _ | exact ih _ _ | exact ih _) _ _ _ _ _ _ _ _) | with_reducible refine z_fW.tr ?_ (ih _ _ _ _ _))
theorem fw_15 (k : Nat) (x2 : Int32) (x3 : Int32) (M : ux_M)  : z_fW k M (m_15 k x2 x3 M) := by
  unfold m_15; (try dsimp only)
  repeat (first | with_reducible exact z_fW.rf | with_reducible refine z_fW.ite ?_ ?_ | with_reducible refine z_fW.st (by omega) ?_ | with_reducible refine z_fW.tr ?_ (fw_15_23 _ _ _ _ _ _))
theorem fw_30_22   : ∀ (a0 : Nat) (a1 : Nat) (a2 : Int32) (a3 : ux_M), z_fW a1 a3 (m_30_22 a0 a1 a2 a3) := by
  intro a0
  induction a0 with
  | zero => intro a1 a2 a3; exact z_fW.rf
  | succ a0 ih =>
    intro a1 a2 a3
    unfold m_30_22; (try dsimp only)
    repeat (first | with_reducible exact z_fW.rf | with_reducible refine z_fW.ite ?_ ?_ | with_reducible refine z_fW.st (by omega) ?_ | with_reducible refine z_fW.tr ?_ (ih _ _ _))
theorem fw_30 (k : Nat) (M : ux_M)  : z_fW k M (m_30 k M) := by
  unfold m_30; (try dsimp only)
  repeat (first | with_reducible exact z_fW.rf | with_reducible refine z_fW.ite ?_ ?_ | with_reducible refine z_fW.st (by omega) ?_ | with_reducible refine z_fW.tr ?_ (fw_30_22 _ _ _ _))
theorem fw_28_32   : ∀ (a0 : Nat) (a1 : Nat) (a2 : Int32) (a3 : ux_M), z_fW a1 a3 (m_28_32 a0 a1 a2 a3) := by
  intro a0
  induction a0 with
  | zero => intro a1 a2 a3; exact z_fW.rf
  | succ a0 ih =>
    intro a1 a2 a3
    unfold m_28_32; (try dsimp only)
    repeat (first | with_reducible exact z_fW.rf | with_reducible refine z_fW.ite ?_ ?_ | with_reducible refine z_fW.st (by omega) ?_ | with_reducible refine z_fW.tr ?_ (ih _ _ _))
theorem fw_41n_16 (km4 : Nat → Int32 → Int32 → ux_M → ux_M) (hkm4 : ∀ (v0 : Nat) (v1 : Int32) (v2 : Int32) (v3 : ux_M), z_fW v0 v3 (km4 v0 v1 v2 v3)) : ∀ (a0 : Nat) (a1 : Nat) (a2 : Int32) (a3 : Int32) (a4 : Int32) (a5 : Int32) (a6 : ux_M), z_fW a1 a6 (m_41n_16 km4 a0 a1 a2 a3 a4 a5 a6) := by
  intro a0
  induction a0 with
  | zero => intro a1 a2 a3 a4 a5 a6; exact z_fW.rf
  | succ a0 ih =>
    intro a1 a2 a3 a4 a5 a6
    unfold m_41n_16; (try dsimp only)
    repeat (first | with_reducible exact z_fW.rf | with_reducible refine z_fW.ite ?_ ?_ | with_reducible refine z_fW.st (by omega) ?_ | with_reducible refine z_fW.tr ?_ (hkm4 _ _ _ _) | with_reducible refine z_fW.tr ?_ (ih _ _ _ _ _ _))
theorem fw_41n_4   : ∀ (a0 : Nat) (a1 : Nat) (a2 : Int32) (a3 : Int32) (a4 : ux_M), z_fW a1 a4 (m_41n_4 a0 a1 a2 a3 a4) := by
  intro a0
  induction a0 with
  | zero => intro a1 a2 a3 a4; exact z_fW.rf
  | succ a0 ih =>
    intro a1 a2 a3 a4
    unfold m_41n_4; (try dsimp only)
    repeat (first | with_reducible exact z_fW.rf | with_reducible refine z_fW.ite ?_ ?_ | with_reducible refine z_fW.st (by omega) ?_ | with_reducible refine z_fW.tr ?_ (fw_41n_16 _ (fun _ _ _ _ => by first | exact ih _ _ _ _ | exact ih _ _ _ _ | exact ih _ _ _ | exact ih _ _ | exact ih _) _ _ _ _ _ _ _) | with_reducible refine z_fW.tr ?_ (ih _ _ _ _))
theorem fw_41n (k : Nat) (x1 : Int32) (M : ux_M)  : z_fW k M (m_41n k x1 M) := by
  unfold m_41n; (try dsimp only)
  repeat (first | with_reducible exact z_fW.rf | with_reducible refine z_fW.ite ?_ ?_ | with_reducible refine z_fW.st (by omega) ?_ | with_reducible refine z_fW.tr ?_ (fw_41n_4 _ _ _ _ _))
theorem fw_41f_16 (km4 : Nat → Int32 → Int32 → ux_M → ux_M) (hkm4 : ∀ (v0 : Nat) (v1 : Int32) (v2 : Int32) (v3 : ux_M), z_fW v0 v3 (km4 v0 v1 v2 v3)) : ∀ (a0 : Nat) (a1 : Nat) (a2 : Int32) (a3 : Int32) (a4 : Int32) (a5 : Int32) (a6 : ux_M), z_fW a1 a6 (m_41f_16 km4 a0 a1 a2 a3 a4 a5 a6) := by
  intro a0
  induction a0 with
  | zero => intro a1 a2 a3 a4 a5 a6; exact z_fW.rf
  | succ a0 ih =>
    intro a1 a2 a3 a4 a5 a6
    unfold m_41f_16; (try dsimp only)
    repeat (first | with_reducible exact z_fW.rf | with_reducible refine z_fW.ite ?_ ?_ | with_reducible refine z_fW.st (by omega) ?_ | with_reducible refine z_fW.tr ?_ (hkm4 _ _ _ _) | with_reducible refine z_fW.tr ?_ (ih _ _ _ _ _ _))
theorem fw_41f_4   : ∀ (a0 : Nat) (a1 : Nat) (a2 : Int32) (a3 : Int32) (a4 : ux_M), z_fW a1 a4 (m_41f_4 a0 a1 a2 a3 a4) := by
  intro a0
  induction a0 with
  | zero => intro a1 a2 a3 a4; exact z_fW.rf
  | succ a0 ih =>
    intro a1 a2 a3 a4
    unfold m_41f_4; (try dsimp only)
    repeat (first | with_reducible exact z_fW.rf | with_reducible refine z_fW.ite ?_ ?_ | with_reducible refine z_fW.st (by omega) ?_ | with_reducible refine z_fW.tr ?_ (fw_41f_16 _ (fun _ _ _ _ => by first | exact ih _ _ _ _ | exact ih _ _ _ _ | exact ih _ _ _ | exact ih _ _ | exact ih _) _ _ _ _ _ _ _) | with_reducible refine z_fW.tr ?_ (ih _ _ _ _))
theorem fw_41f (k : Nat) (x1 : Int32) (M : ux_M)  : z_fW k M (m_41f k x1 M) := by
  unfold m_41f; (try dsimp only)
  repeat (first | with_reducible exact z_fW.rf | with_reducible refine z_fW.ite ?_ ?_ | with_reducible refine z_fW.st (by omega) ?_ | with_reducible refine z_fW.tr ?_ (fw_41f_4 _ _ _ _ _))
theorem fw_41r_16 (km4 : Nat → Nat → Int32 → Int32 → ux_M → ux_M) (hkm4 : ∀ (v0 : Nat) (v1 : Nat) (v2 : Int32) (v3 : Int32) (v4 : ux_M), z_fW v0 v4 (km4 v0 v1 v2 v3 v4)) : ∀ (a0 : Nat) (a1 : Nat) (a2 : Nat) (a3 : Int32) (a4 : Int32) (a5 : Int32) (a6 : Int32) (a7 : ux_M), z_fW a1 a7 (m_41r_16 km4 a0 a1 a2 a3 a4 a5 a6 a7) := by
  intro a0
  induction a0 with
  | zero => intro a1 a2 a3 a4 a5 a6 a7; exact z_fW.rf
  | succ a0 ih =>
    intro a1 a2 a3 a4 a5 a6 a7
    unfold m_41r_16; (try dsimp only)
    repeat (first | with_reducible exact z_fW.rf | with_reducible refine z_fW.ite ?_ ?_ | with_reducible refine z_fW.st (by omega) ?_ | with_reducible refine z_fW.tr ?_ (hkm4 _ _ _ _ _) | with_reducible refine z_fW.tr ?_ (ih _ _ _ _ _ _ _))
theorem fw_41r_4   : ∀ (a0 : Nat) (a1 : Nat) (a2 : Nat) (a3 : Int32) (a4 : Int32) (a5 : ux_M), z_fW a1 a5 (m_41r_4 a0 a1 a2 a3 a4 a5) := by
  intro a0
  induction a0 with
  | zero => intro a1 a2 a3 a4 a5; exact z_fW.rf
  | succ a0 ih =>
    intro a1 a2 a3 a4 a5
    unfold m_41r_4; (try dsimp only)
    repeat (first | with_reducible exact z_fW.rf | with_reducible refine z_fW.ite ?_ ?_ | with_reducible refine z_fW.st (by omega) ?_ | with_reducible refine z_fW.tr ?_ (fw_41r_16 _ (fun _ _ _ _ _ => by first | exact ih _ _ _ _ _ | exact ih _ _ _ _ | exact ih _ _ _ | exact ih _ _ | exact ih _) _ _ _ _ _ _ _ _) | with_reducible refine z_fW.tr ?_ (ih _ _ _ _ _))
theorem fw_41r (k : Nat) (r : Nat) (x1 : Int32) (M : ux_M)  : z_fW k M (m_41r k r x1 M) := by
  unfold m_41r; (try dsimp only)
  repeat (first | with_reducible exact z_fW.rf | with_reducible refine z_fW.ite ?_ ?_ | with_reducible refine z_fW.st (by omega) ?_ | with_reducible refine z_fW.tr ?_ (fw_41r_4 _ _ _ _ _ _))
theorem fw_41b_16 (km4 : Nat → Int32 → Int32 → ux_M → ux_M) (hkm4 : ∀ (v0 : Nat) (v1 : Int32) (v2 : Int32) (v3 : ux_M), z_fW v0 v3 (km4 v0 v1 v2 v3)) : ∀ (a0 : Nat) (a1 : Nat) (a2 : Int32) (a3 : Int32) (a4 : Int32) (a5 : Int32) (a6 : ux_M), z_fW a1 a6 (m_41b_16 km4 a0 a1 a2 a3 a4 a5 a6) := by
  intro a0
  induction a0 with
  | zero => intro a1 a2 a3 a4 a5 a6; exact z_fW.rf
  | succ a0 ih =>
    intro a1 a2 a3 a4 a5 a6
    unfold m_41b_16; (try dsimp only)
    repeat (first | with_reducible exact z_fW.rf | with_reducible refine z_fW.ite ?_ ?_ | with_reducible refine z_fW.st (by omega) ?_ | with_reducible refine z_fW.tr ?_ (hkm4 _ _ _ _) | with_reducible refine z_fW.tr ?_ (ih _ _ _ _ _ _))
theorem fw_41b_4   : ∀ (a0 : Nat) (a1 : Nat) (a2 : Int32) (a3 : Int32) (a4 : ux_M), z_fW a1 a4 (m_41b_4 a0 a1 a2 a3 a4) := by
  intro a0
  induction a0 with
  | zero => intro a1 a2 a3 a4; exact z_fW.rf
  | succ a0 ih =>
    intro a1 a2 a3 a4
    unfold m_41b_4; (try dsimp only)
    repeat (first | with_reducible exact z_fW.rf | with_reducible refine z_fW.ite ?_ ?_ | with_reducible refine z_fW.st (by omega) ?_ | with_reducible refine z_fW.tr ?_ (fw_41b_16 _ (fun _ _ _ _ => by first | exact ih _ _ _ _ | exact ih _ _ _ _ | exact ih _ _ _ | exact ih _ _ | exact ih _) _ _ _ _ _ _ _) | with_reducible refine z_fW.tr ?_ (ih _ _ _ _))
theorem fw_41b (k : Nat) (x1 : Int32) (M : ux_M)  : z_fW k M (m_41b k x1 M) := by
  unfold m_41b; (try dsimp only)
  repeat (first | with_reducible exact z_fW.rf | with_reducible refine z_fW.ite ?_ ?_ | with_reducible refine z_fW.st (by omega) ?_ | with_reducible refine z_fW.tr ?_ (fw_41b_4 _ _ _ _ _))
theorem fw_40r_4   : ∀ (a0 : Nat) (a1 : Nat) (a2 : Nat) (a3 : Int32) (a4 : Int32) (a5 : ux_M), z_fW a1 a5 (m_40r_4 a0 a1 a2 a3 a4 a5) := by
  intro a0
  induction a0 with
  | zero => intro a1 a2 a3 a4 a5; exact z_fW.rf
  | succ a0 ih =>
    intro a1 a2 a3 a4 a5
    unfold m_40r_4; (try dsimp only)
    repeat (first | with_reducible exact z_fW.rf | with_reducible refine z_fW.ite ?_ ?_ | with_reducible refine z_fW.st (by omega) ?_ | with_reducible refine z_fW.tr ?_ (fw_41r _ _ _ _) | with_reducible refine z_fW.tr ?_ (ih _ _ _ _ _))
theorem fw_40r (k : Nat) (r : Nat) (M : ux_M)  : z_fW k M (m_40r k r M) := by
  unfold m_40r; (try dsimp only)
  repeat (first | with_reducible exact z_fW.rf | with_reducible refine z_fW.ite ?_ ?_ | with_reducible refine z_fW.st (by omega) ?_ | with_reducible refine z_fW.tr ?_ (fw_40r_4 _ _ _ _ _ _))
theorem fw_40b_4   : ∀ (a0 : Nat) (a1 : Nat) (a2 : Int32) (a3 : Int32) (a4 : ux_M), z_fW a1 a4 (m_40b_4 a0 a1 a2 a3 a4) := by
  intro a0
  induction a0 with
  | zero => intro a1 a2 a3 a4; exact z_fW.rf
  | succ a0 ih =>
    intro a1 a2 a3 a4
    unfold m_40b_4; (try dsimp only)
    repeat (first | with_reducible exact z_fW.rf | with_reducible refine z_fW.ite ?_ ?_ | with_reducible refine z_fW.st (by omega) ?_ | with_reducible refine z_fW.tr ?_ (fw_41b _ _ _) | with_reducible refine z_fW.tr ?_ (ih _ _ _ _))
theorem fw_40b (k : Nat) (M : ux_M)  : z_fW k M (m_40b k M) := by
  unfold m_40b; (try dsimp only)
  repeat (first | with_reducible exact z_fW.rf | with_reducible refine z_fW.ite ?_ ?_ | with_reducible refine z_fW.st (by omega) ?_ | with_reducible refine z_fW.tr ?_ (fw_40b_4 _ _ _ _ _))
theorem fw_57 (k : Nat) (x1 : Int32) (x2 : Int32) (M : ux_M)  : z_fW k M (m_57 k x1 x2 M) := by
  unfold m_57; (try dsimp only)
  repeat (first | with_reducible exact z_fW.rf | with_reducible refine z_fW.ite ?_ ?_ | with_reducible refine z_fW.st (by omega) ?_)
theorem fw_58_43 (k : Nat) (x1 : Int32) (x2 : Int32) (M : ux_M)  : z_fW k M (m_58_43 k x1 x2 M) := by
  unfold m_58_43; (try dsimp only)
  repeat (first | with_reducible exact z_fW.rf | with_reducible refine z_fW.ite ?_ ?_ | with_reducible refine z_fW.st (by omega) ?_)
theorem fw_58 (k : Nat) (x1 : Int32) (x2 : Int32) (M : ux_M)  : z_fW k M (m_58 k x1 x2 M) := by
  unfold m_58; (try dsimp only)
  repeat (first | with_reducible exact z_fW.rf | with_reducible refine z_fW.ite ?_ ?_ | with_reducible refine z_fW.st (by omega) ?_ | with_reducible refine z_fW.tr ?_ (fw_58_43 _ _ _ _))
theorem fw_56_40 (mr : Nat → Int32 → Int32 → Int32 → ux_M → ux_M) (hmr : ∀ (v0 : Nat) (v1 : Int32) (v2 : Int32) (v3 : Int32) (v4 : ux_M), z_fW v0 v4 (mr v0 v1 v2 v3 v4)) : ∀ (a0 : Nat) (a1 : Nat) (a2 : Int32) (a3 : Int32) (a4 : Int32) (a5 : ux_M), z_fW a1 a5 (m_56_40 mr a0 a1 a2 a3 a4 a5) := by
  intro a0
  induction a0 with
  | zero => intro a1 a2 a3 a4 a5; exact z_fW.rf
  | succ a0 ih =>
    intro a1 a2 a3 a4 a5
    unfold m_56_40; (try dsimp only)
    repeat (first | with_reducible exact z_fW.rf | with_reducible refine z_fW.ite ?_ ?_ | with_reducible refine z_fW.st (by omega) ?_ | with_reducible refine z_fW.tr ?_ (hmr _ _ _ _ _) | with_reducible refine z_fW.tr ?_ (ih _ _ _ _ _))
theorem fw_56_30 (mr : Nat → Int32 → Int32 → Int32 → ux_M → ux_M) (k : Nat) (x1 : Int32) (x3 : Int32) (M : ux_M) (hmr : ∀ (v0 : Nat) (v1 : Int32) (v2 : Int32) (v3 : Int32) (v4 : ux_M), z_fW v0 v4 (mr v0 v1 v2 v3 v4)) : z_fW k M (m_56_30 mr k x1 x3 M) := by
  unfold m_56_30; (try dsimp only)
  repeat (first | with_reducible exact z_fW.rf | with_reducible refine z_fW.ite ?_ ?_ | with_reducible refine z_fW.st (by omega) ?_ | with_reducible refine z_fW.tr ?_ (hmr _ _ _ _ _) | with_reducible refine z_fW.tr ?_ (fw_56_40 _ hmr _ _ _ _ _ _))
theorem fwb_56 (mr : Nat → Int32 → Int32 → Int32 → ux_M → ux_M) (k : Nat) (x1 : Int32) (x2 : Int32) (x3 : Int32) (M : ux_M) (hmr : ∀ (v0 : Nat) (v1 : Int32) (v2 : Int32) (v3 : Int32) (v4 : ux_M), z_fW v0 v4 (mr v0 v1 v2 v3 v4)) : z_fW k M (mb_56 mr k x1 x2 x3 M) := by
  unfold mb_56; (try dsimp only)
  repeat (first | with_reducible exact z_fW.rf | with_reducible refine z_fW.ite ?_ ?_ | with_reducible refine z_fW.st (by omega) ?_ | with_reducible refine z_fW.tr ?_ (hmr _ _ _ _ _) | with_reducible refine z_fW.tr ?_ (fw_56_30 _ _ _ _ _ hmr ) | with_reducible refine z_fW.tr ?_ (fw_58 _ _ _ _))
theorem fwF_56   : ∀ (a0 : Nat) (a1 : Nat) (a2 : Int32) (a3 : Int32) (a4 : Int32) (a5 : ux_M), z_fW a1 a5 (mF_56 a0 a1 a2 a3 a4 a5) := by
  intro a0
  induction a0 with
  | zero => intro a1 a2 a3 a4 a5; exact z_fW.rf
  | succ a0 ih =>
    intro a1 a2 a3 a4 a5
    unfold mF_56; (try dsimp only)
    repeat (first | with_reducible exact z_fW.rf | with_reducible refine z_fW.ite ?_ ?_ | with_reducible refine z_fW.st (by omega) ?_ | with_reducible refine z_fW.tr ?_ (fwb_56 _ _ _ _ _ _ (fun _ _ _ _ _ => by first | exact ih _ _ _ _ _ | exact ih _ _ _ _ | exact ih _ _ _ | exact ih _ _ | exact ih _) ) | with_reducible refine z_fW.tr ?_ (ih _ _ _ _ _))
theorem fw_56 (k : Nat) (x1 : Int32) (x2 : Int32) (x3 : Int32) (M : ux_M)  : z_fW k M (m_56 k x1 x2 x3 M) := by
  unfold m_56; (try dsimp only)
  repeat (first | with_reducible exact z_fW.rf | with_reducible refine z_fW.ite ?_ ?_ | with_reducible refine z_fW.st (by omega) ?_ | with_reducible refine z_fW.tr ?_ (fwF_56 _ _ _ _ _ _))
theorem fw_60 (k : Nat) (x1 : Int32) (M : ux_M)  : z_fW k M (m_60 k x1 M) := by
  unfold m_60; (try dsimp only)
  repeat (first | with_reducible exact z_fW.rf | with_reducible refine z_fW.ite ?_ ?_ | with_reducible refine z_fW.st (by omega) ?_)
theorem fw_59_79 (k : Nat) (x1 : Int32) (x2 : Int32) (M : ux_M)  : z_fW k M (m_59_79 k x1 x2 M) := by
  unfold m_59_79; (try dsimp only)
  repeat (first | with_reducible exact z_fW.rf | with_reducible refine z_fW.ite ?_ ?_ | with_reducible refine z_fW.st (by omega) ?_ | with_reducible refine z_fW.tr ?_ (fw_58 _ _ _ _))
theorem fw_59_48 (k : Nat) (x1 : Int32) (x2 : Int32) (z0 : Int32) (M : ux_M)  : z_fW k M (m_59_48 k x1 x2 z0 M) := by
  unfold m_59_48; (try dsimp only)
  repeat (first | with_reducible exact z_fW.rf | with_reducible refine z_fW.ite ?_ ?_ | with_reducible refine z_fW.st (by omega) ?_ | with_reducible refine z_fW.tr ?_ (fw_59_79 _ _ _ _) | with_reducible refine z_fW.tr ?_ (fw_60 _ _ _) | with_reducible refine z_fW.tr ?_ (fw_58 _ _ _ _))
theorem fw_59_43 (k : Nat) (x1 : Int32) (x2 : Int32) (M : ux_M)  : z_fW k M (m_59_43 k x1 x2 M) := by
  unfold m_59_43; (try dsimp only)
  repeat (first | with_reducible exact z_fW.rf | with_reducible refine z_fW.ite ?_ ?_ | with_reducible refine z_fW.st (by omega) ?_ | with_reducible refine z_fW.tr ?_ (fw_59_48 _ _ _ _ _))
theorem fw_59_47 (k : Nat) (x1 : Int32) (x2 : Int32) (M : ux_M)  : z_fW k M (m_59_47 k x1 x2 M) := by
  unfold m_59_47; (try dsimp only)
  repeat (first | with_reducible exact z_fW.rf | with_reducible refine z_fW.ite ?_ ?_ | with_reducible refine z_fW.st (by omega) ?_ | with_reducible refine z_fW.tr ?_ (fw_59_48 _ _ _ _ _))
theorem fw_59_14 (k : Nat) (x1 : Int32) (x2 : Int32) (z0 : Int32) (z1 : Int32) (M : ux_M)  : z_fW k M (m_59_14 k x1 x2 z0 z1 M) := by
  unfold m_59_14; (try dsimp only)
  repeat (first | with_reducible exact z_fW.rf | with_reducible refine z_fW.ite ?_ ?_ | with_reducible refine z_fW.st (by omega) ?_ | with_reducible refine z_fW.tr ?_ (fw_59_43 _ _ _ _) | with_reducible refine z_fW.tr ?_ (fw_59_47 _ _ _ _))
theorem fw_59 (k : Nat) (x1 : Int32) (x2 : Int32) (M : ux_M)  : z_fW k M (m_59 k x1 x2 M) := by
  unfold m_59; (try dsimp only)
  repeat (first | with_reducible exact z_fW.rf | with_reducible refine z_fW.ite ?_ ?_ | with_reducible refine z_fW.st (by omega) ?_ | with_reducible refine z_fW.tr ?_ (fw_59_14 _ _ _ _ _ _))
theorem fw_52_69   : ∀ (a0 : Nat) (a1 : Nat) (a2 : Int32) (a3 : Int32) (a4 : Int32) (a5 : ux_M), z_fW a1 a5 (m_52_69 a0 a1 a2 a3 a4 a5) := by
  intro a0
  induction a0 with
  | zero => intro a1 a2 a3 a4 a5; exact z_fW.rf
  | succ a0 ih =>
    intro a1 a2 a3 a4 a5
    unfold m_52_69; (try dsimp only)
    repeat (first | with_reducible exact z_fW.rf | with_reducible refine z_fW.ite ?_ ?_ | with_reducible refine z_fW.st (by omega) ?_ | with_reducible refine z_fW.tr ?_ (ih _ _ _ _ _))
theorem fw_52_17 (k : Nat) (x1 : Int32) (z0 : Int32) (M : ux_M)  : z_fW k M (m_52_17 k x1 z0 M) := by
  unfold m_52_17; (try dsimp only)
  repeat (first | with_reducible exact z_fW.rf | with_reducible refine z_fW.ite ?_ ?_ | with_reducible refine z_fW.st (by omega) ?_ | with_reducible refine z_fW.tr ?_ (fw_58 _ _ _ _) | with_reducible refine z_fW.tr ?_ (fw_52_69 _ _ _ _ _ _) | with_reducible refine z_fW.tr ?_ (fw_59 _ _ _ _) | with_reducible refine z_fW.tr ?_ (fw_56 _ _ _ _ _))
theorem fw_52 (k : Nat) (x1 : Int32) (M : ux_M)  : z_fW k M (m_52 k x1 M) := by
  unfold m_52; (try dsimp only)
  repeat (first | with_reducible exact z_fW.rf | with_reducible refine z_fW.ite ?_ ?_ | with_reducible refine z_fW.st (by omega) ?_ | with_reducible refine z_fW.tr ?_ (fw_52_17 _ _ _ _))
theorem fw_61 (k : Nat) (x1 : Int32) (M : ux_M)  : z_fW k M (m_61 k x1 M) := by
  unfold m_61; (try dsimp only)
  repeat (first | with_reducible exact z_fW.rf | with_reducible refine z_fW.ite ?_ ?_ | with_reducible refine z_fW.st (by omega) ?_ | with_reducible refine z_fW.tr ?_ (fw_58 _ _ _ _) | with_reducible refine z_fW.tr ?_ (fw_60 _ _ _))
theorem fw_62 (k : Nat) (x1 : Int32) (M : ux_M)  : z_fW k M (m_62 k x1 M) := by
  unfold m_62; (try dsimp only)
  repeat (first | with_reducible exact z_fW.rf | with_reducible refine z_fW.ite ?_ ?_ | with_reducible refine z_fW.st (by omega) ?_ | with_reducible refine z_fW.tr ?_ (fw_58 _ _ _ _) | with_reducible refine z_fW.tr ?_ (fw_60 _ _ _))
theorem fw_76_53 (k : Nat) (x2 : Int32) (x3 : Int32) (z0 : Int32) (M : ux_M)  : z_fW k M (m_76_53 k x2 x3 z0 M) := by
  unfold m_76_53; (try dsimp only)
  repeat (first | with_reducible exact z_fW.rf | with_reducible refine z_fW.ite ?_ ?_ | with_reducible refine z_fW.st (by omega) ?_)
theorem fw_76_27 (k : Nat) (x2 : Int32) (x3 : Int32) (z0 : Int32) (M : ux_M)  : z_fW k M (m_76_27 k x2 x3 z0 M) := by
  unfold m_76_27; (try dsimp only)
  repeat (first | with_reducible exact z_fW.rf | with_reducible refine z_fW.ite ?_ ?_ | with_reducible refine z_fW.st (by omega) ?_ | with_reducible refine z_fW.tr ?_ (fw_76_53 _ _ _ _ _))
theorem fw_76 (k : Nat) (x1 : Int32) (x2 : Int32) (M : ux_M)  : z_fW k M (m_76 k x1 x2 M) := by
  unfold m_76; (try dsimp only)
  repeat (first | with_reducible exact z_fW.rf | with_reducible refine z_fW.ite ?_ ?_ | with_reducible refine z_fW.st (by omega) ?_ | with_reducible refine z_fW.tr ?_ (fw_76_27 _ _ _ _ _))
theorem fw_74_2   : ∀ (a0 : Nat) (a1 : Nat) (a2 : Int32) (a3 : ux_M), z_fW a1 a3 (m_74_2 a0 a1 a2 a3) := by
  intro a0
  induction a0 with
  | zero => intro a1 a2 a3; exact z_fW.rf
  | succ a0 ih =>
    intro a1 a2 a3
    unfold m_74_2; (try dsimp only)
    repeat (first | with_reducible exact z_fW.rf | with_reducible refine z_fW.ite ?_ ?_ | with_reducible refine z_fW.st (by omega) ?_ | with_reducible refine z_fW.tr ?_ (fw_76 _ _ _ _) | with_reducible refine z_fW.tr ?_ (fw_56 _ _ _ _ _) | with_reducible refine z_fW.tr ?_ (ih _ _ _))
theorem fw_74 (k : Nat) (M : ux_M)  : z_fW k M (m_74 k M) := by
  unfold m_74; (try dsimp only)
  repeat (first | with_reducible exact z_fW.rf | with_reducible refine z_fW.ite ?_ ?_ | with_reducible refine z_fW.st (by omega) ?_ | with_reducible refine z_fW.tr ?_ (fw_74_2 _ _ _ _))
theorem fw_64_65 (k : Nat) (M : ux_M)  : z_fW k M (m_64_65 k M) := by
  unfold m_64_65; (try dsimp only)
  repeat (first | with_reducible exact z_fW.rf | with_reducible refine z_fW.ite ?_ ?_ | with_reducible refine z_fW.st (by omega) ?_ | with_reducible refine z_fW.tr ?_ (fw_74 _ _))
theorem fw_77 (k : Nat) (x1 : Int32) (M : ux_M)  : z_fW k M (m_77 k x1 M) := by
  unfold m_77; (try dsimp only)
  repeat (first | with_reducible exact z_fW.rf | with_reducible refine z_fW.ite ?_ ?_ | with_reducible refine z_fW.st (by omega) ?_ | with_reducible refine z_fW.tr ?_ (fw_76 _ _ _ _))
theorem fw_84 (k : Nat) (x1 : Int32) (M : ux_M)  : z_fW k M (m_84 k x1 M) := by
  unfold m_84; (try dsimp only)
  repeat (first | with_reducible exact z_fW.rf | with_reducible refine z_fW.ite ?_ ?_ | with_reducible refine z_fW.st (by omega) ?_ | with_reducible refine z_fW.tr ?_ (fw_56 _ _ _ _ _))
theorem fw_83_22   : ∀ (a0 : Nat) (a1 : Nat) (a2 : Int32) (a3 : Int32) (a4 : ux_M), z_fW a1 a4 (m_83_22 a0 a1 a2 a3 a4) := by
  intro a0
  induction a0 with
  | zero => intro a1 a2 a3 a4; exact z_fW.rf
  | succ a0 ih =>
    intro a1 a2 a3 a4
    unfold m_83_22; (try dsimp only)
    repeat (first | with_reducible exact z_fW.rf | with_reducible refine z_fW.ite ?_ ?_ | with_reducible refine z_fW.st (by omega) ?_ | with_reducible refine z_fW.tr ?_ (fw_58 _ _ _ _) | with_reducible refine z_fW.tr ?_ (fw_84 _ _ _) | with_reducible refine z_fW.tr ?_ (ih _ _ _ _))
theorem fw_83 (k : Nat) (x1 : Int32) (M : ux_M)  : z_fW k M (m_83 k x1 M) := by
  unfold m_83; (try dsimp only)
  repeat (first | with_reducible exact z_fW.rf | with_reducible refine z_fW.ite ?_ ?_ | with_reducible refine z_fW.st (by omega) ?_ | with_reducible refine z_fW.tr ?_ (fw_58 _ _ _ _) | with_reducible refine z_fW.tr ?_ (fw_56 _ _ _ _ _) | with_reducible refine z_fW.tr ?_ (fw_83_22 _ _ _ _ _))
theorem fw_85 (k : Nat) (x1 : Int32) (M : ux_M)  : z_fW k M (m_85 k x1 M) := by
  unfold m_85; (try dsimp only)
  repeat (first | with_reducible exact z_fW.rf | with_reducible refine z_fW.ite ?_ ?_ | with_reducible refine z_fW.st (by omega) ?_ | with_reducible refine z_fW.tr ?_ (fw_58 _ _ _ _) | with_reducible refine z_fW.tr ?_ (fw_52 _ _ _))
theorem fw_80_103 (k : Nat) (x1 : Int32) (M : ux_M)  : z_fW k M (m_80_103 k x1 M) := by
  unfold m_80_103; (try dsimp only)
  repeat (first | with_reducible exact z_fW.rf | with_reducible refine z_fW.ite ?_ ?_ | with_reducible refine z_fW.st (by omega) ?_ | with_reducible refine z_fW.tr ?_ (fw_85 _ _ _))
theorem fw_80 (k : Nat) (x1 : Int32) (M : ux_M)  : z_fW k M (m_80 k x1 M) := by
  unfold m_80; (try dsimp only)
  repeat (first | with_reducible exact z_fW.rf | with_reducible refine z_fW.ite ?_ ?_ | with_reducible refine z_fW.st (by omega) ?_ | with_reducible refine z_fW.tr ?_ (fw_56 _ _ _ _ _) | with_reducible refine z_fW.tr ?_ (fw_80_103 _ _ _) | with_reducible refine z_fW.tr ?_ (fw_83 _ _ _))
theorem fw_87 (k : Nat) (x1 : Int32) (M : ux_M)  : z_fW k M (m_87 k x1 M) := by
  unfold m_87; (try dsimp only)
  repeat (first | with_reducible exact z_fW.rf | with_reducible refine z_fW.ite ?_ ?_ | with_reducible refine z_fW.st (by omega) ?_ | with_reducible refine z_fW.tr ?_ (fw_58 _ _ _ _) | with_reducible refine z_fW.tr ?_ (fw_61 _ _ _))
theorem fw_86 (k : Nat) (x1 : Int32) (M : ux_M)  : z_fW k M (m_86 k x1 M) := by
  unfold m_86; (try dsimp only)
  repeat (first | with_reducible exact z_fW.rf | with_reducible refine z_fW.ite ?_ ?_ | with_reducible refine z_fW.st (by omega) ?_ | with_reducible refine z_fW.tr ?_ (fw_58 _ _ _ _) | with_reducible refine z_fW.tr ?_ (fw_87 _ _ _))
theorem fw_88 (k : Nat) (x1 : Int32) (M : ux_M)  : z_fW k M (m_88 k x1 M) := by
  unfold m_88; (try dsimp only)
  repeat (first | with_reducible exact z_fW.rf | with_reducible refine z_fW.ite ?_ ?_ | with_reducible refine z_fW.st (by omega) ?_ | with_reducible refine z_fW.tr ?_ (fw_76 _ _ _ _) | with_reducible refine z_fW.tr ?_ (fw_87 _ _ _))
theorem fw_78_12 (km2 : Nat → Int32 → ux_M → ux_M) (hkm2 : ∀ (v0 : Nat) (v1 : Int32) (v2 : ux_M), z_fW v0 v2 (km2 v0 v1 v2)) : ∀ (a0 : Nat) (a1 : Nat) (a2 : Int32) (a3 : Int32) (a4 : Int32) (a5 : ux_M), z_fW a1 a5 (m_78_12 km2 a0 a1 a2 a3 a4 a5) := by
  intro a0
  induction a0 with
  | zero => intro a1 a2 a3 a4 a5; exact z_fW.rf
  | succ a0 ih =>
    intro a1 a2 a3 a4 a5
    unfold m_78_12; (try dsimp only)
    repeat (first | with_reducible exact z_fW.rf | with_reducible refine z_fW.ite ?_ ?_ | with_reducible refine z_fW.st (by omega) ?_ | with_reducible refine z_fW.tr ?_ (hkm2 _ _ _) | with_reducible refine z_fW.tr ?_ (fw_80 _ _ _) | with_reducible refine z_fW.tr ?_ (fw_86 _ _ _) | with_reducible refine z_fW.tr ?_ (fw_88 _ _ _) | with_reducible refine z_fW.tr ?_ (ih _ _ _ _ _))
theorem fw_78_2   : ∀ (a0 : Nat) (a1 : Nat) (a2 : Int32) (a3 : ux_M), z_fW a1 a3 (m_78_2 a0 a1 a2 a3) := by
  intro a0
  induction a0 with
  | zero => intro a1 a2 a3; exact z_fW.rf
  | succ a0 ih =>
    intro a1 a2 a3
    unfold m_78_2; (try dsimp only)
    repeat (first | with_reducible exact z_fW.rf | with_reducible refine z_fW.ite ?_ ?_ | with_reducible refine z_fW.st (by omega) ?_ | with_reducible refine z_fW.tr ?_ (fw_78_12 _ (fun _ _ _ => by first | exact ih _ _ _ | exact ih _ _ _ _ | exact ih _ _ _ | exact ih _ _ | exact ih _) _ _ _ _ _ _) | with_reducible refine z_fW.tr ?_ (ih _ _ _))
theorem fw_78 (k : Nat) (M : ux_M)  : z_fW k M (m_78 k M) := by
  unfold m_78; (try dsimp only)
  repeat (first | with_reducible exact z_fW.rf | with_reducible refine z_fW.ite ?_ ?_ | with_reducible refine z_fW.st (by omega) ?_ | with_reducible refine z_fW.tr ?_ (fw_78_2 _ _ _ _))
theorem fw_109 (k : Nat) (x1 : Int32) (M : ux_M)  : z_fW k M (m_109 k x1 M) := by
  unfold m_109; (try dsimp only)
  repeat (first | with_reducible exact z_fW.rf | with_reducible refine z_fW.ite ?_ ?_ | with_reducible refine z_fW.st (by omega) ?_ | with_reducible refine z_fW.tr ?_ (fw_84 _ _ _) | with_reducible refine z_fW.tr ?_ (fw_58 _ _ _ _))
theorem fw_120_35 (k : Nat) (x1 : Int32) (M : ux_M)  : z_fW k M (m_120_35 k x1 M) := by
  unfold m_120_35; (try dsimp only)
  repeat (first | with_reducible exact z_fW.rf | with_reducible refine z_fW.ite ?_ ?_ | with_reducible refine z_fW.st (by omega) ?_)
theorem fw_120 (k : Nat) (x1 : Int32) (M : ux_M)  : z_fW k M (m_120 k x1 M) := by
  unfold m_120; (try dsimp only)
  repeat (first | with_reducible exact z_fW.rf | with_reducible refine z_fW.ite ?_ ?_ | with_reducible refine z_fW.st (by omega) ?_ | with_reducible refine z_fW.tr ?_ (fw_120_35 _ _ _) | with_reducible refine z_fW.tr ?_ (fw_58 _ _ _ _))
theorem fr_173b_2   : ∀ (a0 : Nat) (a1 : Int32) (a2 : ux_M), z_fR a2 (m_173b_2 a0 a1 a2) := by
  intro a0
  induction a0 with
  | zero => intro a1 a2; exact z_fR.rf
  | succ a0 ih =>
    intro a1 a2
    unfold m_173b_2; (try dsimp only)
    repeat (first | with_reducible exact z_fR.rf | with_reducible refine z_fR.ite ?_ ?_ | with_reducible refine z_fR.st ?_ | with_reducible refine z_fR.pt ?_ | with_reducible refine z_fR.tr ?_ (ih _ _))
theorem fr_173b (M : ux_M)  : z_fR M (m_173b M) := by
  unfold m_173b; (try dsimp only)
  repeat (first | with_reducible exact z_fR.rf | with_reducible refine z_fR.ite ?_ ?_ | with_reducible refine z_fR.st ?_ | with_reducible refine z_fR.pt ?_ | with_reducible refine z_fR.tr ?_ (fr_173b_2 _ _ _))
theorem fr_173c_2   : ∀ (a0 : Nat) (a1 : Int32) (a2 : ux_M), z_fR a2 (m_173c_2 a0 a1 a2) := by
  intro a0
  induction a0 with
  | zero => intro a1 a2; exact z_fR.rf
  | succ a0 ih =>
    intro a1 a2
    unfold m_173c_2; (try dsimp only)
    repeat (first | with_reducible exact z_fR.rf | with_reducible refine z_fR.ite ?_ ?_ | with_reducible refine z_fR.st ?_ | with_reducible refine z_fR.pt ?_ | with_reducible refine z_fR.tr ?_ (ih _ _))
theorem fr_173c (M : ux_M)  : z_fR M (m_173c M) := by
  unfold m_173c; (try dsimp only)
  repeat (first | with_reducible exact z_fR.rf | with_reducible refine z_fR.ite ?_ ?_ | with_reducible refine z_fR.st ?_ | with_reducible refine z_fR.pt ?_ | with_reducible refine z_fR.tr ?_ (fr_173c_2 _ _ _))
theorem fr_173f_2   : ∀ (a0 : Nat) (a1 : Int32) (a2 : ux_M), z_fR a2 (m_173f_2 a0 a1 a2) := by
  intro a0
  induction a0 with
  | zero => intro a1 a2; exact z_fR.rf
  | succ a0 ih =>
    intro a1 a2
    unfold m_173f_2; (try dsimp only)
    repeat (first | with_reducible exact z_fR.rf | with_reducible refine z_fR.ite ?_ ?_ | with_reducible refine z_fR.st ?_ | with_reducible refine z_fR.pt ?_ | with_reducible refine z_fR.tr ?_ (ih _ _))
theorem fr_173f (M : ux_M)  : z_fR M (m_173f M) := by
  unfold m_173f; (try dsimp only)
  repeat (first | with_reducible exact z_fR.rf | with_reducible refine z_fR.ite ?_ ?_ | with_reducible refine z_fR.st ?_ | with_reducible refine z_fR.pt ?_ | with_reducible refine z_fR.tr ?_ (fr_173f_2 _ _ _))
theorem fr_173g_2   : ∀ (a0 : Nat) (a1 : Int32) (a2 : ux_M), z_fR a2 (m_173g_2 a0 a1 a2) := by
  intro a0
  induction a0 with
  | zero => intro a1 a2; exact z_fR.rf
  | succ a0 ih =>
    intro a1 a2
    unfold m_173g_2; (try dsimp only)
    repeat (first | with_reducible exact z_fR.rf | with_reducible refine z_fR.ite ?_ ?_ | with_reducible refine z_fR.st ?_ | with_reducible refine z_fR.pt ?_ | with_reducible refine z_fR.tr ?_ (ih _ _))
theorem fr_173g (M : ux_M)  : z_fR M (m_173g M) := by
  unfold m_173g; (try dsimp only)
  repeat (first | with_reducible exact z_fR.rf | with_reducible refine z_fR.ite ?_ ?_ | with_reducible refine z_fR.st ?_ | with_reducible refine z_fR.pt ?_ | with_reducible refine z_fR.tr ?_ (fr_173g_2 _ _ _))
theorem fr_185 (x1 : Int32) (x2 : Int32) (x3 : Int32) (M : ux_M)  : z_fR M (m_185 x1 x2 x3 M) := by
  unfold m_185; (try dsimp only)
  repeat (first | with_reducible exact z_fR.rf | with_reducible refine z_fR.ite ?_ ?_ | with_reducible refine z_fR.st ?_ | with_reducible refine z_fR.pt ?_)
theorem fr_184 (x1 : Int32) (x2 : Int32) (M : ux_M)  : z_fR M (m_184 x1 x2 M) := by
  unfold m_184; (try dsimp only)
  repeat (first | with_reducible exact z_fR.rf | with_reducible refine z_fR.ite ?_ ?_ | with_reducible refine z_fR.st ?_ | with_reducible refine z_fR.pt ?_)
theorem fr_191_51 (x1 : Int32) (x2 : Int32) (M : ux_M)  : z_fR M (m_191_51 x1 x2 M) := by
  unfold m_191_51; (try dsimp only)
  repeat (first | with_reducible exact z_fR.rf | with_reducible refine z_fR.ite ?_ ?_ | with_reducible refine z_fR.st ?_ | with_reducible refine z_fR.pt ?_)
theorem fr_191_14   : ∀ (a0 : Nat) (a1 : Int32) (a2 : Int32) (a3 : Int32) (a4 : ux_M), z_fR a4 (m_191_14 a0 a1 a2 a3 a4) := by
  intro a0
  induction a0 with
  | zero => intro a1 a2 a3 a4; exact z_fR.rf
  | succ a0 ih =>
    intro a1 a2 a3 a4
    unfold m_191_14; (try dsimp only)
    repeat (first | with_reducible exact z_fR.rf | with_reducible refine z_fR.ite ?_ ?_ | with_reducible refine z_fR.st ?_ | with_reducible refine z_fR.pt ?_ | with_reducible refine z_fR.tr ?_ (fr_191_51 _ _ _) | with_reducible refine z_fR.tr ?_ (ih _ _ _ _))
theorem fr_191 (x1 : Int32) (x2 : Int32) (M : ux_M)  : z_fR M (m_191 x1 x2 M) := by
  unfold m_191; (try dsimp only)
  repeat (first | with_reducible exact z_fR.rf | with_reducible refine z_fR.ite ?_ ?_ | with_reducible refine z_fR.st ?_ | with_reducible refine z_fR.pt ?_ | with_reducible refine z_fR.tr ?_ (fr_191_14 _ _ _ _ _) | with_reducible refine z_fR.tr ?_ (fr_191_51 _ _ _))
theorem fr_192 (x1 : Int32) (x2 : Int32) (x3 : Int32) (M : ux_M)  : z_fR M (m_192 x1 x2 x3 M) := by
  unfold m_192; (try dsimp only)
  repeat (first | with_reducible exact z_fR.rf | with_reducible refine z_fR.ite ?_ ?_ | with_reducible refine z_fR.st ?_ | with_reducible refine z_fR.pt ?_)
theorem fr_190 (x1 : Int32) (x2 : Int32) (M : ux_M)  : z_fR M (m_190 x1 x2 M) := by
  unfold m_190; (try dsimp only)
  repeat (first | with_reducible exact z_fR.rf | with_reducible refine z_fR.ite ?_ ?_ | with_reducible refine z_fR.st ?_ | with_reducible refine z_fR.pt ?_ | with_reducible refine z_fR.tr ?_ (fr_191 _ _ _))
theorem fr_189 (x1 : Int32) (M : ux_M)  : z_fR M (m_189 x1 M) := by
  unfold m_189; (try dsimp only)
  repeat (first | with_reducible exact z_fR.rf | with_reducible refine z_fR.ite ?_ ?_ | with_reducible refine z_fR.st ?_ | with_reducible refine z_fR.pt ?_ | with_reducible refine z_fR.tr ?_ (fr_190 _ _ _))
theorem fr_186_2 (mr : Int32 → ux_M → ux_M) (hmr : ∀ (v0 : Int32) (v1 : ux_M), z_fR v1 (mr v0 v1)) : ∀ (a0 : Nat) (a1 : Int32) (a2 : Int32) (a3 : ux_M), z_fR a3 (m_186_2 mr a0 a1 a2 a3) := by
  intro a0
  induction a0 with
  | zero => intro a1 a2 a3; exact z_fR.rf
  | succ a0 ih =>
    intro a1 a2 a3
    unfold m_186_2; (try dsimp only)
    repeat (first | with_reducible exact z_fR.rf | with_reducible refine z_fR.ite ?_ ?_ | with_reducible refine z_fR.st ?_ | with_reducible refine z_fR.pt ?_ | with_reducible refine z_fR.tr ?_ (hmr _ _) | with_reducible refine z_fR.tr ?_ (fr_189 _ _) | with_reducible refine z_fR.tr ?_ (ih _ _ _))
theorem frb_186 (mr : Int32 → ux_M → ux_M) (x1 : Int32) (M : ux_M) (hmr : ∀ (v0 : Int32) (v1 : ux_M), z_fR v1 (mr v0 v1)) : z_fR M (mb_186 mr x1 M) := by
  unfold mb_186; (try dsimp only)
  repeat (first | with_reducible exact z_fR.rf | with_reducible refine z_fR.ite ?_ ?_ | with_reducible refine z_fR.st ?_ | with_reducible refine z_fR.pt ?_ | with_reducible refine z_fR.tr ?_ (hmr _ _) | with_reducible refine z_fR.tr ?_ (fr_186_2 _ hmr _ _ _ _))
theorem frF_186   : ∀ (a0 : Nat) (a1 : Int32) (a2 : ux_M), z_fR a2 (mF_186 a0 a1 a2) := by
  intro a0
  induction a0 with
  | zero => intro a1 a2; exact z_fR.rf
  | succ a0 ih =>
    intro a1 a2
    unfold mF_186; (try dsimp only)
    repeat (first | with_reducible exact z_fR.rf | with_reducible refine z_fR.ite ?_ ?_ | with_reducible refine z_fR.st ?_ | with_reducible refine z_fR.pt ?_ | with_reducible refine z_fR.tr ?_ (frb_186 _ _ _ (fun _ _ => by first | exact ih _ _ | exact ih _ _ _ _ | exact ih _ _ _ | exact ih _ _ | exact ih _) ) | with_reducible refine z_fR.tr ?_ (ih _ _))
theorem fr_186 (x1 : Int32) (M : ux_M)  : z_fR M (m_186 x1 M) := by
  unfold m_186; (try dsimp only)
  repeat (first | with_reducible exact z_fR.rf | with_reducible refine z_fR.ite ?_ ?_ | with_reducible refine z_fR.st ?_ | with_reducible refine z_fR.pt ?_ | with_reducible refine z_fR.tr ?_ (frF_186 _ _ _))
theorem fr_182 (x1 : Int32) (x2 : Int32) (M : ux_M)  : z_fR M (m_182 x1 x2 M) := by
  unfold m_182; (try dsimp only)
  repeat (first | with_reducible exact z_fR.rf | with_reducible refine z_fR.ite ?_ ?_ | with_reducible refine z_fR.st ?_ | with_reducible refine z_fR.pt ?_ | with_reducible refine z_fR.tr ?_ (fr_186 _ _))
theorem fr_195 (x1 : Int32) (x2 : Int32) (M : ux_M)  : z_fR M (m_195 x1 x2 M) := by
  unfold m_195; (try dsimp only)
  repeat (first | with_reducible exact z_fR.rf | with_reducible refine z_fR.ite ?_ ?_ | with_reducible refine z_fR.st ?_ | with_reducible refine z_fR.pt ?_)
theorem fr_214 (x1 : Int32) (M : ux_M)  : z_fR M (m_214 x1 M) := by
  unfold m_214; (try dsimp only)
  repeat (first | with_reducible exact z_fR.rf | with_reducible refine z_fR.ite ?_ ?_ | with_reducible refine z_fR.st ?_ | with_reducible refine z_fR.pt ?_ | with_reducible refine z_fR.tr ?_ (fr_182 _ _ _))
theorem fr_213_18 (x1 : Int32) (x2 : Int32) (M : ux_M)  : z_fR M (m_213_18 x1 x2 M) := by
  unfold m_213_18; (try dsimp only)
  repeat (first | with_reducible exact z_fR.rf | with_reducible refine z_fR.ite ?_ ?_ | with_reducible refine z_fR.st ?_ | with_reducible refine z_fR.pt ?_)
theorem fr_213 (x1 : Int32) (x2 : Int32) (M : ux_M)  : z_fR M (m_213 x1 x2 M) := by
  unfold m_213; (try dsimp only)
  repeat (first | with_reducible exact z_fR.rf | with_reducible refine z_fR.ite ?_ ?_ | with_reducible refine z_fR.st ?_ | with_reducible refine z_fR.pt ?_ | with_reducible refine z_fR.tr ?_ (fr_213_18 _ _ _) | with_reducible refine z_fR.tr ?_ (fr_214 _ _))
theorem fr_211_53   : ∀ (a0 : Nat) (a1 : Int32) (a2 : Int32) (a3 : ux_M), z_fR a3 (m_211_53 a0 a1 a2 a3) := by
  intro a0
  induction a0 with
  | zero => intro a1 a2 a3; exact z_fR.rf
  | succ a0 ih =>
    intro a1 a2 a3
    unfold m_211_53; (try dsimp only)
    repeat (first | with_reducible exact z_fR.rf | with_reducible refine z_fR.ite ?_ ?_ | with_reducible refine z_fR.st ?_ | with_reducible refine z_fR.pt ?_ | with_reducible refine z_fR.tr ?_ (fr_213 _ _ _) | with_reducible refine z_fR.tr ?_ (ih _ _ _))
theorem fr_211_4   : ∀ (a0 : Nat) (a1 : Int32) (a2 : Int32) (a3 : Int32) (a4 : ux_M), z_fR a4 (m_211_4 a0 a1 a2 a3 a4) := by
  intro a0
  induction a0 with
  | zero => intro a1 a2 a3 a4; exact z_fR.rf
  | succ a0 ih =>
    intro a1 a2 a3 a4
    unfold m_211_4; (try dsimp only)
    repeat (first | with_reducible exact z_fR.rf | with_reducible refine z_fR.ite ?_ ?_ | with_reducible refine z_fR.st ?_ | with_reducible refine z_fR.pt ?_ | with_reducible refine z_fR.tr ?_ (fr_211_53 _ _ _ _) | with_reducible refine z_fR.tr ?_ (ih _ _ _ _))
theorem fr_211 (x1 : Int32) (M : ux_M)  : z_fR M (m_211 x1 M) := by
  unfold m_211; (try dsimp only)
  repeat (first | with_reducible exact z_fR.rf | with_reducible refine z_fR.ite ?_ ?_ | with_reducible refine z_fR.st ?_ | with_reducible refine z_fR.pt ?_ | with_reducible refine z_fR.tr ?_ (fr_211_4 _ _ _ _ _))
theorem fr_181_101   : ∀ (a0 : Nat) (a1 : Int32) (a2 : Int32) (a3 : ux_M), z_fR a3 (m_181_101 a0 a1 a2 a3) := by
  intro a0
  induction a0 with
  | zero => intro a1 a2 a3; exact z_fR.rf
  | succ a0 ih =>
    intro a1 a2 a3
    unfold m_181_101; (try dsimp only)
    repeat (first | with_reducible exact z_fR.rf | with_reducible refine z_fR.ite ?_ ?_ | with_reducible refine z_fR.st ?_ | with_reducible refine z_fR.pt ?_ | with_reducible refine z_fR.tr ?_ (ih _ _ _))
theorem fr_181_50 (x1 : Int32) (M : ux_M)  : z_fR M (m_181_50 x1 M) := by
  unfold m_181_50; (try dsimp only)
  repeat (first | with_reducible exact z_fR.rf | with_reducible refine z_fR.ite ?_ ?_ | with_reducible refine z_fR.st ?_ | with_reducible refine z_fR.pt ?_ | with_reducible refine z_fR.tr ?_ (fr_190 _ _ _) | with_reducible refine z_fR.tr ?_ (fr_181_101 _ _ _ _))
theorem fr_215 (x1 : Int32) (M : ux_M)  : z_fR M (m_215 x1 M) := by
  unfold m_215; (try dsimp only)
  repeat (first | with_reducible exact z_fR.rf | with_reducible refine z_fR.ite ?_ ?_ | with_reducible refine z_fR.st ?_ | with_reducible refine z_fR.pt ?_ | with_reducible refine z_fR.tr ?_ (fr_190 _ _ _))
theorem fr_217 (x1 : Int32) (M : ux_M)  : z_fR M (m_217 x1 M) := by
  unfold m_217; (try dsimp only)
  repeat (first | with_reducible exact z_fR.rf | with_reducible refine z_fR.ite ?_ ?_ | with_reducible refine z_fR.st ?_ | with_reducible refine z_fR.pt ?_)
theorem fr_222_26 (x1 : Int32) (z0 : Int32) (M : ux_M)  : z_fR M (m_222_26 x1 z0 M) := by
  unfold m_222_26; (try dsimp only)
  repeat (first | with_reducible exact z_fR.rf | with_reducible refine z_fR.ite ?_ ?_ | with_reducible refine z_fR.st ?_ | with_reducible refine z_fR.pt ?_ | with_reducible refine z_fR.tr ?_ (fr_215 _ _))
theorem fr_222 (x1 : Int32) (M : ux_M) : z_fR M (m_222 x1 M) := by
  unfold m_222
  exact z_fR.ite ((fr_190 x1 3 M).tr (fr_222_26 _ _ _)) ((fr_190 x1 3 M).tr (fr_222_26 _ _ _))
theorem fr_221 (x1 : Int32) (x2 : Int32) (M : ux_M) : z_fR M (m_221 x1 x2 M) := by
  unfold m_221
  exact z_fR.ite (z_fR.pt (z_fR.pt (z_fR.pt z_fR.rf))) (z_fR.ite (z_fR.pt (z_fR.pt (z_fR.pt z_fR.rf))) (z_fR.ite (z_fR.pt (z_fR.pt (z_fR.pt (fr_190 _ _ _)))) (z_fR.ite (z_fR.pt z_fR.rf) ((z_fR.pt z_fR.rf).tr (fr_222 _ _)))))
theorem fr_223 (x1 : Int32) (x2 : Int32) (M : ux_M)  : z_fR M (m_223 x1 x2 M) := by
  unfold m_223; (try dsimp only)
  repeat (first | with_reducible exact z_fR.rf | with_reducible refine z_fR.ite ?_ ?_ | with_reducible refine z_fR.st ?_ | with_reducible refine z_fR.pt ?_ | with_reducible refine z_fR.tr ?_ (fr_222 _ _))
theorem fr_227_22   : ∀ (a0 : Nat) (a1 : Int32) (a2 : Int32) (a3 : ux_M), z_fR a3 (m_227_22 a0 a1 a2 a3) := by
  intro a0
  induction a0 with
  | zero => intro a1 a2 a3; exact z_fR.rf
  | succ a0 ih =>
    intro a1 a2 a3
    unfold m_227_22; (try dsimp only)
    repeat (first | with_reducible exact z_fR.rf | with_reducible refine z_fR.ite ?_ ?_ | with_reducible refine z_fR.st ?_ | with_reducible refine z_fR.pt ?_ | with_reducible refine z_fR.tr ?_ (fr_190 _ _ _) | with_reducible refine z_fR.tr ?_ (fr_214 _ _) | with_reducible refine z_fR.tr ?_ (ih _ _ _))
theorem fr_227 (x1 : Int32) (M : ux_M)  : z_fR M (m_227 x1 M) := by
  unfold m_227; (try dsimp only)
  repeat (first | with_reducible exact z_fR.rf | with_reducible refine z_fR.ite ?_ ?_ | with_reducible refine z_fR.st ?_ | with_reducible refine z_fR.pt ?_ | with_reducible refine z_fR.tr ?_ (fr_190 _ _ _) | with_reducible refine z_fR.tr ?_ (fr_182 _ _ _) | with_reducible refine z_fR.tr ?_ (fr_227_22 _ _ _ _))
theorem fr_229_54 (x1 : Int32) (M : ux_M)  : z_fR M (m_229_54 x1 M) := by
  unfold m_229_54; (try dsimp only)
  repeat (first | with_reducible exact z_fR.rf | with_reducible refine z_fR.ite ?_ ?_ | with_reducible refine z_fR.st ?_ | with_reducible refine z_fR.pt ?_)
theorem fr_229_14   : ∀ (a0 : Nat) (a1 : Int32) (a2 : Int32) (a3 : ux_M), z_fR a3 (m_229_14 a0 a1 a2 a3) := by
  intro a0
  induction a0 with
  | zero => intro a1 a2 a3; exact z_fR.rf
  | succ a0 ih =>
    intro a1 a2 a3
    unfold m_229_14; (try dsimp only)
    repeat (first | with_reducible exact z_fR.rf | with_reducible refine z_fR.ite ?_ ?_ | with_reducible refine z_fR.st ?_ | with_reducible refine z_fR.pt ?_ | with_reducible refine z_fR.tr ?_ (fr_229_54 _ _) | with_reducible refine z_fR.tr ?_ (ih _ _ _))
theorem fr_229 (x1 : Int32) (M : ux_M)  : z_fR M (m_229 x1 M) := by
  unfold m_229; (try dsimp only)
  repeat (first | with_reducible exact z_fR.rf | with_reducible refine z_fR.ite ?_ ?_ | with_reducible refine z_fR.st ?_ | with_reducible refine z_fR.pt ?_ | with_reducible refine z_fR.tr ?_ (fr_229_14 _ _ _ _) | with_reducible refine z_fR.tr ?_ (fr_229_54 _ _))
theorem fr_273_26 (x1 : Int32) (x2 : Int32) (z0 : Int32) (M : ux_M)  : z_fR M (m_273_26 x1 x2 z0 M) := by
  unfold m_273_26; (try dsimp only)
  repeat (first | with_reducible exact z_fR.rf | with_reducible refine z_fR.ite ?_ ?_ | with_reducible refine z_fR.st ?_ | with_reducible refine z_fR.pt ?_)
theorem fr_285_76 (x4 : Int32) (M : ux_M)  : z_fR M (m_285_76 x4 M) := by
  unfold m_285_76; (try dsimp only)
  repeat (first | with_reducible exact z_fR.rf | with_reducible refine z_fR.ite ?_ ?_ | with_reducible refine z_fR.st ?_ | with_reducible refine z_fR.pt ?_ | with_reducible refine z_fR.tr ?_ (fr_173b _))
theorem fr_286_42 (x1 : Int32) (M : ux_M)  : z_fR M (m_286_42 x1 M) := by
  unfold m_286_42; (try dsimp only)
  repeat (first | with_reducible exact z_fR.rf | with_reducible refine z_fR.ite ?_ ?_ | with_reducible refine z_fR.st ?_ | with_reducible refine z_fR.pt ?_ | with_reducible refine z_fR.tr ?_ (fr_173b _))
