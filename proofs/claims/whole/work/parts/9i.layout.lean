/-! THE LAW, 4: where the first memory lies (by wip/whole/gen9i.py) -/
abbrev fl_C : Type := (Nat × Nat) ⊕ (Nat ⊕ (Nat × List (Option Nat)))
def fl_va (b0 : Nat) : Option Nat → Value
  | none => .int 0
  | some x => .ref (b0 + x)
def fl_sh (b0 : Nat) : fl_C → ug_C
  | .inl a => .inl (a.1, a.2, fun _ => .int 0)
  | .inr (.inl o) => .inl (4, 6, fun j => .ref (b0 + o + j))
  | .inr (.inr q) => .inr (q.1, q.2.map (fl_va b0))
def fl_rSM : List fl_C := [.inl (1, 800), .inr (.inr (1, [some 3, some 21, none, none, none, none, none, none])), .inr (.inr (2, [none, some 4, some 5, some 6, some 7, some 8, some 9, some 10, some 17, some 18, some 19, some 20])), .inl (1, 16), .inl (1, 16), .inl (1, 128), .inl (1, 160), .inl (1, 16), .inl (1, 16), .inr (.inl 11), .inl (1, 16), .inl (1, 16), .inl (1, 16), .inl (1, 16), .inl (1, 16), .inl (1, 16), .inl (1, 16), .inl (1, 16), .inl (1, 16), .inl (1, 16), .inl (1, 0), .inr (.inr (3, [some 23, some 41, some 45, none, none, some 47, some 48, some 49, some 50, some 51, some 52, some 53, some 54, some 55, some 56, some 57, some 58, some 59, none])), .inr (.inr (2, [none, some 24, some 25, some 26, some 27, some 28, some 29, some 30, some 37, some 38, some 39, some 40])), .inl (1, 16), .inl (1, 16), .inl (1, 128), .inl (1, 160), .inl (1, 16), .inl (1, 16), .inr (.inl 31), .inl (1, 16), .inl (1, 16), .inl (1, 16), .inl (1, 16), .inl (1, 16), .inl (1, 16), .inl (1, 16), .inl (1, 16), .inl (1, 16), .inl (1, 16), .inr (.inr (4, [none, none, none, none, none, none, none, some 42, some 43, some 44])), .inl (1, 16), .inl (1, 16), .inl (1, 16), .inr (.inr (5, [none, none, none, none, some 46])), .inl (1, 16), .inl (1, 16), .inl (1, 16), .inl (1, 16), .inl (1, 16), .inl (1, 16), .inl (1, 16), .inl (1, 144), .inl (1, 16), .inl (1, 16), .inl (1, 16), .inl (1, 16), .inl (1, 16), .inl (1, 180), .inr (.inr (3, [some 61, some 79, some 83, none, none, some 85, some 86, some 87, some 88, some 89, some 90, some 91, some 92, some 93, some 94, some 95, some 96, some 97, none])), .inr (.inr (2, [none, some 62, some 63, some 64, some 65, some 66, some 67, some 68, some 75, some 76, some 77, some 78])), .inl (1, 16), .inl (1, 16), .inl (1, 128), .inl (1, 160), .inl (1, 16), .inl (1, 16), .inr (.inl 69), .inl (1, 16), .inl (1, 16), .inl (1, 16), .inl (1, 16), .inl (1, 16), .inl (1, 16), .inl (1, 16), .inl (1, 16), .inl (1, 16), .inl (1, 16), .inr (.inr (4, [none, none, none, none, none, none, none, some 80, some 81, some 82])), .inl (1, 16), .inl (1, 16), .inl (1, 16), .inr (.inr (5, [none, none, none, none, some 84])), .inl (1, 16), .inl (1, 16), .inl (1, 16), .inl (1, 16), .inl (1, 16), .inl (1, 16), .inl (1, 16), .inl (1, 144), .inl (1, 16), .inl (1, 16), .inl (1, 16), .inl (1, 16), .inl (1, 16), .inl (1, 180), .inr (.inr (3, [some 99, some 117, some 121, none, none, some 123, some 124, some 125, some 126, some 127, some 128, some 129, some 130, some 131, some 132, some 133, some 134, some 135, none])), .inr (.inr (2, [none, some 100, some 101, some 102, some 103, some 104, some 105, some 106, some 113, some 114, some 115, some 116])), .inl (1, 16), .inl (1, 16), .inl (1, 128), .inl (1, 160), .inl (1, 16), .inl (1, 16), .inr (.inl 107), .inl (1, 16), .inl (1, 16), .inl (1, 16), .inl (1, 16), .inl (1, 16), .inl (1, 16), .inl (1, 16), .inl (1, 16), .inl (1, 16), .inl (1, 16), .inr (.inr (4, [none, none, none, none, none, none, none, some 118, some 119, some 120])), .inl (1, 16), .inl (1, 16), .inl (1, 16), .inr (.inr (5, [none, none, none, none, some 122])), .inl (1, 16), .inl (1, 16), .inl (1, 16), .inl (1, 16), .inl (1, 16), .inl (1, 16), .inl (1, 16), .inl (1, 144), .inl (1, 16), .inl (1, 16), .inl (1, 16), .inl (1, 16), .inl (1, 16), .inl (1, 180), .inr (.inr (3, [some 137, some 155, some 159, none, none, some 161, some 162, some 163, some 164, some 165, some 166, some 167, some 168, some 169, some 170, some 171, some 172, some 173, none])), .inr (.inr (2, [none, some 138, some 139, some 140, some 141, some 142, some 143, some 144, some 151, some 152, some 153, some 154])), .inl (1, 16), .inl (1, 16), .inl (1, 128), .inl (1, 160), .inl (1, 16), .inl (1, 16), .inr (.inl 145), .inl (1, 16), .inl (1, 16), .inl (1, 16), .inl (1, 16), .inl (1, 16), .inl (1, 16), .inl (1, 16), .inl (1, 16), .inl (1, 16), .inl (1, 16), .inr (.inr (4, [none, none, none, none, none, none, none, some 156, some 157, some 158])), .inl (1, 16), .inl (1, 16), .inl (1, 16), .inr (.inr (5, [none, none, none, none, some 160])), .inl (1, 16), .inl (1, 16), .inl (1, 16), .inl (1, 16), .inl (1, 16), .inl (1, 16), .inl (1, 16), .inl (1, 144), .inl (1, 16), .inl (1, 16), .inl (1, 16), .inl (1, 16), .inl (1, 16), .inl (1, 180)]
def fl_rMo : List fl_C := [.inl (1, 1084), .inl (1, 1084), .inl (1, 1084), .inl (1, 1084), .inl (1, 1084), .inl (2, 2), .inl (1, 800), .inl (1, 4), .inl (1, 4), .inl (1, 4), .inl (1, 16), .inl (1, 16)]
def fl_oSM : List (Option Nat) := [some 1, none, none, some 2, some 22, some 60, some 98, some 136, none, none]
def fl_oMo : List (Option Nat) := [some 175, some 176, some 177, some 178, some 179, some 180, none, some 181, none, none, none, none, none, none, none, some 182, some 183, some 184, none, none, some 185, some 186]
def fl_rel : List fl_C := .inr (.inr (0, fl_oSM)) :: (fl_rSM ++ (.inr (.inr (6, fl_oMo)) :: fl_rMo))
def fl_inv : List (Nat × Nat × Nat) := [(4, 655365, 0), (4, 694529, 0), (4, 671757, 0), (4, 344085, 0), (4, 360577, 0), (4, 376961, 0), (4, 394241, 0), (4, 410881, 0), (4, 426113, 0), (4, 442497, 0), (4, 458804, 0), (4, 475265, 0), (4, 475265, 1), (4, 475265, 2), (4, 475265, 3), (4, 475265, 4), (4, 475265, 5), (4, 491649, 0), (4, 508033, 0), (4, 524417, 0), (4, 540801, 0), (4, 704513, 0), (0, 16413, 0), (0, 344085, 0), (0, 360577, 0), (0, 376961, 0), (0, 394241, 0), (0, 410881, 0), (0, 426113, 0), (0, 442497, 0), (0, 458804, 0), (0, 475265, 0), (0, 475265, 1), (0, 475265, 2), (0, 475265, 3), (0, 475265, 4), (0, 475265, 5), (0, 491649, 0), (0, 508033, 0), (0, 524417, 0), (0, 540801, 0), (0, 32805, 0), (0, 278657, 0), (0, 295041, 0), (0, 311425, 0), (0, 49197, 0), (0, 327809, 0), (0, 65665, 0), (0, 82049, 0), (0, 98433, 0), (0, 114817, 0), (0, 131201, 0), (0, 147585, 0), (0, 164993, 0), (0, 180353, 0), (0, 196737, 0), (0, 213121, 0), (0, 229505, 0), (0, 245889, 0), (0, 263585, 0), (1, 16413, 0), (1, 344085, 0), (1, 360577, 0), (1, 376961, 0), (1, 394241, 0), (1, 410881, 0), (1, 426113, 0), (1, 442497, 0), (1, 458804, 0), (1, 475265, 0), (1, 475265, 1), (1, 475265, 2), (1, 475265, 3), (1, 475265, 4), (1, 475265, 5), (1, 491649, 0), (1, 508033, 0), (1, 524417, 0), (1, 540801, 0), (1, 32805, 0), (1, 278657, 0), (1, 295041, 0), (1, 311425, 0), (1, 49197, 0), (1, 327809, 0), (1, 65665, 0), (1, 82049, 0), (1, 98433, 0), (1, 114817, 0), (1, 131201, 0), (1, 147585, 0), (1, 164993, 0), (1, 180353, 0), (1, 196737, 0), (1, 213121, 0), (1, 229505, 0), (1, 245889, 0), (1, 263585, 0), (2, 16413, 0), (2, 344085, 0), (2, 360577, 0), (2, 376961, 0), (2, 394241, 0), (2, 410881, 0), (2, 426113, 0), (2, 442497, 0), (2, 458804, 0), (2, 475265, 0), (2, 475265, 1), (2, 475265, 2), (2, 475265, 3), (2, 475265, 4), (2, 475265, 5), (2, 491649, 0), (2, 508033, 0), (2, 524417, 0), (2, 540801, 0), (2, 32805, 0), (2, 278657, 0), (2, 295041, 0), (2, 311425, 0), (2, 49197, 0), (2, 327809, 0), (2, 65665, 0), (2, 82049, 0), (2, 98433, 0), (2, 114817, 0), (2, 131201, 0), (2, 147585, 0), (2, 164993, 0), (2, 180353, 0), (2, 196737, 0), (2, 213121, 0), (2, 229505, 0), (2, 245889, 0), (2, 263585, 0), (3, 16413, 0), (3, 344085, 0), (3, 360577, 0), (3, 376961, 0), (3, 394241, 0), (3, 410881, 0), (3, 426113, 0), (3, 442497, 0), (3, 458804, 0), (3, 475265, 0), (3, 475265, 1), (3, 475265, 2), (3, 475265, 3), (3, 475265, 4), (3, 475265, 5), (3, 491649, 0), (3, 508033, 0), (3, 524417, 0), (3, 540801, 0), (3, 32805, 0), (3, 278657, 0), (3, 295041, 0), (3, 311425, 0), (3, 49197, 0), (3, 327809, 0), (3, 65665, 0), (3, 82049, 0), (3, 98433, 0), (3, 114817, 0), (3, 131201, 0), (3, 147585, 0), (3, 164993, 0), (3, 180353, 0), (3, 196737, 0), (3, 213121, 0), (3, 229505, 0), (3, 245889, 0), (3, 263585, 0), (5, 819253, 0), (5, 844257, 0), (5, 860641, 0), (5, 877025, 0), (5, 893409, 0), (5, 909793, 0), (5, 917522, 0), (5, 940289, 0), (5, 950305, 0), (5, 966689, 0), (5, 983073, 0), (5, 999553, 0), (5, 1015937, 0)]
def fl_off (k s r : Nat) : Nat := fl_inv.findIdx (fun q => q.2.1 == s && (q.1 == k && q.2.2 == r))
set_option maxRecDepth 20000 in
theorem fl_eSM (b0 : Nat) : ug_LSM (b0 + 1) = fl_rSM.map (fl_sh b0) := by
  unfold ug_LSM ug_LReader ug_LWorld ug_LSetup ug_LTrans ug_LJobs ug_fReader ug_fWorld ug_fSetup ug_fTrans ug_fJobs fl_rSM
  simp only [List.cons_append, List.nil_append, List.append_assoc, List.map_cons, List.map_nil, fl_sh, fl_va, Nat.add_assoc, Nat.reduceAdd]
set_option maxRecDepth 20000 in
theorem fl_eMo (b0 : Nat) : ug_LModel (b0 + 175) = fl_rMo.map (fl_sh b0) := by
  unfold ug_LModel fl_rMo
  simp only [List.cons_append, List.nil_append, List.append_assoc, List.map_cons, List.map_nil, fl_sh, fl_va, Nat.add_assoc, Nat.reduceAdd]
theorem fl_fSM (b0 : Nat) : ug_fSM (b0 + 1) = fl_oSM.map (fl_va b0) := rfl
theorem fl_fMo (b0 : Nat) : ug_fModel (b0 + 175) = fl_oMo.map (fl_va b0) := rfl
theorem fl_mem0 : ∀ q ∈ ux_domL, ∀ k, k < q.2.2.1 → q.2.1 ≤ k → ∀ r, r < q.2.2.2 → fl_inv.contains (k, q.1, r) = true := by decide +kernel
theorem fl_mem {k s r : Nat} (h : ux_dom k s r = true) : (k, s, r) ∈ fl_inv := by
  obtain ⟨q, h1, rfl, h2, h3, h4⟩ := ux_dom_mem h
  exact List.contains_iff_mem.mp (fl_mem0 q h1 k h3 h2 r h4)
theorem fl_lk0 : ∀ q ∈ fl_inv, fl_inv[fl_off q.1 q.2.1 q.2.2]? = some q := by decide +kernel
theorem fl_lk {k s r : Nat} (h : ux_dom k s r = true) : fl_inv[fl_off k s r]? = some (k, s, r) := fl_lk0 _ (fl_mem h)
theorem fl_lt {k s r : Nat} (h : ux_dom k s r = true) : fl_off k s r < 187 := (List.getElem?_eq_some_iff.mp (fl_lk h)).1
theorem fl_inj {k s r k' s' r' : Nat} (h : ux_dom k s r = true) (h' : ux_dom k' s' r' = true) (e : fl_off k s r = fl_off k' s' r') : k = k' ∧ s = s' ∧ r = r' := by
  have a := fl_lk h
  rw [e, fl_lk h'] at a
  cases a
  exact ⟨rfl, rfl, rfl⟩
def fl_okf (k ci f : Nat) (x : Option Nat) : Bool := match x with
  | none => decide (¬ (ux_fs ci f).1 = 1 ∧ ¬ (ux_fs ci f).1 = 2)
  | some o => decide (((ux_fs ci f).1 = 1 ∧ fl_off (ux_tg (ux_fs ci f).2.1 k) (ux_fs ci f).2.2 0 = o) ∨ ((ux_fs ci f).1 = 2 ∧ fl_off 4 ux_empty 0 = o))
def fl_okc (k s : Nat) (x : fl_C) : Bool := match x with
  | .inl a => decide ((a.1 = 1 ∨ a.1 = 2) ∧ s % 8 = a.1 ∧ ux_n s = a.2)
  | .inr (.inl o) => decide (s % 8 = 4 ∧ ux_n s = 6 ∧ (List.range 6).all (fun j => fl_off k ux_row j == o + j) = true)
  | .inr (.inr q) => decide (s % 8 = 5 ∧ ux_n s = q.1 ∧ q.2.length = ux_nf q.1 ∧ ∀ f, f < ux_nf q.1 → fl_okf k q.1 f (q.2.getD f none) = true)
theorem fl_ck0 : ∀ q ∈ fl_inv, (match fl_rel[fl_off q.1 q.2.1 q.2.2]? with | some x => fl_okc q.1 q.2.1 x | none => false) = true := by decide +kernel
theorem fl_ck {k s r : Nat} (h : ux_dom k s r = true) : ∃ x, fl_rel[fl_off k s r]? = some x ∧ fl_okc k s x = true := by
  have := fl_ck0 _ (fl_mem h)
  dsimp only at this
  split at this
  · rename_i x hx
    exact ⟨x, hx, this⟩
  · cases this
theorem fl_e4 : ux_dom 4 ux_empty 0 = true := by decide +kernel
theorem fl_tg {k s r f : Nat} (h : ux_dom k s r = true) (h5 : s % 8 = 5) (hf : f < ux_nf (ux_n s)) (h1 : (ux_fs (ux_n s) f).1 = 1) : ux_dom (ux_tg (ux_fs (ux_n s) f).2.1 k) (ux_fs (ux_n s) f).2.2 0 = true := ux_fs_dom h h5 hf (.inl h1)
theorem fl_map (b0 f : Nat) (L : List (Option Nat)) (h : f < L.length) : vp_V (L.map (fl_va b0)) f = fl_va b0 (L.getD f none) := by
  unfold vp_V
  rw [List.getD_eq_getElem?_getD, List.getD_eq_getElem?_getD, List.getElem?_map, List.getElem?_eq_getElem h]
  rfl
/-- THE FIRST MEMORY: all is 0 -/
theorem fl_rep {E : ux_E} {b0 : Nat} {H : Heap} (hE : ∀ k s r, ux_dom k s r = true → E.1 k s r = b0 + fl_off k s r) (h : ∀ i x, fl_rel[i]? = some x → ug_at E.2.1 E.2.2.1 (b0 + i) (fl_sh b0 x) H) : ux_Rep E (fun _ _ _ _ => 0) H := by
  intro k s r hd
  obtain ⟨x, hx, hc⟩ := fl_ck hd
  have ha := h _ _ hx
  rw [← hE k s r hd] at ha
  unfold ux_cell
  rcases x with a | o | q
  · obtain ⟨h1, h2, h3⟩ := of_decide_eq_true (show decide _ = true from hc)
    rcases h1 with h1 | h1
    · rw [if_pos (by omega), h3]
      have ha : H[E.1 k s r]? = some (arrV (E.2.2.1 a.1) a.2 (fun _ => .int 0)) := ha
      rw [h1] at ha
      exact ha
    · rw [if_neg (by omega), if_pos (by omega), h3]
      have ha : H[E.1 k s r]? = some (arrV (E.2.2.1 a.1) a.2 (fun _ => .int 0)) := ha
      rw [h1] at ha
      exact ha
  · obtain ⟨h1, h2, h3⟩ := of_decide_eq_true (show decide _ = true from hc)
    rw [if_neg (by omega), if_neg (by omega), if_neg (by omega), if_pos h1]
    have ha : H[E.1 k s r]? = some (arrV (E.2.2.1 4) 6 (fun j => .ref (b0 + o + j))) := ha
    rw [ha, h2]
    congr 1
    unfold arrV
    congr 1
    congr 1
    funext j
    have hj : j.val < 6 := j.isLt
    obtain ⟨q, g1, rfl, g2, g3, -⟩ := ux_dom_mem hd
    show Value.ref (b0 + o + j.val) = Value.ref (E.1 k ux_row j.val)
    rw [hE k ux_row j.val (ux_row_dom0 q g1 h1 k g3 g2 j.val hj), beq_iff_eq.mp (List.all_eq_true.mp h3 j.val (List.mem_range.mpr hj)), Nat.add_assoc]
  · obtain ⟨h1, h2, h4, h3⟩ := of_decide_eq_true (show decide _ = true from hc)
    rw [if_neg (by omega), if_neg (by omega), if_neg (by omega), if_neg (by omega)]
    have ha : t_OB (E.1 k s r) (E.2.1.1 q.1) (ux_nf q.1) (E.2.1.2 q.1) H (vp_V (q.2.map (fl_va b0))) := ha
    rw [← h2] at ha h3 h4
    refine ha.to (fun f hf => ?_)
    have hk := h3 f hf
    rw [fl_map b0 f q.2 (by omega)]
    unfold ux_fv
    cases hx2 : q.2.getD f none with
    | none =>
      rw [hx2] at hk
      obtain ⟨k1, k2⟩ := of_decide_eq_true (show decide _ = true from hk)
      rw [if_neg k1, if_neg k2]
      rfl
    | some o =>
      rw [hx2] at hk
      rcases of_decide_eq_true (show decide _ = true from hk) with ⟨k1, k2⟩ | ⟨k1, k2⟩
      · rw [if_pos k1, hE _ _ _ (fl_tg hd h1 hf k1), k2]
        rfl
      · rw [if_neg (by omega), if_pos k1, if_neg (show ¬ (0 : Int32) = 1 by decide), hE _ _ _ fl_e4, k2]
        rfl
