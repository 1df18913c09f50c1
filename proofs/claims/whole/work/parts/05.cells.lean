/-! the cells, read and written -/
theorem ux_word {l : Launch} {E : ux_E} {y : ux_Y} {p : Program} {s : State} {m : MethodId} {args : Array Value} {meth : Method} {c : Code} (G : ux_G l E y p s m args meth c) {w : Cond} (h : w ∈ lw_tbl) (g : goodWord w = true) : w.before args s = true := G.2.2.2.2.1 _ (List.mem_cons_of_mem _ (ux_mem_good h g))
theorem ux_c7 {P : Nat → Prop} (h0 : P 0) (h1 : P 1) (h2 : P 2) (h3 : P 3) (h4 : P 4) (h5 : P 5) (h6 : P 6) (c : Nat) (h : c < 7) : P c := by
  match c, h with
  | 0, _ => exact h0
  | 1, _ => exact h1
  | 2, _ => exact h2
  | 3, _ => exact h3
  | 4, _ => exact h4
  | 5, _ => exact h5
  | 6, _ => exact h6
  | n + 7, h => omega
theorem ux_cl_at : ∀ c, c < 7 → ux_cl[c]? = some (ux_rM c, ux_fM c, ux_nf c) := ux_c7 rfl rfl rfl rfl rfl rfl rfl
theorem ux_lays_in : ∀ c, c < 7 → ∀ w ∈ u_ws (ux_rM c) (ux_fM c) (ux_nf c), w ∈ lw_tbl := ux_c7 i_SM i_Reader i_Setup i_World i_Trans i_Jobs i_Model
def ux_ty (c : Nat) : Nat → FieldType := ([t_SM, t_Reader, t_Setup, t_World, t_Trans, t_Jobs, t_Model] : List (Nat → FieldType)).getD c t_SM
theorem ux_ty_ok : ∀ c, c < 7 → ∀ k, k < ux_nf c → parseFieldDescriptor (ux_fM c k).2.2.1 = some (ux_ty c k) := ux_c7 t_SM_ok t_Reader_ok t_Setup_ok t_World_ok t_Trans_ok t_Jobs_ok t_Model_ok
theorem ux_nm_ok : ∀ c, c < 7 → ∀ a, a < ux_nf c → ∀ b, b < ux_nf c → a ≠ b → (ux_fM c a).2.1 ≠ (ux_fM c b).2.1 := ux_c7 n_SM n_Reader n_Setup n_World n_Trans n_Jobs n_Model
theorem ux_lays_good {C : String} {T : u_T} {N : Nat} : ∀ w ∈ u_ws C T N, goodWord w = true := by
  intro w hw
  obtain ⟨k, -, rfl⟩ := List.mem_map.mp hw
  unfold u_lay
  split <;> rfl
theorem ux_lays_ws (y : ux_Y) (c : Nat) (h : c < 7) : ∀ w ∈ u_ws (ux_rM c) (ux_fM c) (ux_nf c), w ∈ ux_ws y := fun w hw => List.mem_cons_of_mem _ (ux_mem_good (ux_lays_in c h w hw) (ux_lays_good w hw))
theorem ux_dom_mem {k s r : Nat} (h : ux_dom k s r = true) : ∃ q ∈ ux_domL, q.1 = s ∧ q.2.1 ≤ k ∧ k < q.2.2.1 ∧ r < q.2.2.2 := by
  unfold ux_dom at h
  obtain ⟨q, h1, h2⟩ := List.any_eq_true.mp h
  simp only [Bool.and_eq_true, beq_iff_eq, decide_eq_true_eq] at h2
  exact ⟨q, h1, h2⟩
theorem ux_fs_dom0 : ∀ q ∈ ux_domL, q.1 % 8 = 5 → ∀ k, k < q.2.2.1 → q.2.1 ≤ k → ∀ f, f < ux_nf (ux_n q.1) → ((ux_fs (ux_n q.1) f).1 = 1 ∨ (ux_fs (ux_n q.1) f).1 = 2) → ux_dom (ux_tg (ux_fs (ux_n q.1) f).2.1 k) (ux_fs (ux_n q.1) f).2.2 0 = true := by decide +kernel
theorem ux_fs_dom {k s r f : Nat} (h : ux_dom k s r = true) (h5 : s % 8 = 5) (hf : f < ux_nf (ux_n s)) (ht : (ux_fs (ux_n s) f).1 = 1 ∨ (ux_fs (ux_n s) f).1 = 2) : ux_dom (ux_tg (ux_fs (ux_n s) f).2.1 k) (ux_fs (ux_n s) f).2.2 0 = true := by
  obtain ⟨q, h1, rfl, h3, h4, -⟩ := ux_dom_mem h
  exact ux_fs_dom0 q h1 h5 k h4 h3 f hf ht
theorem ux_row_dom0 : ∀ q ∈ ux_domL, q.1 % 8 = 4 → ∀ k, k < q.2.2.1 → q.2.1 ≤ k → ∀ j, j < 6 → ux_dom k ux_row j = true := by decide +kernel
theorem ux_row_dom {k s r j : Nat} (h : ux_dom k s r = true) (h4 : s % 8 = 4) (hj : j < 6) : ux_dom k ux_row j = true := by
  obtain ⟨q, h1, rfl, h3, h5, -⟩ := ux_dom_mem h
  exact ux_row_dom0 q h1 h4 k h5 h3 j hj
theorem ux_okR {q : Nat × Nat × Nat} (h : ux_okV (.inr (.inr q))) (h6 : q.2.1 % 8 < 6) : ux_dom q.1 q.2.1 q.2.2 = true := by
  rcases h with h | ⟨-, -, h | h | ⟨j, -, h⟩⟩
  · exact h
  · rw [h] at h6; omega
  · rw [h] at h6; omega
  · rw [h] at h6; unfold ux_wd at h6; omega
theorem ux_set_self (M : ux_M) (k s r i : Nat) (v : Int32) (j : Nat) : ux_set M k s r i v k s r j = if j = i then v else M k s r j := by
  unfold ux_set
  by_cases h : j = i <;> simp [h]
theorem ux_set_other {M : ux_M} {k s r i k' s' r' : Nat} {v : Int32} (h : ¬ (k' = k ∧ s' = s ∧ r' = r)) : ux_set M k s r i v k' s' r' = M k' s' r' := by
  funext j
  unfold ux_set
  rw [if_neg (fun q => h ⟨q.1, q.2.1, q.2.2.1⟩)]
theorem ux_cell_kept {E : ux_E} {M M' : ux_M} {k s r : Nat} {H H' : Heap} (h : ux_cell E M k s r H) (hH : H'[E.1 k s r]? = H[E.1 k s r]?) (hM : M' k s r = M k s r) : ux_cell E M' k s r H' := by
  unfold ux_cell at h ⊢
  rw [hM, hH]
  split
  · rename_i h1; rw [if_pos h1] at h; exact h
  rename_i h1
  rw [if_neg h1] at h
  split
  · rename_i h2; rw [if_pos h2] at h; exact h
  rename_i h2
  rw [if_neg h2] at h
  split
  · rename_i h3; rw [if_pos h3] at h; exact h
  rename_i h3
  rw [if_neg h3] at h
  split
  · rename_i h4; rw [if_pos h4] at h; exact h
  rename_i h4
  rw [if_neg h4] at h
  refine (h.kept hH).to (fun f _ => ?_)
  unfold ux_fv
  rw [hM]
theorem ux_Rep_upd {E : ux_E} {M M' : ux_M} {k s r : Nat} {H H' : Heap} (hi : ux_inj E) (hd : ux_dom k s r = true) (h : ux_Rep E M H) (hH : ∀ q, q ≠ E.1 k s r → H'[q]? = H[q]?) (hM : ∀ k' s' r', ¬ (k' = k ∧ s' = s ∧ r' = r) → M' k' s' r' = M k' s' r') (hc : ux_cell E M' k s r H') : ux_Rep E M' H' := by
  intro k' s' r' hd'
  by_cases e : k' = k ∧ s' = s ∧ r' = r
  · obtain ⟨rfl, rfl, rfl⟩ := e
    exact hc
  · exact ux_cell_kept (h k' s' r' hd') (hH _ (fun z => e (hi _ _ _ _ _ _ hd' hd z))) (hM _ _ _ e)
theorem ux_cell1 {E : ux_E} {M : ux_M} {k s r : Nat} {H : Heap} (h : s % 8 = 1) : ux_cell E M k s r H ↔ H[E.1 k s r]? = some (arrV (E.2.2.1 1) (ux_n s) (fun j => .int (M k s r j))) := by
  unfold ux_cell
  rw [if_pos h]
theorem ux_cell2 {E : ux_E} {M : ux_M} {k s r : Nat} {H : Heap} (h : s % 8 = 2) : ux_cell E M k s r H ↔ H[E.1 k s r]? = some (arrV (E.2.2.1 2) (ux_n s) (fun j => .int (M k s r j))) := by
  unfold ux_cell
  rw [if_neg (by omega), if_pos h]
theorem ux_cell3 {E : ux_E} {M : ux_M} {k s r : Nat} {H : Heap} (h : s % 8 = 3) : ux_cell E M k s r H ↔ H[E.1 k s r]? = some (arrV (E.2.2.1 3) (ux_n s) (fun j => .long (ux_j2 (M k s r (2 * j)) (M k s r (2 * j + 1))))) := by
  unfold ux_cell
  rw [if_neg (by omega), if_neg (by omega), if_pos h]
theorem ux_j2_lh (x : Int64) : ux_j2 (ux_lo x) (ux_hi x) = x := by
  apply Int64.toBitVec_inj.mp
  show (x.toBitVec.extractLsb' 32 32 ++ x.toBitVec.extractLsb' 0 32 : BitVec 64) = x.toBitVec
  ext i hi
  rw [BitVec.getElem_append]
  split
  · simp only [BitVec.getElem_extractLsb', Nat.zero_add]
    exact BitVec.getLsbD_eq_getElem (by omega)
  · rename_i h
    simp only [BitVec.getElem_extractLsb']
    rw [BitVec.getLsbD_eq_getElem (by omega)]
    congr 1
    omega
theorem ux_cell4 {E : ux_E} {M : ux_M} {k s r : Nat} {H : Heap} (h : s % 8 = 4) : ux_cell E M k s r H ↔ H[E.1 k s r]? = some (arrV (E.2.2.1 4) (ux_n s) (fun j => .ref (E.1 k ux_row j))) := by
  unfold ux_cell
  rw [if_neg (by omega), if_neg (by omega), if_neg (by omega), if_pos h]
theorem ux_cell5 {E : ux_E} {M : ux_M} {k s r : Nat} {H : Heap} (h : s % 8 = 5) : ux_cell E M k s r H ↔ t_OB (E.1 k s r) (E.2.1.1 (ux_n s)) (ux_nf (ux_n s)) (E.2.1.2 (ux_n s)) H (fun f => ux_fv E k s r (ux_n s) f M) := by
  unfold ux_cell
  rw [if_neg (by omega), if_neg (by omega), if_neg (by omega), if_neg (by omega)]
theorem ux_vs_put {E : ux_E} {H0 H H' : Heap} {locs : List Loc} {k s r i : Nat} (h : va_S (ux_A E) H0 H locs) (z : H'.size = H.size) (o : ∀ q, q ≠ E.1 k s r → H'[q]? = H[q]?) (hd : ux_dom k s r = true) : va_S (ux_A E) H0 H' (locs ++ [⟨E.1 k s r, i⟩]) := h.put z o ⟨k, s, r, hd, rfl⟩
section UXW
variable {l : Launch} {E : ux_E} {d : Nat} {y : ux_Y} {p : Program} {e : Env} {s : State} {m : MethodId} {args : Array Value} {below : List Frame} {meth : Method} {c : Code} {H : Heap} {locs : List Loc} {Qf : State → Prop} {pc : Nat} {ls : Array Slot} {rest : List Value} {M : ux_M} {R : Room}
theorem ux_getf (G : ux_G l E y p s m args meth c) (hRep : ux_Rep E M H) {q : Nat × Nat × Nat} (hd : ux_dom q.1 q.2.1 q.2.2 = true) (h5 : q.2.1 % 8 = 5) {ci f b i pp : Nat} (hn : ux_n q.2.1 = ci) (hci : ci < 7) (hf : f < ux_nf ci) (hp : lw_tbl[pp]? = some (ux_wf b y.1.cls i (ux_fM ci f))) (hdg : decode y.2.1 pc = .ok (.getfield i, 3))
    (kk : W p l e R s m args below meth c H locs 0 0 Qf (F0 m (pc + 3) ls (ux_fv E q.1 q.2.1 q.2.2 ci f M :: rest))) : W p l e R s m args below meth c H locs 0 0 Qf (F0 m pc ls (.ref (E.1 q.1 q.2.1 q.2.2) :: rest)) := by
  obtain ⟨hx, hb, -, hown, hts, hK, -, -⟩ := G
  obtain ⟨cell, q1, q2, q3, q4⟩ := (ux_cell5 h5).mp (hRep _ _ _ hd)
  rw [hn] at q2 q4
  obtain ⟨hS, hfc, kC, hkC, hkind⟩ := hK.2.2.1.1 ci _ (ux_cl_at ci hci)
  obtain ⟨cf, kf, fi, fd, hi, hsl⟩ := hS f hf
  have hst := (u_facts hfc hkC (u_lays hts (ux_lays_ws y ci hci) hf) hi).1
  by_cases hb0 : b = 0
  · have hlink : (Cond.fieldLink y.1.cls i (ux_fM ci f).1 (ux_fM ci f).2.1 (ux_fM ci f).2.2.1).before args s = true := by
      refine hts _ (List.mem_cons_of_mem _ (ux_mem_good (ux_at (p := pp) ?_) rfl))
      rw [hp]; unfold ux_wf; rw [if_pos hb0]
    refine W.getf hx hb hown hlink hi hst q1 (by rw [q3]; exact fun h => by cases h) (v := ux_fv E q.1 q.2.1 q.2.2 ci f M) ?_ rfl rfl hdg kk
    rw [hsl, q4 f hf]
  · have hlink : (Cond.fieldLinkNest y.1.cls i (ux_fM ci f).1 (ux_fM ci f).2.1 (ux_fM ci f).2.2.1 "ServiceManager").before args s = true := by
      refine va_Nw.use rfl (hK.2.2.2.1 _ (ux_at (p := pp) ?_) rfl)
      rw [hp]; unfold ux_wf; rw [if_neg hb0]
    refine va_Wgetf hx hb hown hlink hi hst q1 (by rw [q3]; exact fun h => by cases h) (v := ux_fv E q.1 q.2.1 q.2.2 ci f M) ?_ rfl rfl hdg kk
    rw [hsl, q4 f hf]
theorem ux_putf (G : ux_G l E y p s m args meth c) (hRep : ux_Rep E M H) (hVS : va_S (ux_A E) s.heap H locs) {q : Nat × Nat × Nat} (hd : ux_dom q.1 q.2.1 q.2.2 = true) (h5 : q.2.1 % 8 = 5) {ci f b i pp : Nat} (hn : ux_n q.2.1 = ci) (hci : ci < 7) (hf : f < ux_nf ci) (hp : lw_tbl[pp]? = some (ux_wf b y.1.cls i (ux_fM ci f))) (hfin : (ux_fM ci f).2.2.2 = false) {ty : FieldType} {v : Value} {M' : ux_M} (hty : parseFieldDescriptor (ux_fM ci f).2.2.1 = some ty) (hnar : narrow ty v = v) (hfit : fits ty v = true)
    (hM : ∀ k' s' r', ¬ (k' = q.1 ∧ s' = q.2.1 ∧ r' = q.2.2) → M' k' s' r' = M k' s' r') (hv : ux_fv E q.1 q.2.1 q.2.2 ci f M' = v) (ho : ∀ j, j ≠ f → M' q.1 q.2.1 q.2.2 j = M q.1 q.2.1 q.2.2 j) (hdg : decode y.2.1 pc = .ok (.putfield i, 3))
    (kk : ∀ (H1 : Heap) (locs1 : List Loc), ux_Rep E M' H1 → va_S (ux_A E) s.heap H1 locs1 → W p l e R s m args below meth c H1 locs1 0 0 Qf (F0 m (pc + 3) ls rest)) : W p l e R s m args below meth c H locs 0 0 Qf (F0 m pc ls (v :: .ref (E.1 q.1 q.2.1 q.2.2) :: rest)) := by
  obtain ⟨hx, hb, -, hown, hts, hK, -, -⟩ := G
  obtain ⟨cell, q1, q2, q3, q4⟩ := (ux_cell5 h5).mp (hRep _ _ _ hd)
  rw [hn] at q2 q4
  have hcl := ux_cl_at ci hci
  have hap := va_apart (own := y.1.cls) hts (ux_lays_ws y ci hci) (ux_ty ci) (ux_ty_ok ci hci) (ux_nm_ok ci hci) hK.2.2.1 hcl
  obtain ⟨hS, hfc, kC, hkC, hkind⟩ := hK.2.2.1.1 ci _ hcl
  obtain ⟨cf, kf, fi, fd, hi, hsl⟩ := hS f hf
  have hlay := hts _ (ux_lays_ws y ci hci _ (u_in_lay hf))
  unfold u_lay at hlay
  rw [if_neg (by rw [hfin]; decide)] at hlay
  have hst := (u_facts hfc hkC (u_lays hts (ux_lays_ws y ci hci) hf) hi).1
  have h6 := u_store hfc hkC hkind hlay hi hty hnar hfit
  have fin : ∀ H' : Heap, H'[E.1 q.1 q.2.1 q.2.2]? = some (cell.setSlot fd.slot v) → (∀ z, z ≠ E.1 q.1 q.2.1 q.2.2 → H'[z]? = H[z]?) → ux_Rep E M' H' := by
    intro H' e1 e3
    refine ux_Rep_upd hK.1 hd hRep e3 hM ((ux_cell5 h5).mpr ?_)
    rw [hn]
    rw [hsl] at e1
    refine t_OB.to (V := updV (fun f => ux_fv E q.1 q.2.1 q.2.2 ci f M) f v) ⟨_, e1, q2, q3, t_set q4 hap hf v⟩ (fun j _ => ?_)
    unfold updV
    split
    · rename_i hj; rw [hj]; exact hv.symm
    · rename_i hj; unfold ux_fv; rw [ho j hj]
  by_cases hb0 : b = 0
  · have hlink : (Cond.fieldLink y.1.cls i (ux_fM ci f).1 (ux_fM ci f).2.1 (ux_fM ci f).2.2.1).before args s = true := by
      refine hts _ (List.mem_cons_of_mem _ (ux_mem_good (ux_at (p := pp) ?_) rfl))
      rw [hp]; unfold ux_wf; rw [if_pos hb0]
    refine W.putK hx hb (f := fd) ⟨hown, hlink, ⟨_, _, _, hi⟩, hst⟩ (by rw [q2]; exact h6) q1 q3 (by rw [hsl]; exact k2_hasslot (q4 f hf)) rfl rfl hdg fun H' e1 e2 e3 => ?_
    exact kk H' _ (fin H' e1 e3) (ux_vs_put hVS e2 e3 hd)
  · have hlink : (Cond.fieldLinkNest y.1.cls i (ux_fM ci f).1 (ux_fM ci f).2.1 (ux_fM ci f).2.2.1 "ServiceManager").before args s = true := by
      refine va_Nw.use rfl (hK.2.2.2.1 _ (ux_at (p := pp) ?_) rfl)
      rw [hp]; unfold ux_wf; rw [if_neg hb0]
    refine va_WputK hx hb (f := fd) hown hlink hi hst (by rw [q2]; exact h6) q1 q3 (by rw [hsl]; exact k2_hasslot (q4 f hf)) rfl rfl hdg fun H' e1 e2 e3 => ?_
    exact kk H' _ (fin H' e1 e3) (ux_vs_put hVS e2 e3 hd)
/-- behind a call -/
theorem ux_after {Q : Option ux_V → ux_M → Prop} {a : Array Value} {st0 : List Value} (hr : va_Run p l e R s m args below meth c H locs 0 0 0 0 (F0 m pc ls st0) rest (ux_post E Q a) (ux_A E)) (hS : va_S (ux_A E) s.heap H locs)
    (kk : ∀ (r : Option ux_V) (M' : ux_M) (H1 : Heap) (locs1 : List Loc), (∀ v, r = some v → ux_okV v) → Q r M' → ux_Rep E M' H1 → va_S (ux_A E) s.heap H1 locs1 → W p l e R s m args below meth c H1 locs1 0 0 Qf (F0 m (pc + 3) ls ((r.map (ux_rho E)).toList ++ rest))) : W p l e R s m args below meth c H locs 0 0 Qf (F0 m pc ls st0) := by
  intro T hT X
  obtain ⟨v, st₀, t, T', L, h0, X', hL, e1, e2, ⟨⟨r, M', hv, hok, hq, hrep⟩, hz, hk⟩, st⟩ := hr T hT X
  cases hv
  rw [h0] at hz hk
  obtain ⟨t2, a1, b1⟩ := kk r M' T'.heap (locs ++ L) hok hq (by rw [e1]; exact hrep)
    ⟨Nat.le_trans hS.1 (by rw [e1]; exact hz), fun q h1 h2 => by rw [e1, hk q (Nat.lt_of_lt_of_le h1 hS.1) h2]; exact hS.2.1 q h1 h2, fun q hq => by
      rcases List.mem_append.mp hq with h | h
      · exact hS.2.2 q h
      · exact hL q h⟩ T' rfl X'
  exact ⟨t2, st t2 a1, b1⟩
end UXW
theorem ux_nest_tab {w : Cond} (h : ux_isNest w = true) : w.onTables = true := by
  cases w <;> first | (simp [ux_isNest] at h; done) | rfl
theorem ux_nest_warm {w : Cond} (h : ux_isNest w = true) {s U : State} (hW : s.WarmedH U.vm) (hZ : va_Nw w s) : va_Nw w U := by
  cases w <;> first | (simp [ux_isNest] at h; done) | exact va_Nw.warmF hW hZ | exact va_Nw.warmM hW hZ
theorem ux_K_warm {E : ux_E} {s U : State} {H : Heap} {locs : List Loc} (h : ux_K E s s.heap) (hW : s.WarmedH U.vm) (hS : va_S (ux_A E) s.heap H locs) (hU : U.heap = H) : ux_K E U U.heap := by
  obtain ⟨h1, h2, h3, h4, h5⟩ := h
  refine ⟨h1, h2, va_K.moved hW.alike h3, fun w hw hn => ux_nest_warm hn hW (h4 w hw hn), ?_⟩
  rw [hU]
  exact h2.1 s U s.heap H hW hS.2.1 h5
theorem ux_blind (E : ux_E) (av : List Value) (M : ux_M) : FrameBlind (va_Pc av (fun U => ux_Rep E M U.heap ∧ ux_K E U U.heap)) := by
  intro a U g mk h
  obtain ⟨h0, h1, h2, h3, h4, h5, h6⟩ := h
  exact ⟨h0, h1, h2, h3, va_K.moved (u := U) (U := U.calling g mk a) (Vm.Alike.refl U.vm) h4, fun w hw hn => va_Nw.same (ux_nest_tab hn) (rfl : U.vm = (U.calling g mk a).vm) (h5 w hw hn), h3.2 U (U.calling g mk a) U.heap rfl h6⟩
theorem ux_wt_cat (E : ux_E) (l : List ux_V) : ((l.map (ux_rho E)).map fun v => v.category).sum = ux_wt l := by
  induction l with
  | nil => rfl
  | cons a l ih =>
    rcases a with x | x | q
    · exact congrArg (1 + ·) ih
    · exact congrArg (2 + ·) ih
    · exact congrArg (1 + ·) ih
