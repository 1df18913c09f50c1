/-! the further members, 3: what is read only, and all the members -/
def uy_len (j : Nat) : Nat := (ux_words.getD j []).length
def uy_let (j i : Nat) : Nat := (ux_words.getD j []).getD i 0
theorem uy_wl : ∀ j, j < 22 → uy_len j < 2000 ∧ ∀ i, i < uy_len j → uy_let j i < 128 := by decide +kernel
theorem uy_wdn {j : Nat} (hj : j < 22) : ux_n (ux_wd j) = uy_len j ∧ ux_wd j % 8 = 7 ∧ ux_wd j / 16384 - 100 = j := by
  have := (uy_wl j hj).1
  have e : ux_wd j = 7 + 8 * (uy_len j + 2048 * (100 + j)) := rfl
  rw [e]
  refine ⟨?_, by omega, by omega⟩
  show (7 + 8 * (uy_len j + 2048 * (100 + j))) / 8 % 2048 = uy_len j
  omega
/-- what is read only -/
def ux_RO (E : ux_E) (U : State) (H : Heap) : Prop :=
  uy_J (ux_A E) U H
  ∧ (va_Z "ServiceManager$Reader" "LEAST" "[I" (.ref (E.1 0 1310806 0)) (ux_A E) U H ∧ va_T .int (E.1 0 1310806 0) 10 (fun j => .int (ux_ro 1310806 j)) (ux_A E) U H)
  ∧ (va_Z "ServiceManager$Reader" "GREATEST" "[I" (.ref (E.1 0 1327190 0)) (ux_A E) U H ∧ va_T .int (E.1 0 1327190 0) 10 (fun j => .int (ux_ro 1327190 j)) (ux_A E) U H)
  ∧ (∀ j, j < 22 → ∃ t, uy_S (E.1 0 (ux_wd j) 0) t (uy_len j) (fun i => nI (uy_let j i)) (ux_A E) U H)
  ∧ ∀ (own : String) (i j p : Nat), j < 22 → lw_tbl[p]? = some (.stringRef own i (ux_str j)) → vk_R own i (ux_str j) (E.1 0 (ux_wd j) 0) U
def ux_ROok (E : ux_E) : Prop := ∀ (U : State) (H : Heap), E.2.2.2 U H → ux_RO E U H
theorem uy_dom6 {k s r : Nat} (h : ux_dom k s r = true) : s % 8 < 6 := by
  obtain ⟨q, h1, rfl, -⟩ := ux_dom_mem h
  have : ∀ q ∈ ux_domL, q.1 % 8 < 6 := by decide +kernel
  exact this q h1
theorem uy_ok6 {k s r : Nat} (h : ux_okV (.inr (.inr (k, s, r)))) (h6 : s % 8 = 6) : k = 0 ∧ r = 0 ∧ (s = 1310806 ∨ s = 1327190) := by
  rcases h with h | ⟨h1, h2, h⟩
  · have : s % 8 < 6 := uy_dom6 h
    omega
  · refine ⟨h1, h2, ?_⟩
    rcases h with h | h | ⟨j, hj, h⟩
    · exact .inl h
    · exact .inr h
    · have e : s = ux_wd j := h
      have := (uy_wdn hj).2.1
      omega
theorem uy_ok7 {k s r : Nat} (h : ux_okV (.inr (.inr (k, s, r)))) (h7 : s % 8 = 7) : k = 0 ∧ r = 0 ∧ ∃ j, j < 22 ∧ s = ux_wd j := by
  rcases h with h | ⟨h1, h2, h⟩
  · have : s % 8 < 6 := uy_dom6 h
    omega
  · refine ⟨h1, h2, ?_⟩
    rcases h with h | h | h
    · have e : s = 1310806 := h
      omega
    · have e : s = 1327190 := h
      omega
    · exact h
section UYC
variable {l : Launch} {E : ux_E} {d : Nat}
theorem ux_J_9 (hE : ux_ROok E) : ux_J l E 9 := by
  intro d y p e s m args below meth c R pc L st M ig n da K G hd hc hwt hs hK
  unfold ux_chs at hc
  split at hc <;> first | (rename_i hj; cases hj; done) | skip
  all_goals try (exact absurd hc (by decide))
  simp only [decide_eq_true_eq] at hc
  subst hc
  change (match (generalizing := false) st with | .inl i :: .inr (.inr (k0, s0, r0)) :: rest => if s0 % 8 = 6 then vp_in i (ux_n s0) ∧ K (.inl (ux_ro s0 i.toNatClampNeg) :: rest) M else False | _ => False) at hs
  split at hs
  · rename_i i k0 s0 r0 rest
    split at hs
    · rename_i h6
      intro H locs ls hlr hokL hokst hRep hVS
      obtain ⟨rfl, rfl, hs0⟩ := uy_ok6 (ux_hd (ux_tl hokst)) h6
      obtain ⟨-, ⟨-, hT1⟩, ⟨-, hT2⟩, -⟩ := hE s s.heap G.2.2.2.2.2.1.2.2.2.2
      have hk := hK _ _ hs.2 H locs ls hlr hokL (ux_cn trivial (ux_tl (ux_tl hokst))) hRep hVS
      rcases hs0 with rfl | rfl
      · exact va_ti G.1 G.2.1 hT1 hVS hs.1 rfl hd hk
      · exact va_ti G.1 G.2.1 hT2 hVS hs.1 rfl hd hk
    · exact hs.elim
  · exact hs.elim
theorem uy_ldcW {p : Program} {e : Env} {R : Room} {s : State} {m : MethodId} {args : Array Value} {below : List Frame} {meth : Method} {c : Code} {H : Heap} {locs : List Loc} {cells slots : Nat} {Q : State → Prop} {cc : ByteArray} {pc : Nat} {ls : Array Slot} {rest : List Value} (hexec : p.tables.exec = Jvm.exec) (hb : c.code = cc) {own tx : String} {index q : Nat} (hown : s.vm.findClass own = some m.cls) (hZ : vk_R own index tx q s) (hdg : decode cc pc = .ok (.ldc_w index, 3))
    (k : W p l e R s m args below meth c H locs cells slots Q (F0 m (pc + 3) ls (.ref q :: rest))) : W p l e R s m args below meth c H locs cells slots Q (F0 m pc ls rest) := by
  intro T hT X
  obtain ⟨t, a1, b1⟩ := k T hT X
  exact ⟨t, X.ldcStringW hexec hown (text := tx) (a := q) hZ.1 hZ.2 (g := F0 m pc ls rest) rfl (by rw [hb]; exact hdg) t a1, b1⟩
theorem ux_J_8 (hE : ux_ROok E) : ux_J l E 8 := by
  intro d y p e s m args below meth c R pc L st M ig n da K G hd hc hwt hs hK
  obtain ⟨-, ⟨hZ1, -⟩, ⟨hZ2, -⟩, -, hR⟩ := hE s s.heap G.2.2.2.2.2.1.2.2.2.2
  unfold ux_chs at hc
  split at hc <;> first | (rename_i hj; cases hj; done) | skip
  all_goals try (exact absurd hc (by decide))
  · rename_i i s0 pp
    simp only [decide_eq_true_eq] at hc
    obtain ⟨rfl, ho, hc⟩ := hc
    intro H locs ls hlr hokL hokst hRep hVS
    have hown := G.2.2.2.1
    rcases hc with ⟨rfl, hp⟩ | ⟨rfl, hp⟩
    · have hk := hK _ _ hs H locs ls hlr hokL (ux_cn (.inr ⟨rfl, rfl, .inl rfl⟩) hokst) hRep hVS
      have hw := ux_word G (ux_at hp) rfl
      rw [ho] at hw hown
      exact va_gets G.1 G.2.1 hZ1 hVS hown hw (fun _ h => h) hd hk
    · have hk := hK _ _ hs H locs ls hlr hokL (ux_cn (.inr ⟨rfl, rfl, .inr (.inl rfl)⟩) hokst) hRep hVS
      have hw := ux_word G (ux_at hp) rfl
      rw [ho] at hw hown
      exact va_gets G.1 G.2.1 hZ2 hVS hown hw (fun _ h => h) hd hk
  · rename_i i s0 k pp
    simp only [decide_eq_true_eq] at hc
    obtain ⟨rfl, hk22, rfl, hp⟩ := hc
    intro H locs ls hlr hokL hokst hRep hVS
    exact va_ldcS G.1 G.2.1 G.2.2.2.1 (hR _ _ _ _ hk22 hp) hd (hK _ _ hs H locs ls hlr hokL (ux_cn (.inr ⟨rfl, rfl, .inr (.inr ⟨_, hk22, rfl⟩)⟩) hokst) hRep hVS)
  · rename_i i s0 k pp
    simp only [decide_eq_true_eq] at hc
    obtain ⟨rfl, hk22, rfl, hp⟩ := hc
    intro H locs ls hlr hokL hokst hRep hVS
    exact uy_ldcW G.1 G.2.1 G.2.2.2.1 (hR _ _ _ _ hk22 hp) hd (hK _ _ hs H locs ls hlr hokL (ux_cn (.inr ⟨rfl, rfl, .inr (.inr ⟨_, hk22, rfl⟩)⟩) hokst) hRep hVS)
theorem ux_J_6 (hE : ux_ROok E) : ux_J l E 6 := by
  intro d y p e s m args below meth c R pc L st M ig n da K G hd hc hwt hs hK
  obtain ⟨hJ, -, -, hW, -⟩ := hE s s.heap G.2.2.2.2.2.1.2.2.2.2
  unfold ux_chs at hc
  split at hc <;> first | (rename_i hj; cases hj; done) | skip
  all_goals try (exact absurd hc (by decide))
  simp only [decide_eq_true_eq] at hc
  obtain ⟨rfl, hp⟩ := hc
  change (match (generalizing := false) st with | .inr (.inr (k0, s0, r0)) :: rest => if s0 % 8 = 7 then K (.inl (Int32.ofNat (ux_n s0)) :: rest) M else False | _ => False) at hs
  split at hs
  · rename_i k0 s0 r0 rest
    split at hs
    · rename_i h7
      intro H locs ls hlr hokL hokst hRep hVS
      obtain ⟨rfl, rfl, j, hj, rfl⟩ := uy_ok7 (ux_hd hokst) h7
      obtain ⟨t, hS⟩ := hW j hj
      obtain ⟨n1, -, -⟩ := uy_wdn hj
      rw [n1] at hs
      have hk := hK _ _ hs H locs ls hlr hokL (ux_cn trivial (ux_tl hokst)) hRep hVS
      have hSk : uy_S (E.1 0 (ux_wd j) 0) t (uy_len j) (fun i => nI (uy_let j i)) uy_N s H := (hS.kept hVS.2.1).narrow (fun _ z => z.elim)
      have hJk : uy_J uy_N s H := (hJ.kept hVS.2.1).narrow (fun _ z => z.elim)
      obtain ⟨cell, q1, q2, q3, -⟩ := hSk.1
      refine uy_callv (d := d + 4) (y := y) (y2 := y_slen) (As := []) (rest := rest.map (ux_rho E)) G.1 G.2.1 G.2.2.1 G.2.2.2.1 G.2.2.2.2.1 (by decide +kernel) hp uy_w532 uy_w533 uy_i1 uy_w534 uy_nh1 (by decide)
        (c_slen (d := d + 3) (a := E.1 0 (ux_wd j) 0) (t := t) (n := uy_len j) (f := fun i => nI (uy_let j i)) (by have := (uy_wl j hj).1; omega)) uy_B.calling ⟨cell, q1, q2, q3⟩ (fun U hU hW => ⟨by rw [hU]; exact hSk.moved hW.alike, by rw [hU]; exact hJk.moved hW.alike⟩) rfl (by rw [ux_wt_cat]; simp only [ux_wt] at hwt; omega) hlr.1 hd ?_
      exact hk
    · exact hs.elim
  · exact hs.elim
theorem ux_J_7 (hE : ux_ROok E) : ux_J l E 7 := by
  intro d y p e s m args below meth c R pc L st M ig n da K G hd hc hwt hs hK
  obtain ⟨hJ, -, -, hW, -⟩ := hE s s.heap G.2.2.2.2.2.1.2.2.2.2
  unfold ux_chs at hc
  split at hc <;> first | (rename_i hj; cases hj; done) | skip
  all_goals try (exact absurd hc (by decide))
  simp only [decide_eq_true_eq] at hc
  obtain ⟨rfl, hp⟩ := hc
  change (match (generalizing := false) st with | .inl i :: .inr (.inr (k0, s0, r0)) :: rest => if s0 % 8 = 7 then vp_in i (ux_n s0) ∧ K (.inl (Int32.ofNat ((ux_words.getD (s0 / 16384 - 100) []).getD i.toNatClampNeg 0)) :: rest) M else False | _ => False) at hs
  split at hs
  · rename_i i k0 s0 r0 rest
    split at hs
    · rename_i h7
      intro H locs ls hlr hokL hokst hRep hVS
      obtain ⟨rfl, rfl, j, hj, rfl⟩ := uy_ok7 (ux_hd (ux_tl hokst)) h7
      obtain ⟨t, hS⟩ := hW j hj
      obtain ⟨n1, -, n3⟩ := uy_wdn hj
      rw [n1, n3] at hs
      obtain ⟨hi, hs⟩ := hs
      have hk := hK _ _ hs H locs ls hlr hokL (ux_cn trivial (ux_tl (ux_tl hokst))) hRep hVS
      have hSk : uy_S (E.1 0 (ux_wd j) 0) t (uy_len j) (fun i => nI (uy_let j i)) uy_N s H := (hS.kept hVS.2.1).narrow (fun _ z => z.elim)
      have hJk : uy_J uy_N s H := (hJ.kept hVS.2.1).narrow (fun _ z => z.elim)
      obtain ⟨cell, q1, q2, q3, -⟩ := hSk.1
      have hi0 : ¬ i < 0 := fun z => hi (.inl z)
      obtain ⟨v, hv, rfl⟩ := nI_of hi0
      have hl := (uy_wl j hj).1
      have cv : (nI v).toNatClampNeg = v := nI_clamp hv
      have hvl : v < uy_len j := by
        have : ¬ uy_len j ≤ (nI v).toNatClampNeg := fun z => hi (.inr z)
        rw [cv] at this; omega
      have h1 : nI v < Int32.ofNat (uy_len j) := (nI_ltI hv (by omega)).mpr hvl
      refine uy_callv (d := d + 4) (y := y) (y2 := y_schr) (As := [.int (nI v)]) (rest := rest.map (ux_rho E)) G.1 G.2.1 G.2.2.1 G.2.2.2.1 G.2.2.2.2.1 (by show _ = some 1; decide +kernel) hp uy_w542 uy_w543 uy_i1 uy_w544 uy_nh1 (by decide)
        (c_schr (d := d + 1) (a := E.1 0 (ux_wd j) 0) (t := t) (n := uy_len j) (f := fun i => nI (uy_let j i)) (w := uy_let j v) hi0 h1 hi (by rw [cv]) ((uy_wl j hj).2 v hvl)) uy_B.calling ⟨cell, q1, q2, q3⟩ (fun U hU hW => ⟨by rw [hU]; exact hSk.moved hW.alike, by rw [hU]; exact hJk.moved hW.alike⟩) rfl (by rw [ux_wt_cat]; simp only [ux_wt] at hwt; omega) hlr.1 hd ?_
      rw [cv] at hk
      exact hk
    · exact hs.elim
  · exact hs.elim
theorem d_fm_0 : decode prog_13_method_50_code 0 = .ok (.iload_n 0, 1) := by decide +kernel
theorem d_fm_1 : decode prog_13_method_50_code 1 = .ok (.iload_n 1, 1) := by decide +kernel
theorem d_fm_2 : decode prog_13_method_50_code 2 = .ok (.irem, 1) := by decide +kernel
theorem d_fm_3 : decode prog_13_method_50_code 3 = .ok (.istore_n 2, 1) := by decide +kernel
theorem d_fm_4 : decode prog_13_method_50_code 4 = .ok (.iload_n 0, 1) := by decide +kernel
theorem d_fm_5 : decode prog_13_method_50_code 5 = .ok (.iload_n 1, 1) := by decide +kernel
theorem d_fm_6 : decode prog_13_method_50_code 6 = .ok (.ixor, 1) := by decide +kernel
theorem d_fm_7 : decode prog_13_method_50_code 7 = .ok (.ifCond .ge 11, 3) := by decide +kernel
theorem d_fm_10 : decode prog_13_method_50_code 10 = .ok (.iload_n 2, 1) := by decide +kernel
theorem d_fm_11 : decode prog_13_method_50_code 11 = .ok (.ifCond .eq 7, 3) := by decide +kernel
theorem d_fm_14 : decode prog_13_method_50_code 14 = .ok (.iload_n 2, 1) := by decide +kernel
theorem d_fm_15 : decode prog_13_method_50_code 15 = .ok (.iload_n 1, 1) := by decide +kernel
theorem d_fm_16 : decode prog_13_method_50_code 16 = .ok (.iadd, 1) := by decide +kernel
theorem d_fm_17 : decode prog_13_method_50_code 17 = .ok (.ireturn, 1) := by decide +kernel
theorem d_fm_18 : decode prog_13_method_50_code 18 = .ok (.iload_n 2, 1) := by decide +kernel
theorem d_fm_19 : decode prog_13_method_50_code 19 = .ok (.ireturn, 1) := by decide +kernel
theorem c_fmod {x y : Int32} (hy : ¬ y = 0) : uy_Met l y_fm d [.int x, .int y] (fun _ => True) (some (.int (ux_fm x y))) := by
  refine uy_ofW (by decide +kernel) ?_
  intro p e s m args below meth c s₁ B hml hv
  obtain ⟨rfl, -⟩ := hv
  have hx := B.exec
  have hb := B.bytes
  have hr := B.returns
  have hlocks := B.notSynchronized
  have hl := lv_entry ([.int x, .int y]) (n := 3) (Nat.le_of_ble_eq_true rfl)
  show W _ _ _ _ _ _ _ _ _ _ _ _ _ _ _ (entryFrame m ([.int x, .int y] : List Value).toArray 3)
  rw [lg_entry_eq]
  generalize (lg_sl ([.int x, .int y]) ++ List.replicate (3 - (lg_sl ([.int x, .int y])).length) Slot.unset).toArray = ls at hl ⊢
  have hl : lv_has ls 3 [(0, .int x), (1, .int y)] := hl
  have ge : ∀ z : Int32, 0 ≤ z ↔ ¬ z < 0 := fun z => by rw [Int32.le_iff_toInt_le, Int32.lt_iff_toInt_lt]; omega
  have out : ∀ v : Int32, v = ux_fm x y → ∀ t : State, t.heap = s.heap → s.WarmedH t.vm → Outcome.returned (some (Value.int v)) = Outcome.returned (some (.int (ux_fm x y))) ∧ t.heap = s.heap := fun v h t ht _ => ⟨by rw [h], ht⟩
  refine lv_iload_n hx hb d_fm_0 rfl (lv_at hl 0 rfl) ?_
  refine lv_iload_n hx hb d_fm_1 rfl (lv_at hl 1 rfl) ?_
  refine lv_irem hx hb d_fm_2 hy ?_
  refine lv_topi (fun z ez => ?_)
  refine lv_istore_n (lv' := [(2, .int z), (0, .int x), (1, .int y)]) hx hb d_fm_3 rfl hl (by decide) rfl (fun ls hl => ?_)
  refine lv_iload_n hx hb d_fm_4 rfl (lv_at hl 1 rfl) ?_
  refine lv_iload_n hx hb d_fm_5 rfl (lv_at hl 2 rfl) ?_
  refine lv_ixor hx hb d_fm_6 ?_
  have e18 : ¬ ((x ^^^ y) < 0 ∧ z ≠ 0) → W p l e (uy_room d) s m ([.int x, .int y] : List Value).toArray below meth c s.heap [] 0 0 (MQ below (fun _ st o t => o = .returned (some (.int (ux_fm x y))) ∧ t.heap = st.heap) ([.int x, .int y] : List Value).toArray s 0 0 (fun _ => False)) (F0 m 18 ls []) := by
    intro hn
    refine lv_iload_n hx hb d_fm_18 rfl (lv_at hl 0 rfl) ?_
    refine W.iret (hlocks := hlocks) hx hb hr (out z ?_) (fun q h => by cases h) d_fm_19
    unfold ux_fm; dsimp only; rw [← ez, if_neg hn]
  refine lv_if_ge (tgt := 18) hx hb d_fm_7 (by decide) (fun q => e18 (fun h => (ge _).mp q h.1)) (fun q => ?_)
  have hneg : (x ^^^ y) < 0 := Classical.byContradiction (fun h => q ((ge _).mpr h))
  refine lv_iload_n hx hb d_fm_10 rfl (lv_at hl 0 rfl) ?_
  refine lv_if_eq (tgt := 18) hx hb d_fm_11 (by decide) (fun q2 => e18 (fun h => h.2 q2)) (fun q2 => ?_)
  refine lv_iload_n hx hb d_fm_14 rfl (lv_at hl 0 rfl) ?_
  refine lv_iload_n hx hb d_fm_15 rfl (lv_at hl 2 rfl) ?_
  refine lv_iadd hx hb d_fm_16 ?_
  refine W.iret (hlocks := hlocks) hx hb hr (out (z + y) ?_) (fun q h => by cases h) d_fm_17
  unfold ux_fm; dsimp only; rw [← ez, if_pos ⟨hneg, q2⟩]
theorem uy_w913 : lw_tbl[913]? = some (.static y_fm.1) := by decide +kernel
theorem uy_w914 : lw_tbl[914]? = some (.code y_fm.1 y_fm.2.1 y_fm.2.2.1 y_fm.2.2.2) := by decide +kernel
theorem uy_i4 : lw_tbl[182]? = some (.initialized "java/lang/Math") := by decide +kernel
theorem ux_J_4 : ux_J l E 4 := by
  intro d y p e s m args below meth c R pc L st M ig n da K G hd hc hwt hs hK
  unfold ux_chs at hc
  split at hc <;> first | (rename_i hj; cases hj; done) | skip
  all_goals try (exact absurd hc (by decide))
  simp only [decide_eq_true_eq] at hc
  obtain ⟨rfl, hp⟩ := hc
  change (match (generalizing := false) st with | .inl y :: .inl x :: rest => ¬ y = 0 ∧ K (.inl (ux_fm x y) :: rest) M | _ => False) at hs
  split at hs
  · rename_i yy xx rest
    intro H locs ls hlr hokL hokst hRep hVS
    have hk := hK _ _ hs.2 H locs ls hlr hokL (ux_cn trivial (ux_tl (ux_tl hokst))) hRep hVS
    refine uy_calls (d := d + 4) (y := y) (y2 := y_fm) (As := [.int xx, .int yy]) (rest := rest.map (ux_rho E)) (B := fun _ => True) G.1 G.2.1 G.2.2.1 G.2.2.2.1 G.2.2.2.2.1 (by show _ = some 2; decide +kernel) hp uy_w913 uy_i4 uy_w914 uy_nh4 (by decide)
      (c_fmod hs.1) (fun _ _ _ _ h => h) (fun _ _ _ => trivial) rfl (by rw [ux_wt_cat]; simp only [ux_wt] at hwt; omega) hlr.1 hd ?_
    exact hk
  · exact hs.elim
/-- ALL THE FURTHER MEMBERS -/
theorem ux_spec_ok (hE : ux_ROok E) : ux_SpecOK l E ux_chs := by
  intro d y p e s m args below meth c R pc L st M ig n j da K G hd hc hwt hs hK
  have hj : j = 1 ∨ j = 2 ∨ j = 3 ∨ j = 4 ∨ j = 5 ∨ j = 6 ∨ j = 7 ∨ j = 8 ∨ j = 9 ∨ j = 10 := by
    unfold ux_chs at hc
    split at hc <;> first | omega | exact absurd hc (by decide)
  rcases hj with rfl | rfl | rfl | rfl | rfl | rfl | rfl | rfl | rfl | rfl
  · exact ux_J_1 d y p e s m args below meth c R pc L st M ig n da K G hd hc hwt hs hK
  · exact ux_J_2 d y p e s m args below meth c R pc L st M ig n da K G hd hc hwt hs hK
  · exact ux_J_3 d y p e s m args below meth c R pc L st M ig n da K G hd hc hwt hs hK
  · exact ux_J_4 d y p e s m args below meth c R pc L st M ig n da K G hd hc hwt hs hK
  · exact ux_J_5 d y p e s m args below meth c R pc L st M ig n da K G hd hc hwt hs hK
  · exact ux_J_6 hE d y p e s m args below meth c R pc L st M ig n da K G hd hc hwt hs hK
  · exact ux_J_7 hE d y p e s m args below meth c R pc L st M ig n da K G hd hc hwt hs hK
  · exact ux_J_8 hE d y p e s m args below meth c R pc L st M ig n da K G hd hc hwt hs hK
  · exact ux_J_9 hE d y p e s m args below meth c R pc L st M ig n da K G hd hc hwt hs hK
  · exact ux_J_10 d y p e s m args below meth c R pc L st M ig n da K G hd hc hwt hs hK
end UYC
