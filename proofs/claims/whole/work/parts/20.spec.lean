/-! the further members: Math.min, max, Integer.bitCount, Math.floorMod, System.arraycopy, Math.min of longs -/
def y_bc : ux_Y := (⟨"java/lang/Integer", "bitCount", "(I)I"⟩, prog_12_method_49_code, 1, some .int)
def s_bc : List ux_op := [(.iload_n 0, 1, [0], 0, y_0), (.iload_n 0, 1, [0], 0, y_0), (.iconst 1, 1, [], 1, y_0), (.iushr, 1, [], 0, y_0), (.ldc_w 265, 3, [700], 1431655765, y_0), (.iand, 1, [], 0, y_0), (.isub, 1, [], 0, y_0), (.istore_n 0, 1, [0], 0, y_0),
  (.iload_n 0, 1, [0], 0, y_0), (.ldc_w 266, 3, [701], 858993459, y_0), (.iand, 1, [], 0, y_0), (.iload_n 0, 1, [0], 0, y_0), (.iconst 2, 1, [], 2, y_0), (.iushr, 1, [], 0, y_0), (.ldc_w 266, 3, [701], 858993459, y_0), (.iand, 1, [], 0, y_0), (.iadd, 1, [], 0, y_0), (.istore_n 0, 1, [0], 0, y_0),
  (.iload_n 0, 1, [0], 0, y_0), (.iload_n 0, 1, [0], 0, y_0), (.iconst 4, 1, [], 4, y_0), (.iushr, 1, [], 0, y_0), (.iadd, 1, [], 0, y_0), (.ldc_w 267, 3, [702], 252645135, y_0), (.iand, 1, [], 0, y_0), (.istore_n 0, 1, [0], 0, y_0),
  (.iload_n 0, 1, [0], 0, y_0), (.iload_n 0, 1, [0], 0, y_0), (.bipush 8, 2, [], 8, y_0), (.iushr, 1, [], 0, y_0), (.iadd, 1, [], 0, y_0), (.istore_n 0, 1, [0], 0, y_0),
  (.iload_n 0, 1, [0], 0, y_0), (.iload_n 0, 1, [0], 0, y_0), (.bipush 16, 2, [], 16, y_0), (.iushr, 1, [], 0, y_0), (.iadd, 1, [], 0, y_0), (.istore_n 0, 1, [0], 0, y_0),
  (.iload_n 0, 1, [0], 0, y_0), (.bipush 63, 2, [], 63, y_0), (.iand, 1, [], 0, y_0), (.ireturn, 1, [0], 0, y_0)]
theorem k_bc : ux_chks (fun _ _ _ _ _ _ => false) y_bc.1.cls y_bc.2.2.2 y_bc.2.1 0 s_bc = true := by decide +kernel
theorem mo_bc : ux_MO y_bc := ⟨List.mem_of_getElem? (i := 699) (by decide +kernel), by decide +kernel, List.mem_of_getElem? (i := 193) (by decide +kernel), ⟨by decide +kernel, by decide +kernel⟩, by decide +kernel⟩
def y_fm : ux_Y := (⟨"java/lang/Math", "floorMod", "(II)I"⟩, prog_13_method_50_code, 3, some .int)
def s_fm0 : List ux_op := [(.iload_n 0, 1, [0], 0, y_0), (.iload_n 1, 1, [1], 0, y_0), (.irem, 1, [], 0, y_0), (.istore_n 2, 1, [2], 0, y_0), (.iload_n 0, 1, [0], 0, y_0), (.iload_n 1, 1, [1], 0, y_0), (.ixor, 1, [], 0, y_0), (.ifCond .ge 11, 3, [18], 0, y_0)]
def s_fm10 : List ux_op := [(.iload_n 2, 1, [2], 0, y_0), (.ifCond .eq 7, 3, [18], 0, y_0)]
def s_fm14 : List ux_op := [(.iload_n 2, 1, [2], 0, y_0), (.iload_n 1, 1, [1], 0, y_0), (.iadd, 1, [], 0, y_0), (.ireturn, 1, [0], 0, y_0)]
def s_fm18 : List ux_op := [(.iload_n 2, 1, [2], 0, y_0), (.ireturn, 1, [0], 0, y_0)]
theorem k_fm0 : ux_chks (fun _ _ _ _ _ _ => false) y_fm.1.cls y_fm.2.2.2 y_fm.2.1 0 s_fm0 = true := by decide +kernel
theorem k_fm10 : ux_chks (fun _ _ _ _ _ _ => false) y_fm.1.cls y_fm.2.2.2 y_fm.2.1 10 s_fm10 = true := by decide +kernel
theorem k_fm14 : ux_chks (fun _ _ _ _ _ _ => false) y_fm.1.cls y_fm.2.2.2 y_fm.2.1 14 s_fm14 = true := by decide +kernel
theorem k_fm18 : ux_chks (fun _ _ _ _ _ _ => false) y_fm.1.cls y_fm.2.2.2 y_fm.2.1 18 s_fm18 = true := by decide +kernel
theorem st_bc : lw_tbl[698]? = some (Cond.static y_bc.1) := by decide +kernel
theorem st_fm : Cond.static y_fm.1 ∈ lw_tbl := List.mem_of_getElem? (i := 913) (by decide +kernel)
theorem st_min : Cond.static (ux_jn 1) ∈ lw_tbl := List.mem_of_getElem? (i := 508) (by decide +kernel)
theorem st_max : Cond.static (ux_jn 2) ∈ lw_tbl := List.mem_of_getElem? (i := 1121) (by decide +kernel)
theorem st_minl : Cond.static (ux_jn 10) ∈ lw_tbl := List.mem_of_getElem? (i := 1545) (by decide +kernel)
theorem st_cpy : Cond.static (ux_jn 5) ∈ lw_tbl := List.mem_of_getElem? (i := 669) (by decide +kernel)
theorem nt_cpy : Cond.native (ux_jn 5) ∈ lw_tbl := List.mem_of_getElem? (i := 670) (by decide +kernel)
theorem in_math : Cond.initialized "java/lang/Math" ∈ lw_tbl := List.mem_of_getElem? (i := 182) (by decide +kernel)
theorem in_sys : Cond.initialized "java/lang/System" ∈ lw_tbl := List.mem_of_getElem? (i := 187) (by decide +kernel)
theorem cd_min : Cond.code Lib.Math.min.name Lib.Math.min.code 2 (some .int) ∈ lw_tbl := List.mem_of_getElem? (i := 509) (by decide +kernel)
theorem cd_max : Cond.code Lib.Math.max.name Lib.Math.max.code 2 (some .int) ∈ lw_tbl := List.mem_of_getElem? (i := 1122) (by decide +kernel)
theorem cd_minl : Cond.code Lib.MathLoose.min_long.x Lib.MathLoose.min_long.code 4 (some .long) ∈ lw_tbl := List.mem_of_getElem? (i := 1546) (by decide +kernel)
section UXJ
variable {l : Launch} {E : ux_E} {d : Nat}
/-- a stretch without further members needs no hypothesis on them -/
theorem ux_seg0 {y : ux_Y} {ops : List ux_op} {pc : Nat} {L : ux_L} {st : List ux_V} {M : ux_M} {Q : Option ux_V → ux_M → Prop} (hc : ux_chks (fun _ _ _ _ _ _ => false) y.1.cls y.2.2.2 y.2.1 pc ops = true)
    (h : ux_run l E d Q (fun pc' L' st' M' => ux_At l E d y pc' L' st' M' Q) ops pc L st M) : ux_At l E d y pc L st M Q :=
  fun p e s m args below meth c G => ux_run_snd (chs := fun _ _ _ _ _ _ => false) (by intro d y p e s m args below meth c R pc L st M ig n j da K G hd hf; cases hf) G (fun t L' st' M' h' => h' p e s m args below meth c G) ops pc L st M hc h
theorem c_bc (x : Int32) (M : ux_M) {Q : Int32 → ux_M → Prop} (h : Q (ux_bc x) M) : ux_Call l E d y_bc [.inl x] M (ux_CI Q) := ux_meth mo_bc 0 rfl (ux_seg0 k_bc ⟨_, rfl, h⟩)
/-- what is left open of the further members: their W-level rows; here those that are closed -/
def ux_J (l : Launch) (E : ux_E) (j : Nat) : Prop := ∀ (d : Nat) (y : ux_Y) (p : Program) (e : Env) (s : State) (m : MethodId) (args : Array Value) (below : List Frame) (meth : Method) (c : Code) (R : Option ux_V → ux_M → Prop) (pc : Nat) (L : ux_L) (st : List ux_V) (M : ux_M) (ig : Instr) (n : Nat) (da : List Nat) (K : List ux_V → ux_M → Prop),
  ux_G l E y p s m args meth c → decode y.2.1 pc = .ok (ig, n) → ux_chs y.1.cls pc ig n j da = true → ux_wt st ≤ 9 → ux_spec j da st M K → (∀ st' M', K st' M' → ux_Wt l E (d + 1) y p e s m args below meth c R (pc + n) L st' M') → ux_Wt l E (d + 1) y p e s m args below meth c R pc L st M
theorem ux_min (x y : Int32) : (if y < x then y else x) = (if x < y then x else y) := by
  simp only [Int32.lt_iff_toInt_lt]
  split <;> split <;> first | rfl | exact Int32.toInt_inj.mp (by omega)
theorem ux_minl (x y : Int64) : (if y < x then y else x) = (if x < y then x else y) := by
  simp only [Int64.lt_iff_toInt_lt]
  split <;> split <;> first | rfl | exact Int64.toInt_inj.mp (by omega)
theorem ux_J_1 : ux_J l E 1 := by
  intro d y p e s m args below meth c R pc L st M ig n da K G hd hc hwt hs hK
  unfold ux_chs at hc
  split at hc <;> first | (rename_i hj; cases hj; done) | skip
  all_goals try (exact absurd hc (by decide))
  simp only [decide_eq_true_eq] at hc
  obtain ⟨rfl, hp⟩ := hc
  change (match (generalizing := false) st with | .inl y :: .inl x :: rest => K (.inl (if x < y then x else y) :: rest) M | _ => False) at hs
  split at hs
  · rename_i yy xx rest
    intro H locs ls hlr hokL hokst hRep hVS
    have hw : (List.map (fun v => v.category) (List.map (ux_rho E) rest)).sum ≤ 14 := by
      rw [ux_wt_cat]
      simp only [ux_wt] at hwt
      omega
    exact va_mmin (R := ux_room (d + 1)) G.1 G.2.1 (by rw [G.2.2.1, hlr.1]) G.2.2.2.1 (ux_word G (ux_at hp) rfl) (ux_word G st_min rfl) (ux_word G in_math rfl) (ux_word G cd_min rfl) (by show 1 ≤ d + 1 + 4; omega) (by show _ + 13 ≤ 60 * (d + 1 + 4) + 60; omega) (Nat.zero_le _) (Nat.zero_le _) hd (by rw [ux_min]; exact hK _ _ hs H locs ls hlr hokL (ux_cn trivial (ux_tl (ux_tl hokst))) hRep hVS)
  · exact hs.elim
theorem ux_J_2 : ux_J l E 2 := by
  intro d y p e s m args below meth c R pc L st M ig n da K G hd hc hwt hs hK
  unfold ux_chs at hc
  split at hc <;> first | (rename_i hj; cases hj; done) | skip
  all_goals try (exact absurd hc (by decide))
  simp only [decide_eq_true_eq] at hc
  obtain ⟨rfl, hp⟩ := hc
  change (match (generalizing := false) st with | .inl y :: .inl x :: rest => K (.inl (if x < y then y else x) :: rest) M | _ => False) at hs
  split at hs
  · rename_i yy xx rest
    intro H locs ls hlr hokL hokst hRep hVS
    have hw : (List.map (fun v => v.category) (List.map (ux_rho E) rest)).sum ≤ 14 := by
      rw [ux_wt_cat]
      simp only [ux_wt] at hwt
      omega
    exact va_mmax (R := ux_room (d + 1)) G.1 G.2.1 (by rw [G.2.2.1, hlr.1]) G.2.2.2.1 (ux_word G (ux_at hp) rfl) (ux_word G st_max rfl) (ux_word G in_math rfl) (ux_word G cd_max rfl) (by show 1 ≤ d + 1 + 4; omega) (by show _ + 13 ≤ 60 * (d + 1 + 4) + 60; omega) (Nat.zero_le _) (Nat.zero_le _) hd (hK _ _ hs H locs ls hlr hokL (ux_cn trivial (ux_tl (ux_tl hokst))) hRep hVS)
  · exact hs.elim
theorem ux_J_10 : ux_J l E 10 := by
  intro d y p e s m args below meth c R pc L st M ig n da K G hd hc hwt hs hK
  unfold ux_chs at hc
  split at hc <;> first | (rename_i hj; cases hj; done) | skip
  all_goals try (exact absurd hc (by decide))
  simp only [decide_eq_true_eq] at hc
  obtain ⟨rfl, hp⟩ := hc
  change (match (generalizing := false) st with | .inr (.inl y) :: .inr (.inl x) :: rest => K (.inr (.inl (if x < y then x else y)) :: rest) M | _ => False) at hs
  split at hs
  · rename_i yy xx rest
    intro H locs ls hlr hokL hokst hRep hVS
    have hw : (List.map (fun v => v.category) (List.map (ux_rho E) rest)).sum ≤ 14 := by
      rw [ux_wt_cat]
      simp only [ux_wt] at hwt
      omega
    exact va_mmin_long (R := ux_room (d + 1)) G.1 G.2.1 (by rw [G.2.2.1, hlr.1]) G.2.2.2.1 (ux_word G (ux_at hp) rfl) (ux_word G st_minl rfl) (ux_word G in_math rfl) (ux_word G cd_minl rfl) (by show 1 ≤ d + 1 + 4; omega) (by show _ + 15 ≤ 60 * (d + 1 + 4) + 60; omega) (Nat.zero_le _) (Nat.zero_le _) hd (by rw [ux_minl]; exact hK _ _ hs H locs ls hlr hokL (ux_cn trivial (ux_tl (ux_tl hokst))) hRep hVS)
  · exact hs.elim
theorem ux_J_3 : ux_J l E 3 := by
  intro d y p e s m args below meth c R pc L st M ig n da K G hd hc hwt hs hK
  unfold ux_chs at hc
  split at hc <;> first | (rename_i hj; cases hj; done) | skip
  all_goals try (exact absurd hc (by decide))
  simp only [decide_eq_true_eq] at hc
  obtain ⟨rfl, hp⟩ := hc
  change (match (generalizing := false) st with | .inl x :: rest => K (.inl (ux_bc x) :: rest) M | _ => False) at hs
  split at hs
  · rename_i xx rest
    intro H locs ls hlr hokL hokst hRep hVS
    refine ux_calls (y2 := y_bc) (k := 1) (b := 0) (As := [.inl xx]) (rest := rest) (Q := ux_CI (fun v M' => v = ux_bc xx ∧ M' = M)) G (by decide +kernel) hp st_bc rfl (by simp only [ux_wt] at hwt; omega) (c_bc xx M ⟨rfl, rfl⟩) hlr (ux_cn trivial (fun v hv => by cases hv)) hRep hVS hd ?_
    intro r M' H1 locs1 hok hq hR1 hS1
    obtain ⟨v, rfl, rfl, rfl⟩ := hq
    exact hK _ _ hs H1 locs1 ls hlr hokL (ux_cn trivial (ux_tl hokst)) hR1 hS1
  · exact hs.elim
end UXJ
