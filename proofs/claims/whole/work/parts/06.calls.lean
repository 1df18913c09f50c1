def ux_SpecOK (l : Launch) (E : ux_E) (chs : ux_Chs) : Prop := ∀ (d : Nat) (y : ux_Y) (p : Program) (e : Env) (s : State) (m : MethodId) (args : Array Value) (below : List Frame) (meth : Method) (c : Code) (R : Option ux_V → ux_M → Prop) (pc : Nat) (L : ux_L) (st : List ux_V) (M : ux_M) (ig : Instr) (n j : Nat) (da : List Nat) (K : List ux_V → ux_M → Prop),
  ux_G l E y p s m args meth c → decode y.2.1 pc = .ok (ig, n) → chs y.1.cls pc ig n j da = true → ux_wt st ≤ 9 → ux_spec j da st M K → (∀ st' M', K st' M' → ux_Wt l E (d + 1) y p e s m args below meth c R (pc + n) L st' M') → ux_Wt l E (d + 1) y p e s m args below meth c R pc L st M
section UXS
variable {l : Launch} {E : ux_E} {d : Nat} {y : ux_Y} {p : Program} {e : Env} {s : State} {m : MethodId} {args : Array Value} {below : List Frame} {meth : Method} {c : Code} {R : Option ux_V → ux_M → Prop} {pc : Nat} {L : ux_L} {M : ux_M}
theorem ux_callv (G : ux_G l E y p s m args meth c) {y2 : ux_Y} {i ci k b pp p1 p2 : Nat} {As rest : List ux_V} {q : Nat × Nat × Nat} {Q : Option ux_V → ux_M → Prop} {H : Heap} {locs : List Loc} {ls : Array Slot}
    (hci : ci < 7) (hcl : ux_rM ci = y2.1.cls) (hk : (parseMethodDescriptor y2.1.desc).map (fun d => d.parameters.length) = some k) (hw : lw_tbl[pp]? = some (ux_wm b y.1.cls i y2.1)) (hw1 : lw_tbl[p1]? = some (.instanceMethod y2.1)) (hw2 : lw_tbl[p2]? = some (.selects y2.1.cls y2.1 y2.1))
    (h5 : q.2.1 % 8 = 5) (hn : ux_n q.2.1 = ci) (hAs : As.length = k) (hwt : ux_wt rest ≤ 8) (hcall : ux_Call l E d y2 (.inr (.inr q) :: As) M Q)
    (hlr : ux_lr E ls y.2.2.1 L) (hokA : ∀ v ∈ As, ux_okV v) (hokq : ux_okV (.inr (.inr q))) (hRep : ux_Rep E M H) (hVS : va_S (ux_A E) s.heap H locs) (hd : decode y.2.1 pc = .ok (.invokevirtual i, 3))
    (kk : ∀ (r : Option ux_V) (M' : ux_M) (H1 : Heap) (locs1 : List Loc), (∀ v, r = some v → ux_okV v) → Q r M' → ux_Rep E M' H1 → va_S (ux_A E) s.heap H1 locs1 → W p l e (ux_room (d + 1)) s m args below meth c H1 locs1 0 0 (MQ below (ux_post E R) args s 0 0 (ux_A E)) (F0 m (pc + 3) ls ((r.map (ux_rho E)).toList ++ rest.map (ux_rho E)))) :
    W p l e (ux_room (d + 1)) s m args below meth c H locs 0 0 (MQ below (ux_post E R) args s 0 0 (ux_A E)) (F0 m pc ls ((As.reverse ++ .inr (.inr q) :: rest).map (ux_rho E))) := by
  obtain ⟨hMO, hM⟩ := hcall
  have hM := hM (ux_cn hokq hokA)
  have G0 := G
  obtain ⟨hx, hb, hml, hown, hts, hK, -, -⟩ := G
  obtain ⟨m1, m2, m3, m4, m5⟩ := hMO
  have hdq := ux_okR hokq (by omega)
  obtain ⟨cell, q1, q2, q3, -⟩ := (ux_cell5 h5).mp (hRep _ _ _ hdq)
  obtain ⟨-, ⟨hfc, -⟩⟩ := hK.2.2.1.1 ci _ (ux_cl_at ci hci)
  have hroom : (ux_room d).frames + 1 ≤ (ux_room (d + 1)).frames ∧ 8 + (y2.2.2.1 + 11) + (ux_room d).locals ≤ (ux_room (d + 1)).locals := ⟨Nat.le_refl _, by show 8 + (y2.2.2.1 + 11) + (60 * (d + 4) + 60) ≤ 60 * (d + 1 + 4) + 60; omega⟩
  have hprev : PreV s H y2.1.cls (E.1 q.1 q.2.1 q.2.2) (va_Pc ((.inr (.inr q) :: As).map (ux_rho E)) (fun U => ux_Rep E M U.heap ∧ ux_K E U U.heap)) (As.map (ux_rho E)) :=
    ⟨ux_blind E _ M, ⟨cell, q1, by rw [q3]; rfl, by rw [q2, hn, ← hcl]; exact hfc⟩, fun U hU hW => ⟨rfl, by rw [hU]; exact hRep, ux_K_warm hK hW hVS hU⟩⟩
  have hst : (As.reverse ++ .inr (.inr q) :: rest).map (ux_rho E) = (As.map (ux_rho E)).reverse ++ .ref (E.1 q.1 q.2.1 q.2.2) :: rest.map (ux_rho E) := by
    rw [List.map_append, List.map_reverse]; rfl
  rw [hst]
  have hwt' : 2 * (F0 m pc ls ((As.map (ux_rho E)).reverse ++ .ref (E.1 q.1 q.2.1 q.2.2) :: rest.map (ux_rho E))).monitorRoom + ((rest.map (ux_rho E)).map fun v => v.category).sum ≤ 8 := lv_room (by rw [ux_wt_cat]; exact hwt)
  by_cases hb0 : b = 0
  · have hw' : Cond.methodLink y.1.cls i y2.1 ∈ lw_tbl := by
      refine ux_at (p := pp) ?_
      rw [hw]; unfold ux_wm; rw [if_pos hb0]
    have hG : GoodIn (ux_ws y) (wsV y.1.cls i y2.1.cls y2.1 (ux_ws y2)) := by
      intro w hwm
      unfold wsV at hwm
      rcases List.mem_append.mp hwm with h | h
      · simp only [List.mem_cons, List.not_mem_nil, or_false] at h
        rcases h with rfl | rfl | rfl | rfl
        · exact ⟨List.mem_cons_of_mem _ (ux_mem_good hw' rfl), good_of_word rfl⟩
        · exact ⟨List.mem_cons_of_mem _ (ux_mem_good (ux_at hw1) rfl), good_of_word rfl⟩
        · exact ⟨List.mem_cons_of_mem _ (ux_mem_good (ux_at hw2) rfl), good_of_word rfl⟩
        · exact ⟨List.mem_cons_of_mem _ (ux_mem_good m3 rfl), good_of_word rfl⟩
      · exact ux_goodIn y y2 m1 w h
    exact ux_after (va_runV (As := As.map (ux_rho E)) ⟨hx, hb, hml, hown, hts⟩ hM (cwV k hts hG rfl rfl rfl ⟨rfl, m4.1, m4.2, hk⟩ hroom) hprev rfl (by rw [List.length_map]; exact hAs) hlr.1 rfl hwt' hd ⟨Nat.le_refl _, Nat.le_refl _⟩) hVS kk
  · have hw' : va_Nw (.methodLinkNest y.1.cls i y2.1 "ServiceManager") s := by
      refine hK.2.2.2.1 _ (ux_at (p := pp) ?_) rfl
      rw [hw]; unfold ux_wm; rw [if_neg hb0]
    exact ux_after (va_runVN (As := As.map (ux_rho E)) ⟨hx, hb, hml, hown, hts⟩ hM ⟨va_cnB k hts (ux_goodIn y y2 m1) rfl rfl rfl hw' (ux_word G0 m3 rfl) ⟨m4.1, m4.2, hk⟩ hroom, ux_word G0 (ux_at hw1) rfl, ux_word G0 (ux_at hw2) rfl⟩ hprev rfl (by rw [List.length_map]; exact hAs) hlr.1 rfl hwt' hd ⟨Nat.le_refl _, Nat.le_refl _⟩) hVS kk
theorem ux_calls (G : ux_G l E y p s m args meth c) {y2 : ux_Y} {i k b pp p1 : Nat} {As rest : List ux_V} {Q : Option ux_V → ux_M → Prop} {H : Heap} {locs : List Loc} {ls : Array Slot}
    (hk : (parseMethodDescriptor y2.1.desc).map (fun d => d.parameters.length) = some k) (hw : lw_tbl[pp]? = some (ux_wm b y.1.cls i y2.1)) (hw1 : lw_tbl[p1]? = some (.static y2.1))
    (hAs : As.length = k) (hwt : ux_wt rest ≤ 8) (hcall : ux_Call l E d y2 As M Q)
    (hlr : ux_lr E ls y.2.2.1 L) (hokA : ∀ v ∈ As, ux_okV v) (hRep : ux_Rep E M H) (hVS : va_S (ux_A E) s.heap H locs) (hd : decode y.2.1 pc = .ok (.invokestatic i, 3))
    (kk : ∀ (r : Option ux_V) (M' : ux_M) (H1 : Heap) (locs1 : List Loc), (∀ v, r = some v → ux_okV v) → Q r M' → ux_Rep E M' H1 → va_S (ux_A E) s.heap H1 locs1 → W p l e (ux_room (d + 1)) s m args below meth c H1 locs1 0 0 (MQ below (ux_post E R) args s 0 0 (ux_A E)) (F0 m (pc + 3) ls ((r.map (ux_rho E)).toList ++ rest.map (ux_rho E)))) :
    W p l e (ux_room (d + 1)) s m args below meth c H locs 0 0 (MQ below (ux_post E R) args s 0 0 (ux_A E)) (F0 m pc ls ((As.reverse ++ rest).map (ux_rho E))) := by
  obtain ⟨hMO, hM⟩ := hcall
  have hM := hM hokA
  have G0 := G
  obtain ⟨hx, hb, hml, hown, hts, hK, -, -⟩ := G
  obtain ⟨m1, m2, m3, m4, m5⟩ := hMO
  have hroom : (ux_room d).frames + 1 ≤ (ux_room (d + 1)).frames ∧ 8 + (y2.2.2.1 + 11) + (ux_room d).locals ≤ (ux_room (d + 1)).locals := ⟨Nat.le_refl _, by show 8 + (y2.2.2.1 + 11) + (60 * (d + 4) + 60) ≤ 60 * (d + 1 + 4) + 60; omega⟩
  have hprev : PreS s H (va_Pc (As.map (ux_rho E)) (fun U => ux_Rep E M U.heap ∧ ux_K E U U.heap)) (As.map (ux_rho E)) :=
    ⟨ux_blind E _ M, fun U hU hW => ⟨rfl, by rw [hU]; exact hRep, ux_K_warm hK hW hVS hU⟩⟩
  have hst : (As.reverse ++ rest).map (ux_rho E) = (As.map (ux_rho E)).reverse ++ rest.map (ux_rho E) := by
    rw [List.map_append, List.map_reverse]
  rw [hst]
  have hwt' : 2 * (F0 m pc ls ((As.map (ux_rho E)).reverse ++ rest.map (ux_rho E))).monitorRoom + ((rest.map (ux_rho E)).map fun v => v.category).sum ≤ 8 := lv_room (by rw [ux_wt_cat]; exact hwt)
  by_cases hb0 : b = 0
  · have hw' : Cond.methodLink y.1.cls i y2.1 ∈ lw_tbl := by
      refine ux_at (p := pp) ?_
      rw [hw]; unfold ux_wm; rw [if_pos hb0]
    have hG : GoodIn (ux_ws y) (va_wsS y.1.cls i y2.1 (ux_ws y2)) := by
      intro w hwm
      unfold va_wsS at hwm
      rcases List.mem_append.mp hwm with h | h
      · simp only [List.mem_cons, List.not_mem_nil, or_false] at h
        rcases h with rfl | rfl | rfl
        · exact ⟨List.mem_cons_of_mem _ (ux_mem_good hw' rfl), good_of_word rfl⟩
        · exact ⟨List.mem_cons_of_mem _ (ux_mem_good (ux_at hw1) rfl), good_of_word rfl⟩
        · exact ⟨List.mem_cons_of_mem _ (ux_mem_good m3 rfl), good_of_word rfl⟩
      · exact ux_goodIn y y2 m1 w h
    exact ux_after (va_runS (As := As.map (ux_rho E)) ⟨hx, hb, hml, hown, hts⟩ hM (va_cwS k hts hG rfl rfl rfl ⟨m4.1, m4.2, hk⟩ hroom) hprev rfl (by rw [List.length_map]; exact hAs) hlr.1 rfl hwt' hd ⟨Nat.le_refl _, Nat.le_refl _⟩) hVS kk
  · have hw' : va_Nw (.methodLinkNest y.1.cls i y2.1 "ServiceManager") s := by
      refine hK.2.2.2.1 _ (ux_at (p := pp) ?_) rfl
      rw [hw]; unfold ux_wm; rw [if_neg hb0]
    exact ux_after (va_runSN (As := As.map (ux_rho E)) ⟨hx, hb, hml, hown, hts⟩ hM ⟨va_cnB k hts (ux_goodIn y y2 m1) rfl rfl rfl hw' (ux_word G0 m3 rfl) ⟨m4.1, m4.2, hk⟩ hroom, ux_word G0 (ux_at hw1) rfl, trivial⟩ hprev rfl (by rw [List.length_map]; exact hAs) hlr.1 rfl hwt' hd ⟨Nat.le_refl _, Nat.le_refl _⟩) hVS kk
end UXS
