/-! WHAT IS THROWN, 2 (by wip/whole/gen9d.py): the methods of the class whose arguments are out of range -/
section FXB
variable {p : Program} {l : Launch} {E : ux_E} {e : Env} {R : Room} {s : State} {m : MethodId} {args : Array Value} {below : List Frame} {meth : Method} {c : Code} {H : Heap} {locs : List Loc} {cells slots d : Nat} {Q : State → Prop} {M : ux_M} {pc : Nat} {ls : Array Slot} {rest : List Value}
/-- behind a call that returns -/
theorem fx_after {QE : Option ux_V → ux_M → Prop} {a : Array Value} {st0 : List Value} (hr : va_Run p l e R s m args below meth c H locs cells slots 0 0 (F0 m pc ls st0) rest (ux_post E QE a) (ux_A E)) (hS : va_S (ux_A E) s.heap H locs)
    (kk : ∀ (r : Option ux_V) (M' : ux_M) (H1 : Heap) (locs1 : List Loc), QE r M' → ux_Rep E M' H1 → va_S (ux_A E) s.heap H1 locs1 → H.size ≤ H1.size → (∀ q, q < H.size → ¬ ux_A E q → H1[q]? = H[q]?) → W p l e R s m args below meth c H1 locs1 cells slots Q (F0 m (pc + 3) ls ((r.map (ux_rho E)).toList ++ rest))) : W p l e R s m args below meth c H locs cells slots Q (F0 m pc ls st0) := by
  intro T hT X
  obtain ⟨v, st₀, t, T', L, h0, X', hL, e1, e2, ⟨⟨r, M', hv, hok, hq, hrep⟩, hz, hk⟩, st⟩ := hr T hT X
  cases hv
  rw [h0] at hz hk
  obtain ⟨t2, a1, b1⟩ := kk r M' T'.heap (locs ++ L) hq (by rw [e1]; exact hrep)
    ⟨Nat.le_trans hS.1 (by rw [e1]; exact hz), fun q h1 h2 => by rw [e1, hk q (Nat.lt_of_lt_of_le h1 hS.1) h2]; exact hS.2.1 q h1 h2, fun q hq => by
      rcases List.mem_append.mp hq with h | h
      · exact hS.2.2 q h
      · exact hL q h⟩ (by rw [e1]; exact hz) (fun q h1 h2 => by rw [e1]; exact hk q h1 h2) T' rfl X'
  exact ⟨t2, st t2 a1, b1⟩
theorem fx_goodV {Ts : List Cond} (hT : ∀ w ∈ ux_good, w ∈ Ts) {own : String} {i pp p1 p2 p3 p4 : Nat} {y2 : ux_Y} (hw : lw_tbl[pp]? = some (.methodLink own i y2.1)) (hw1 : lw_tbl[p1]? = some (.instanceMethod y2.1)) (hw2 : lw_tbl[p2]? = some (.selects y2.1.cls y2.1 y2.1)) (m1 : Cond.code y2.1 y2.2.1 y2.2.2.1 y2.2.2.2 ∈ lw_tbl) (m3 : Cond.initialized y2.1.cls ∈ lw_tbl) : GoodIn Ts (wsV own i y2.1.cls y2.1 (ux_ws y2)) := by
  intro w hwm
  unfold wsV at hwm
  rcases List.mem_append.mp hwm with h | h
  · simp only [List.mem_cons, List.not_mem_nil, or_false] at h
    rcases h with rfl | rfl | rfl | rfl
    · exact ⟨hT _ (ux_mem_good (ux_at hw) rfl), good_of_word rfl⟩
    · exact ⟨hT _ (ux_mem_good (ux_at hw1) rfl), good_of_word rfl⟩
    · exact ⟨hT _ (ux_mem_good (ux_at hw2) rfl), good_of_word rfl⟩
    · exact ⟨hT _ (ux_mem_good m3 rfl), good_of_word rfl⟩
  · rcases List.mem_cons.mp h with rfl | h
    · exact ⟨hT _ (ux_mem_good m1 rfl), good_of_word rfl⟩
    · exact ⟨hT _ h, good_of_word (List.mem_filter.mp h).2⟩
theorem fx_goodS {Ts : List Cond} (hT : ∀ w ∈ ux_good, w ∈ Ts) {own : String} {i pp p1 : Nat} {y2 : ux_Y} (hw : lw_tbl[pp]? = some (.methodLink own i y2.1)) (hw1 : lw_tbl[p1]? = some (.static y2.1)) (m1 : Cond.code y2.1 y2.2.1 y2.2.2.1 y2.2.2.2 ∈ lw_tbl) (m3 : Cond.initialized y2.1.cls ∈ lw_tbl) : GoodIn Ts (va_wsS own i y2.1 (ux_ws y2)) := by
  intro w hwm
  unfold va_wsS at hwm
  rcases List.mem_append.mp hwm with h | h
  · simp only [List.mem_cons, List.not_mem_nil, or_false] at h
    rcases h with rfl | rfl | rfl
    · exact ⟨hT _ (ux_mem_good (ux_at hw) rfl), good_of_word rfl⟩
    · exact ⟨hT _ (ux_mem_good (ux_at hw1) rfl), good_of_word rfl⟩
    · exact ⟨hT _ (ux_mem_good m3 rfl), good_of_word rfl⟩
  · rcases List.mem_cons.mp h with rfl | h
    · exact ⟨hT _ (ux_mem_good m1 rfl), good_of_word rfl⟩
    · exact ⟨hT _ h, good_of_word (List.mem_filter.mp h).2⟩
/-- who is called -/
theorem fx_recv (hK : ux_K E s s.heap) (hRep : ux_Rep E M H) {q : Nat × Nat × Nat} (hdq : ux_dom q.1 q.2.1 q.2.2 = true) (h5 : q.2.1 % 8 = 5) {ci : Nat} (hn : ux_n q.2.1 = ci) (hci : ci < 7) : ∃ cell : Cell, H[E.1 q.1 q.2.1 q.2.2]? = some cell ∧ cell.vm.isStatics = false ∧ s.vm.findClass (ux_rM ci) = some cell.cls := by
  obtain ⟨cell, q1, q2, q3, -⟩ := (ux_cell5 h5).mp (hRep _ _ _ hdq)
  obtain ⟨-, ⟨hfc, -⟩⟩ := hK.2.2.1.1 ci _ (ux_cl_at ci hci)
  exact ⟨cell, q1, by rw [q3]; rfl, by rw [q2, hn]; exact hfc⟩
theorem fx_callv {own : String} {cc : ByteArray} {nL : Nat} {Ts : List Cond} (S : CallFix p m c cc nL s args Ts own) (hT : ∀ w ∈ ux_good, w ∈ Ts) (hts : ∀ w ∈ Ts, w.before args s = true) (hK : ux_K E s s.heap) {y2 : ux_Y} {i k pp p1 p2 ci : Nat} {q : Nat × Nat × Nat} {As : List ux_V} {QE : Option ux_V → ux_M → Prop}
    (hk : (parseMethodDescriptor y2.1.desc).map (fun d => d.parameters.length) = some k) (hw : lw_tbl[pp]? = some (.methodLink own i y2.1)) (hw1 : lw_tbl[p1]? = some (.instanceMethod y2.1)) (hw2 : lw_tbl[p2]? = some (.selects y2.1.cls y2.1 y2.1))
    (hdq : ux_dom q.1 q.2.1 q.2.2 = true) (h5 : q.2.1 % 8 = 5) (hn : ux_n q.2.1 = ci) (hci : ci < 7) (hcl : ux_rM ci = y2.1.cls) (hAs : As.length = k) (hok : ∀ v ∈ As, ux_okV v) (hcat : (rest.map fun v => v.category).sum ≤ 8) (hcall : ux_Call l E d y2 (.inr (.inr q) :: As) M QE) (hfr : d + 5 ≤ R.frames ∧ 60 * d + 360 ≤ R.locals) (hce : cells ≤ R.cells ∧ slots ≤ R.slots)
    (hRep : ux_Rep E M H) (hVS : va_S (ux_A E) s.heap H locs) (hls : ls.size = nL) (hd : decode cc pc = .ok (.invokevirtual i, 3))
    (kk : ∀ (r : Option ux_V) (M' : ux_M) (H1 : Heap) (locs1 : List Loc), QE r M' → ux_Rep E M' H1 → va_S (ux_A E) s.heap H1 locs1 → H.size ≤ H1.size → (∀ q, q < H.size → ¬ ux_A E q → H1[q]? = H[q]?) → W p l e R s m args below meth c H1 locs1 cells slots Q (F0 m (pc + 3) ls ((r.map (ux_rho E)).toList ++ rest))) :
    W p l e R s m args below meth c H locs cells slots Q (F0 m pc ls ((As.map (ux_rho E)).reverse ++ .ref (E.1 q.1 q.2.1 q.2.2) :: rest)) := by
  obtain ⟨⟨m1, m2, m3, m4, m5⟩, hM⟩ := hcall
  have hM := hM (ux_cn (.inl hdq) hok)
  have hroom : (ux_room d).frames + 1 ≤ R.frames ∧ 8 + (y2.2.2.1 + 11) + (ux_room d).locals ≤ R.locals := ⟨by show d + 4 + 1 ≤ R.frames; omega, by show 8 + (y2.2.2.1 + 11) + (60 * (d + 4) + 60) ≤ R.locals; omega⟩
  have hrec := fx_recv hK hRep hdq h5 hn hci
  rw [hcl] at hrec
  exact fx_after (va_runV (As := As.map (ux_rho E)) S hM (cwV k hts (fx_goodV hT hw hw1 hw2 m1 m3 (p3 := 0) (p4 := 0)) rfl rfl rfl ⟨rfl, m4.1, m4.2, hk⟩ hroom) ⟨ux_blind E _ M, hrec, fun U hU hW => ⟨rfl, by rw [hU]; exact hRep, ux_K_warm hK hW hVS hU⟩⟩ rfl (by rw [List.length_map]; exact hAs) hls rfl (lv_room hcat) hd hce) hVS kk
theorem fx_calls {own : String} {cc : ByteArray} {nL : Nat} {Ts : List Cond} (S : CallFix p m c cc nL s args Ts own) (hT : ∀ w ∈ ux_good, w ∈ Ts) (hts : ∀ w ∈ Ts, w.before args s = true) (hK : ux_K E s s.heap) {y2 : ux_Y} {i k pp p1 : Nat} {As : List ux_V} {QE : Option ux_V → ux_M → Prop}
    (hk : (parseMethodDescriptor y2.1.desc).map (fun d => d.parameters.length) = some k) (hw : lw_tbl[pp]? = some (.methodLink own i y2.1)) (hw1 : lw_tbl[p1]? = some (.static y2.1))
    (hAs : As.length = k) (hok : ∀ v ∈ As, ux_okV v) (hcat : (rest.map fun v => v.category).sum ≤ 8) (hcall : ux_Call l E d y2 As M QE) (hfr : d + 5 ≤ R.frames ∧ 60 * d + 360 ≤ R.locals) (hce : cells ≤ R.cells ∧ slots ≤ R.slots)
    (hRep : ux_Rep E M H) (hVS : va_S (ux_A E) s.heap H locs) (hls : ls.size = nL) (hd : decode cc pc = .ok (.invokestatic i, 3))
    (kk : ∀ (r : Option ux_V) (M' : ux_M) (H1 : Heap) (locs1 : List Loc), QE r M' → ux_Rep E M' H1 → va_S (ux_A E) s.heap H1 locs1 → H.size ≤ H1.size → (∀ q, q < H.size → ¬ ux_A E q → H1[q]? = H[q]?) → W p l e R s m args below meth c H1 locs1 cells slots Q (F0 m (pc + 3) ls ((r.map (ux_rho E)).toList ++ rest))) :
    W p l e R s m args below meth c H locs cells slots Q (F0 m pc ls ((As.map (ux_rho E)).reverse ++ rest)) := by
  obtain ⟨⟨m1, m2, m3, m4, m5⟩, hM⟩ := hcall
  have hM := hM hok
  have hroom : (ux_room d).frames + 1 ≤ R.frames ∧ 8 + (y2.2.2.1 + 11) + (ux_room d).locals ≤ R.locals := ⟨by show d + 4 + 1 ≤ R.frames; omega, by show 8 + (y2.2.2.1 + 11) + (60 * (d + 4) + 60) ≤ R.locals; omega⟩
  exact fx_after (va_runS (As := As.map (ux_rho E)) S hM (va_cwS k hts (fx_goodS hT hw hw1 m1 m3) rfl rfl rfl ⟨m4.1, m4.2, hk⟩ hroom) ⟨ux_blind E _ M, fun U hU hW => ⟨rfl, by rw [hU]; exact hRep, ux_K_warm hK hW hVS hU⟩⟩ rfl (by rw [List.length_map]; exact hAs) hls rfl (lv_room hcat) hd hce) hVS kk
/-- a call that throws -/
theorem fx_run {name : String} {st0 : List Value} {Qa : State → Outcome → State → Prop} (hQ : ∀ a b t, ¬ Qa a b t) (hr : vx_Run p l e R s m args below meth c H locs cells slots 1 6 (F0 m pc ls st0) rest Qa (fx_X E M name) (ux_A E)) (hS : va_S (ux_A E) s.heap H locs)
    (kx : ∀ (ce : Cell) (q9 : Addr) (H1 : Heap) (locs1 : List Loc), ux_Rep E M H1 → va_S (ux_A E) s.heap H1 locs1 → H.size ≤ H1.size → (∀ q, q < H.size → ¬ ux_A E q → H1[q]? = H[q]?) → H1[q9]? = some ce → ce.vm = .none → s.vm.findClass name = some ce.cls → vx_W p l e R s m args below meth c H1 locs1 (cells + 1) (slots + 6) Q (F0 m pc ls rest) q9) : W p l e R s m args below meth c H locs cells slots Q (F0 m pc ls st0) := by
  intro T hT X
  rcases hr T hT X with ⟨v, st₀, t, T', L, h0, X', hL, e1, e2, hqa, st⟩ | ⟨q, st₀, t, T', L, En, ce, h0, X', hL, e1, e2, ⟨hn, hrep, hF⟩, hce, hcv, hcl, st⟩
  · exact (hQ _ _ _ hqa).elim
  · subst hn
    obtain ⟨hz, hk⟩ := hF
    rw [h0] at hz hk
    obtain ⟨t2, a1, b1⟩ := kx ce q T'.heap (locs ++ L) (by rw [e1]; exact hrep)
      ⟨Nat.le_trans hS.1 (by rw [e1]; exact hz), fun q h1 h2 => by rw [e1, hk q (Nat.lt_of_lt_of_le h1 hS.1) h2]; exact hS.2.1 q h1 h2, fun q hq => by
        rcases List.mem_append.mp hq with h | h
        · exact hS.2.2 q h
        · exact hL q h⟩ (by rw [e1]; exact hz) (fun q h1 h2 => by rw [e1]; exact hk q h1 h2) (by rw [e1]; exact hce) hcv hcl T' rfl X'
    exact ⟨t2, st.trans a1, b1⟩
theorem fx_thrv {own : String} {cc : ByteArray} {nL : Nat} {Ts : List Cond} (S : CallFix p m c cc nL s args Ts own) (hT : ∀ w ∈ ux_good, w ∈ Ts) (hts : ∀ w ∈ Ts, w.before args s = true) (hK : ux_K E s s.heap) {y2 : ux_Y} {i k pp p1 p2 ci : Nat} {q : Nat × Nat × Nat} {As : List ux_V} {name : String}
    (hk : (parseMethodDescriptor y2.1.desc).map (fun d => d.parameters.length) = some k) (hw : lw_tbl[pp]? = some (.methodLink own i y2.1)) (hw1 : lw_tbl[p1]? = some (.instanceMethod y2.1)) (hw2 : lw_tbl[p2]? = some (.selects y2.1.cls y2.1 y2.1)) (hMO : ux_MO y2)
    (hdq : ux_dom q.1 q.2.1 q.2.2 = true) (h5 : q.2.1 % 8 = 5) (hn : ux_n q.2.1 = ci) (hci : ci < 7) (hcl : ux_rM ci = y2.1.cls) (hAs : As.length = k) (hcat : (rest.map fun v => v.category).sum ≤ 8) (hM : fx_Met l E y2 d (.inr (.inr q) :: As) M name) (hfr : d + 1 ≤ R.frames ∧ 60 * d + 360 ≤ R.locals) (hce : cells + 1 ≤ R.cells ∧ slots + 6 ≤ R.slots)
    (hRep : ux_Rep E M H) (hVS : va_S (ux_A E) s.heap H locs) (hls : ls.size = nL) (hd : decode cc pc = .ok (.invokevirtual i, 3))
    (kx : ∀ (ce : Cell) (q9 : Addr) (H1 : Heap) (locs1 : List Loc), ux_Rep E M H1 → va_S (ux_A E) s.heap H1 locs1 → H.size ≤ H1.size → (∀ q, q < H.size → ¬ ux_A E q → H1[q]? = H[q]?) → H1[q9]? = some ce → ce.vm = .none → s.vm.findClass name = some ce.cls → vx_W p l e R s m args below meth c H1 locs1 (cells + 1) (slots + 6) Q (F0 m pc ls rest) q9) :
    W p l e R s m args below meth c H locs cells slots Q (F0 m pc ls ((As.map (ux_rho E)).reverse ++ .ref (E.1 q.1 q.2.1 q.2.2) :: rest)) := by
  obtain ⟨m1, m2, m3, m4, m5⟩ := hMO
  have hroom : (fx_room d).frames + 1 ≤ R.frames ∧ 8 + (y2.2.2.1 + 11) + (fx_room d).locals ≤ R.locals := ⟨hfr.1, by show 8 + (y2.2.2.1 + 11) + (60 * d + 300) ≤ R.locals; omega⟩
  have hrec := fx_recv hK hRep hdq h5 hn hci
  rw [hcl] at hrec
  exact fx_run (fun _ _ _ z => z) (vx_runV (As := As.map (ux_rho E)) S hM (cwV k hts (fx_goodV hT hw hw1 hw2 m1 m3 (p3 := 0) (p4 := 0)) rfl rfl rfl ⟨rfl, m4.1, m4.2, hk⟩ hroom) ⟨ux_blind E _ M, hrec, fun U hU hW => ⟨rfl, by rw [hU]; exact hRep, ux_K_warm hK hW hVS hU⟩⟩ rfl (by rw [List.length_map]; exact hAs) hls rfl (lv_room hcat) hd hce) hVS kx
theorem fx_thrs {own : String} {cc : ByteArray} {nL : Nat} {Ts : List Cond} (S : CallFix p m c cc nL s args Ts own) (hT : ∀ w ∈ ux_good, w ∈ Ts) (hts : ∀ w ∈ Ts, w.before args s = true) (hK : ux_K E s s.heap) {y2 : ux_Y} {i k pp p1 : Nat} {As : List ux_V} {name : String}
    (hk : (parseMethodDescriptor y2.1.desc).map (fun d => d.parameters.length) = some k) (hw : lw_tbl[pp]? = some (.methodLink own i y2.1)) (hw1 : lw_tbl[p1]? = some (.static y2.1)) (hMO : ux_MO y2)
    (hAs : As.length = k) (hcat : (rest.map fun v => v.category).sum ≤ 8) (hM : fx_Met l E y2 d As M name) (hfr : d + 1 ≤ R.frames ∧ 60 * d + 360 ≤ R.locals) (hce : cells + 1 ≤ R.cells ∧ slots + 6 ≤ R.slots)
    (hRep : ux_Rep E M H) (hVS : va_S (ux_A E) s.heap H locs) (hls : ls.size = nL) (hd : decode cc pc = .ok (.invokestatic i, 3))
    (kx : ∀ (ce : Cell) (q9 : Addr) (H1 : Heap) (locs1 : List Loc), ux_Rep E M H1 → va_S (ux_A E) s.heap H1 locs1 → H.size ≤ H1.size → (∀ q, q < H.size → ¬ ux_A E q → H1[q]? = H[q]?) → H1[q9]? = some ce → ce.vm = .none → s.vm.findClass name = some ce.cls → vx_W p l e R s m args below meth c H1 locs1 (cells + 1) (slots + 6) Q (F0 m pc ls rest) q9) :
    W p l e R s m args below meth c H locs cells slots Q (F0 m pc ls ((As.map (ux_rho E)).reverse ++ rest)) := by
  obtain ⟨m1, m2, m3, m4, m5⟩ := hMO
  have hroom : (fx_room d).frames + 1 ≤ R.frames ∧ 8 + (y2.2.2.1 + 11) + (fx_room d).locals ≤ R.locals := ⟨hfr.1, by show 8 + (y2.2.2.1 + 11) + (60 * d + 300) ≤ R.locals; omega⟩
  exact fx_run (fun _ _ _ z => z) (vx_runS (As := As.map (ux_rho E)) S hM (va_cwS k hts (fx_goodS hT hw hw1 m1 m3) rfl rfl rfl ⟨m4.1, m4.2, hk⟩ hroom) ⟨ux_blind E _ M, fun U hU hW => ⟨rfl, by rw [hU]; exact hRep, ux_K_warm hK hW hVS hU⟩⟩ rfl (by rw [List.length_map]; exact hAs) hls rfl (lv_room hcat) hd hce) hVS kx
end FXB
theorem fx_w93 : lw_tbl[949]? = some (.methodLink "ServiceManager" 75 y_93.1) := by decide +kernel
theorem fx_i93 : lw_tbl[951]? = some (.instanceMethod y_93.1) := by decide +kernel
theorem fx_s93 : lw_tbl[70]? = some (.selects "ServiceManager" y_93.1 y_93.1) := by decide +kernel
theorem fx_w96 : lw_tbl[1034]? = some (.methodLink "ServiceManager" 88 y_96.1) := by decide +kernel
theorem fx_t96 : lw_tbl[1035]? = some (.static y_96.1) := by decide +kernel
theorem fx_sub {y : ux_Y} : ∀ w ∈ ux_good, w ∈ ux_ws y := fun w h => List.mem_cons_of_mem _ h
section FXC
variable {p : Program} {l : Launch} {E : ux_E} {e : Env} {s : State} {m : MethodId} {args : Array Value} {below : List Frame} {meth : Method} {c : Code} {H : Heap} {locs : List Loc} {Q : State → Prop} {M : ux_M} {pc : Nat} {ls : Array Slot} {rest : List Value} {y : ux_Y} {x a b : Int32}
/-- a check is passed -/
theorem fx_Uok (hS : ux_SpecOK l E ux_chs) (G : ux_G l E y p s m args meth c) (hy : y.1.cls = "ServiceManager") (hx : z_iu M x) (hRep : ux_Rep E M H) (hVS : va_S (ux_A E) s.heap H locs) (hls : ls.size = y.2.2.1) (hd : decode y.2.1 pc = .ok (.invokevirtual 75, 3))
    (kk : ∀ (H1 : Heap) (locs1 : List Loc), ux_Rep E M H1 → va_S (ux_A E) s.heap H1 locs1 → W p l e (fx_room 10) s m args below meth c H1 locs1 0 0 Q (F0 m (pc + 3) ls [])) :
    W p l e (fx_room 10) s m args below meth c H locs 0 0 Q (F0 m pc ls [.int x, .ref (E.1 4 655365 0)]) := by
  refine fx_callv (d := 0) (k := 1) (y2 := y_93) (q := (4, 655365, 0)) (ci := 0) (As := [.inl x]) (rest := []) (own := y.1.cls) (QE := ux_CV (fun M' => M' = M)) ⟨G.1, G.2.1, G.2.2.1, G.2.2.2.1, G.2.2.2.2.1⟩ fx_sub G.2.2.2.2.1 G.2.2.2.2.2.1 (by decide +kernel) (by rw [hy]; exact fx_w93) fx_i93 fx_s93 (by decide +kernel) (by decide) rfl (by decide) rfl rfl (fun v hv => by rw [List.mem_singleton.mp hv]; trivial) (Nat.le_of_ble_eq_true rfl)
    (sf_93 hS (d := 0) x M (z_p93 hx) rfl) ⟨Nat.le_of_ble_eq_true rfl, Nat.le_of_ble_eq_true rfl⟩ ⟨Nat.zero_le _, Nat.zero_le _⟩ hRep hVS hls hd (fun r M' H1 locs1 hq hR1 hS1 _ _ => ?_)
  obtain ⟨rfl, rfl⟩ := hq
  exact kk H1 locs1 hR1 hS1
theorem fx_Rok (hS : ux_SpecOK l E ux_chs) (G : ux_G l E y p s m args meth c) (hy : y.1.cls = "ServiceManager") (hx : z_rg x a b) (hRep : ux_Rep E M H) (hVS : va_S (ux_A E) s.heap H locs) (hls : ls.size = y.2.2.1) (hd : decode y.2.1 pc = .ok (.invokestatic 88, 3))
    (kk : ∀ (H1 : Heap) (locs1 : List Loc), ux_Rep E M H1 → va_S (ux_A E) s.heap H1 locs1 → W p l e (fx_room 10) s m args below meth c H1 locs1 0 0 Q (F0 m (pc + 3) ls [])) :
    W p l e (fx_room 10) s m args below meth c H locs 0 0 Q (F0 m pc ls [.int b, .int a, .int x]) := by
  refine fx_calls (d := 0) (k := 3) (y2 := y_96) (As := [.inl x, .inl a, .inl b]) (rest := []) (own := y.1.cls) (QE := ux_CV (fun M' => M' = M)) ⟨G.1, G.2.1, G.2.2.1, G.2.2.2.1, G.2.2.2.2.1⟩ fx_sub G.2.2.2.2.1 G.2.2.2.2.2.1 (by decide +kernel) (by rw [hy]; exact fx_w96) fx_t96 rfl (fun v hv => by
      simp only [List.mem_cons, List.not_mem_nil, or_false] at hv
      rcases hv with rfl | rfl | rfl <;> trivial) (Nat.le_of_ble_eq_true rfl)
    (sf_96 hS (d := 0) x a b M (z_p96 hx) rfl) ⟨Nat.le_of_ble_eq_true rfl, Nat.le_of_ble_eq_true rfl⟩ ⟨Nat.zero_le _, Nat.zero_le _⟩ hRep hVS hls hd (fun r M' H1 locs1 hq hR1 hS1 _ _ => ?_)
  obtain ⟨rfl, rfl⟩ := hq
  exact kk H1 locs1 hR1 hS1
/-- a check is not passed: it goes on to the caller -/
theorem fx_Ubad (hE : ux_THok E) (hl : l.stackTraces = false) (G : ux_G l E y p s m args meth c) (hno : ∀ z ∈ c.exceptionTable.toList, False) (hy : y.1.cls = "ServiceManager") (hx : ¬ z_iu M x) (hRep : ux_Rep E M H) (hVS : va_S (ux_A E) s.heap H locs) (hls : ls.size = y.2.2.1) (hd : decode y.2.1 pc = .ok (.invokevirtual 75, 3)) {Qc : Array Value → State → Outcome → State → Prop} :
    W p l e (fx_room 10) s m args below meth c H locs 0 0 (vx_MQ below Qc (fx_X E M fx_IO) args s 1 6 (ux_A E)) (F0 m pc ls [.int x, .ref (E.1 4 655365 0)]) := by
  refine fx_thrv (d := 8) (k := 1) (y2 := y_93) (q := (4, 655365, 0)) (ci := 0) (As := [.inl x]) (rest := []) (own := y.1.cls) ⟨G.1, G.2.1, G.2.2.1, G.2.2.2.1, G.2.2.2.2.1⟩ fx_sub G.2.2.2.2.1 G.2.2.2.2.2.1 (by decide +kernel) (by rw [hy]; exact fx_w93) fx_i93 fx_s93 mo_93 (by decide +kernel) (by decide) rfl (by decide) rfl rfl (Nat.le_of_ble_eq_true rfl)
    (cx_93 hE hl hx) ⟨Nat.le_of_ble_eq_true rfl, Nat.le_of_ble_eq_true rfl⟩ ⟨Nat.le_of_ble_eq_true rfl, Nat.le_of_ble_eq_true rfl⟩ hRep hVS hls hd (fun ce q9 H1 locs1 hR1 hS1 _ _ h1 h2 h3 => ?_)
  exact vx_out (fun z hz => (hno z hz).elim) G.2.2.2.2.2.2.1 h1 h2 h3 (fun t ht _ => ⟨rfl, by rw [ht]; exact hR1, hS1.F ht⟩) hS1.2.2 (Nat.le_refl _) (Nat.le_refl _)
theorem fx_Rbad (hE : ux_THok E) (hl : l.stackTraces = false) (G : ux_G l E y p s m args meth c) (hno : ∀ z ∈ c.exceptionTable.toList, False) (hy : y.1.cls = "ServiceManager") (hx : ¬ z_rg x a b) (hRep : ux_Rep E M H) (hVS : va_S (ux_A E) s.heap H locs) (hls : ls.size = y.2.2.1) (hd : decode y.2.1 pc = .ok (.invokestatic 88, 3)) {Qc : Array Value → State → Outcome → State → Prop} :
    W p l e (fx_room 10) s m args below meth c H locs 0 0 (vx_MQ below Qc (fx_X E M fx_IA) args s 1 6 (ux_A E)) (F0 m pc ls [.int b, .int a, .int x]) := by
  refine fx_thrs (d := 8) (k := 3) (y2 := y_96) (As := [.inl x, .inl a, .inl b]) (rest := []) (own := y.1.cls) ⟨G.1, G.2.1, G.2.2.1, G.2.2.2.1, G.2.2.2.2.1⟩ fx_sub G.2.2.2.2.1 G.2.2.2.2.2.1 (by decide +kernel) (by rw [hy]; exact fx_w96) fx_t96 mo_96 rfl (Nat.le_of_ble_eq_true rfl)
    (cx_96 hE hl hx) ⟨Nat.le_of_ble_eq_true rfl, Nat.le_of_ble_eq_true rfl⟩ ⟨Nat.le_of_ble_eq_true rfl, Nat.le_of_ble_eq_true rfl⟩ hRep hVS hls hd (fun ce q9 H1 locs1 hR1 hS1 _ _ h1 h2 h3 => ?_)
  exact vx_out (fun z hz => (hno z hz).elim) G.2.2.2.2.2.2.1 h1 h2 h3 (fun t ht _ => ⟨rfl, by rw [ht]; exact hR1, hS1.F ht⟩) hS1.2.2 (Nat.le_refl _) (Nat.le_refl _)
end FXC
theorem dx_92_0 : decode y_92.2.1 0 = .ok (.aload_n 0, 1) := by decide +kernel
theorem dx_92_1 : decode y_92.2.1 1 = .ok (.iload_n 1, 1) := by decide +kernel
theorem dx_92_2 : decode y_92.2.1 2 = .ok (.invokevirtual 75, 3) := by decide +kernel
theorem dx_94_0 : decode y_94.2.1 0 = .ok (.aload_n 0, 1) := by decide +kernel
theorem dx_94_1 : decode y_94.2.1 1 = .ok (.iload_n 1, 1) := by decide +kernel
theorem dx_94_2 : decode y_94.2.1 2 = .ok (.invokevirtual 75, 3) := by decide +kernel
theorem dx_95_0 : decode y_95.2.1 0 = .ok (.aload_n 0, 1) := by decide +kernel
theorem dx_95_1 : decode y_95.2.1 1 = .ok (.iload_n 1, 1) := by decide +kernel
theorem dx_95_2 : decode y_95.2.1 2 = .ok (.invokevirtual 75, 3) := by decide +kernel
theorem dx_95_5 : decode y_95.2.1 5 = .ok (.iload_n 2, 1) := by decide +kernel
theorem dx_95_6 : decode y_95.2.1 6 = .ok (.iconst 0, 1) := by decide +kernel
theorem dx_95_7 : decode y_95.2.1 7 = .ok (.bipush 9, 2) := by decide +kernel
theorem dx_95_9 : decode y_95.2.1 9 = .ok (.invokestatic 88, 3) := by decide +kernel
theorem dx_97_0 : decode y_97.2.1 0 = .ok (.aload_n 0, 1) := by decide +kernel
theorem dx_97_1 : decode y_97.2.1 1 = .ok (.iload_n 1, 1) := by decide +kernel
theorem dx_97_2 : decode y_97.2.1 2 = .ok (.invokevirtual 75, 3) := by decide +kernel
theorem dx_97_5 : decode y_97.2.1 5 = .ok (.iload_n 2, 1) := by decide +kernel
theorem dx_97_6 : decode y_97.2.1 6 = .ok (.iconst 0, 1) := by decide +kernel
theorem dx_97_7 : decode y_97.2.1 7 = .ok (.iconst 5, 1) := by decide +kernel
theorem dx_97_8 : decode y_97.2.1 8 = .ok (.invokestatic 88, 3) := by decide +kernel
theorem dx_98_0 : decode y_98.2.1 0 = .ok (.aload_n 0, 1) := by decide +kernel
theorem dx_98_1 : decode y_98.2.1 1 = .ok (.iload_n 1, 1) := by decide +kernel
theorem dx_98_2 : decode y_98.2.1 2 = .ok (.invokevirtual 75, 3) := by decide +kernel
theorem dx_99_0 : decode y_99.2.1 0 = .ok (.aload_n 0, 1) := by decide +kernel
theorem dx_99_1 : decode y_99.2.1 1 = .ok (.iload_n 1, 1) := by decide +kernel
theorem dx_99_2 : decode y_99.2.1 2 = .ok (.invokevirtual 75, 3) := by decide +kernel
theorem dx_100_0 : decode y_100.2.1 0 = .ok (.aload_n 0, 1) := by decide +kernel
theorem dx_100_1 : decode y_100.2.1 1 = .ok (.iload_n 1, 1) := by decide +kernel
theorem dx_100_2 : decode y_100.2.1 2 = .ok (.invokevirtual 75, 3) := by decide +kernel
theorem dx_101_0 : decode y_101.2.1 0 = .ok (.aload_n 0, 1) := by decide +kernel
theorem dx_101_1 : decode y_101.2.1 1 = .ok (.iload_n 1, 1) := by decide +kernel
theorem dx_101_2 : decode y_101.2.1 2 = .ok (.invokevirtual 75, 3) := by decide +kernel
theorem dx_102_0 : decode y_102.2.1 0 = .ok (.aload_n 0, 1) := by decide +kernel
theorem dx_102_1 : decode y_102.2.1 1 = .ok (.iload_n 1, 1) := by decide +kernel
theorem dx_102_2 : decode y_102.2.1 2 = .ok (.invokevirtual 75, 3) := by decide +kernel
theorem dx_102_5 : decode y_102.2.1 5 = .ok (.iload_n 2, 1) := by decide +kernel
theorem dx_102_6 : decode y_102.2.1 6 = .ok (.iconst 1, 1) := by decide +kernel
theorem dx_102_7 : decode y_102.2.1 7 = .ok (.iconst 3, 1) := by decide +kernel
theorem dx_102_8 : decode y_102.2.1 8 = .ok (.invokestatic 88, 3) := by decide +kernel
theorem dx_102_11 : decode y_102.2.1 11 = .ok (.iload_n 3, 1) := by decide +kernel
theorem dx_102_12 : decode y_102.2.1 12 = .ok (.iconst 0, 1) := by decide +kernel
theorem dx_102_13 : decode y_102.2.1 13 = .ok (.iconst 4, 1) := by decide +kernel
theorem dx_102_14 : decode y_102.2.1 14 = .ok (.invokestatic 88, 3) := by decide +kernel
theorem dx_104_0 : decode y_104.2.1 0 = .ok (.aload_n 0, 1) := by decide +kernel
theorem dx_104_1 : decode y_104.2.1 1 = .ok (.iload_n 1, 1) := by decide +kernel
theorem dx_104_2 : decode y_104.2.1 2 = .ok (.invokevirtual 75, 3) := by decide +kernel
theorem dx_104_5 : decode y_104.2.1 5 = .ok (.iload_n 2, 1) := by decide +kernel
theorem dx_104_6 : decode y_104.2.1 6 = .ok (.iconst 1, 1) := by decide +kernel
theorem dx_104_7 : decode y_104.2.1 7 = .ok (.iconst 3, 1) := by decide +kernel
theorem dx_104_8 : decode y_104.2.1 8 = .ok (.invokestatic 88, 3) := by decide +kernel
theorem dx_108_0 : decode y_108.2.1 0 = .ok (.aload_n 0, 1) := by decide +kernel
theorem dx_108_1 : decode y_108.2.1 1 = .ok (.iload_n 1, 1) := by decide +kernel
theorem dx_108_2 : decode y_108.2.1 2 = .ok (.invokevirtual 75, 3) := by decide +kernel
theorem dx_110_0 : decode y_110.2.1 0 = .ok (.aload_n 0, 1) := by decide +kernel
theorem dx_110_1 : decode y_110.2.1 1 = .ok (.iload_n 1, 1) := by decide +kernel
theorem dx_110_2 : decode y_110.2.1 2 = .ok (.invokevirtual 75, 3) := by decide +kernel
theorem dx_111_0 : decode y_111.2.1 0 = .ok (.aload_n 0, 1) := by decide +kernel
theorem dx_111_1 : decode y_111.2.1 1 = .ok (.iload_n 1, 1) := by decide +kernel
theorem dx_111_2 : decode y_111.2.1 2 = .ok (.invokevirtual 75, 3) := by decide +kernel
theorem dx_112_0 : decode y_112.2.1 0 = .ok (.aload_n 0, 1) := by decide +kernel
theorem dx_112_1 : decode y_112.2.1 1 = .ok (.iload_n 1, 1) := by decide +kernel
theorem dx_112_2 : decode y_112.2.1 2 = .ok (.invokevirtual 75, 3) := by decide +kernel
theorem dx_113_0 : decode y_113.2.1 0 = .ok (.aload_n 0, 1) := by decide +kernel
theorem dx_113_1 : decode y_113.2.1 1 = .ok (.iload_n 1, 1) := by decide +kernel
theorem dx_113_2 : decode y_113.2.1 2 = .ok (.invokevirtual 75, 3) := by decide +kernel
theorem dx_114_0 : decode y_114.2.1 0 = .ok (.iload_n 1, 1) := by decide +kernel
theorem dx_114_1 : decode y_114.2.1 1 = .ok (.iconst 1, 1) := by decide +kernel
theorem dx_114_2 : decode y_114.2.1 2 = .ok (.sipush 1000, 3) := by decide +kernel
theorem dx_114_5 : decode y_114.2.1 5 = .ok (.invokestatic 88, 3) := by decide +kernel
theorem dx_115_0 : decode y_115.2.1 0 = .ok (.aload_n 0, 1) := by decide +kernel
theorem dx_115_1 : decode y_115.2.1 1 = .ok (.iload_n 1, 1) := by decide +kernel
theorem dx_115_2 : decode y_115.2.1 2 = .ok (.invokevirtual 75, 3) := by decide +kernel
theorem dx_115_5 : decode y_115.2.1 5 = .ok (.iload_n 2, 1) := by decide +kernel
theorem dx_115_6 : decode y_115.2.1 6 = .ok (.iconst 1, 1) := by decide +kernel
theorem dx_115_7 : decode y_115.2.1 7 = .ok (.bipush 100, 2) := by decide +kernel
theorem dx_115_9 : decode y_115.2.1 9 = .ok (.invokestatic 88, 3) := by decide +kernel
theorem dx_118_0 : decode y_118.2.1 0 = .ok (.aload_n 0, 1) := by decide +kernel
theorem dx_118_1 : decode y_118.2.1 1 = .ok (.iload_n 1, 1) := by decide +kernel
theorem dx_118_2 : decode y_118.2.1 2 = .ok (.invokevirtual 75, 3) := by decide +kernel
theorem dx_118_5 : decode y_118.2.1 5 = .ok (.iload_n 2, 1) := by decide +kernel
theorem dx_118_6 : decode y_118.2.1 6 = .ok (.iconst 0, 1) := by decide +kernel
theorem dx_118_7 : decode y_118.2.1 7 = .ok (.sipush 255, 3) := by decide +kernel
theorem dx_118_10 : decode y_118.2.1 10 = .ok (.invokestatic 88, 3) := by decide +kernel
theorem dx_119_0 : decode y_119.2.1 0 = .ok (.aload_n 0, 1) := by decide +kernel
theorem dx_119_1 : decode y_119.2.1 1 = .ok (.iload_n 1, 1) := by decide +kernel
theorem dx_119_2 : decode y_119.2.1 2 = .ok (.invokevirtual 75, 3) := by decide +kernel
theorem dx_121_0 : decode y_121.2.1 0 = .ok (.aload_n 0, 1) := by decide +kernel
theorem dx_121_1 : decode y_121.2.1 1 = .ok (.iload_n 1, 1) := by decide +kernel
theorem dx_121_2 : decode y_121.2.1 2 = .ok (.invokevirtual 75, 3) := by decide +kernel
theorem dx_122_0 : decode y_122.2.1 0 = .ok (.aload_n 0, 1) := by decide +kernel
theorem dx_122_1 : decode y_122.2.1 1 = .ok (.iload_n 1, 1) := by decide +kernel
theorem dx_122_2 : decode y_122.2.1 2 = .ok (.invokevirtual 75, 3) := by decide +kernel
theorem dx_123_0 : decode y_123.2.1 0 = .ok (.iload_n 1, 1) := by decide +kernel
theorem dx_123_1 : decode y_123.2.1 1 = .ok (.iconst 0, 1) := by decide +kernel
theorem dx_123_2 : decode y_123.2.1 2 = .ok (.iconst 5, 1) := by decide +kernel
theorem dx_123_3 : decode y_123.2.1 3 = .ok (.invokestatic 88, 3) := by decide +kernel
theorem dx_124_0 : decode y_124.2.1 0 = .ok (.aload_n 0, 1) := by decide +kernel
theorem dx_124_1 : decode y_124.2.1 1 = .ok (.iload_n 1, 1) := by decide +kernel
theorem dx_124_2 : decode y_124.2.1 2 = .ok (.invokevirtual 75, 3) := by decide +kernel
theorem dx_125_0 : decode y_125.2.1 0 = .ok (.aload_n 0, 1) := by decide +kernel
theorem dx_125_1 : decode y_125.2.1 1 = .ok (.iload_n 1, 1) := by decide +kernel
theorem dx_125_2 : decode y_125.2.1 2 = .ok (.invokevirtual 75, 3) := by decide +kernel
theorem dx_126_0 : decode y_126.2.1 0 = .ok (.aload_n 0, 1) := by decide +kernel
theorem dx_126_1 : decode y_126.2.1 1 = .ok (.iload_n 1, 1) := by decide +kernel
theorem dx_126_2 : decode y_126.2.1 2 = .ok (.invokevirtual 75, 3) := by decide +kernel
theorem dx_127_0 : decode y_127.2.1 0 = .ok (.aload_n 0, 1) := by decide +kernel
theorem dx_127_1 : decode y_127.2.1 1 = .ok (.iload_n 1, 1) := by decide +kernel
theorem dx_127_2 : decode y_127.2.1 2 = .ok (.invokevirtual 75, 3) := by decide +kernel
theorem dx_128_0 : decode y_128.2.1 0 = .ok (.aload_n 0, 1) := by decide +kernel
theorem dx_128_1 : decode y_128.2.1 1 = .ok (.iload_n 1, 1) := by decide +kernel
theorem dx_128_2 : decode y_128.2.1 2 = .ok (.invokevirtual 75, 3) := by decide +kernel
theorem dx_129_0 : decode y_129.2.1 0 = .ok (.aload_n 0, 1) := by decide +kernel
theorem dx_129_1 : decode y_129.2.1 1 = .ok (.iload_n 1, 1) := by decide +kernel
theorem dx_129_2 : decode y_129.2.1 2 = .ok (.invokevirtual 75, 3) := by decide +kernel
theorem dx_130_0 : decode y_130.2.1 0 = .ok (.aload_n 0, 1) := by decide +kernel
theorem dx_130_1 : decode y_130.2.1 1 = .ok (.iload_n 1, 1) := by decide +kernel
theorem dx_130_2 : decode y_130.2.1 2 = .ok (.invokevirtual 75, 3) := by decide +kernel
theorem dx_131_0 : decode y_131.2.1 0 = .ok (.aload_n 0, 1) := by decide +kernel
theorem dx_131_1 : decode y_131.2.1 1 = .ok (.iload_n 1, 1) := by decide +kernel
theorem dx_131_2 : decode y_131.2.1 2 = .ok (.invokevirtual 75, 3) := by decide +kernel
theorem dx_132_0 : decode y_132.2.1 0 = .ok (.aload_n 0, 1) := by decide +kernel
theorem dx_132_1 : decode y_132.2.1 1 = .ok (.iload_n 1, 1) := by decide +kernel
theorem dx_132_2 : decode y_132.2.1 2 = .ok (.invokevirtual 75, 3) := by decide +kernel
theorem dx_133_0 : decode y_133.2.1 0 = .ok (.aload_n 0, 1) := by decide +kernel
theorem dx_133_1 : decode y_133.2.1 1 = .ok (.iload_n 1, 1) := by decide +kernel
theorem dx_133_2 : decode y_133.2.1 2 = .ok (.invokevirtual 75, 3) := by decide +kernel
theorem dx_134_0 : decode y_134.2.1 0 = .ok (.iload_n 2, 1) := by decide +kernel
theorem dx_134_1 : decode y_134.2.1 1 = .ok (.iconst 0, 1) := by decide +kernel
theorem dx_134_2 : decode y_134.2.1 2 = .ok (.iconst 2, 1) := by decide +kernel
theorem dx_134_3 : decode y_134.2.1 3 = .ok (.invokestatic 88, 3) := by decide +kernel
theorem dx_136_0 : decode y_136.2.1 0 = .ok (.aload_n 0, 1) := by decide +kernel
theorem dx_136_1 : decode y_136.2.1 1 = .ok (.iload_n 1, 1) := by decide +kernel
theorem dx_136_2 : decode y_136.2.1 2 = .ok (.invokevirtual 75, 3) := by decide +kernel
theorem dx_137_0 : decode y_137.2.1 0 = .ok (.aload_n 0, 1) := by decide +kernel
theorem dx_137_1 : decode y_137.2.1 1 = .ok (.iload_n 1, 1) := by decide +kernel
theorem dx_137_2 : decode y_137.2.1 2 = .ok (.invokevirtual 75, 3) := by decide +kernel
theorem dx_138_0 : decode y_138.2.1 0 = .ok (.aload_n 0, 1) := by decide +kernel
theorem dx_138_1 : decode y_138.2.1 1 = .ok (.iload_n 1, 1) := by decide +kernel
theorem dx_138_2 : decode y_138.2.1 2 = .ok (.invokevirtual 75, 3) := by decide +kernel
theorem dx_139_0 : decode y_139.2.1 0 = .ok (.aload_n 0, 1) := by decide +kernel
theorem dx_139_1 : decode y_139.2.1 1 = .ok (.iload_n 1, 1) := by decide +kernel
theorem dx_139_2 : decode y_139.2.1 2 = .ok (.invokevirtual 75, 3) := by decide +kernel
theorem dx_139_5 : decode y_139.2.1 5 = .ok (.iload_n 2, 1) := by decide +kernel
theorem dx_139_6 : decode y_139.2.1 6 = .ok (.iconst 0, 1) := by decide +kernel
theorem dx_139_7 : decode y_139.2.1 7 = .ok (.sipush 1000, 3) := by decide +kernel
theorem dx_139_10 : decode y_139.2.1 10 = .ok (.invokestatic 88, 3) := by decide +kernel
theorem dx_140_0 : decode y_140.2.1 0 = .ok (.aload_n 0, 1) := by decide +kernel
theorem dx_140_1 : decode y_140.2.1 1 = .ok (.iload_n 1, 1) := by decide +kernel
theorem dx_140_2 : decode y_140.2.1 2 = .ok (.invokevirtual 75, 3) := by decide +kernel
theorem dx_140_5 : decode y_140.2.1 5 = .ok (.iload_n 2, 1) := by decide +kernel
theorem dx_140_6 : decode y_140.2.1 6 = .ok (.iconst 0, 1) := by decide +kernel
theorem dx_140_7 : decode y_140.2.1 7 = .ok (.sipush 200, 3) := by decide +kernel
theorem dx_140_10 : decode y_140.2.1 10 = .ok (.invokestatic 88, 3) := by decide +kernel
theorem dx_141_0 : decode y_141.2.1 0 = .ok (.aload_n 0, 1) := by decide +kernel
theorem dx_141_1 : decode y_141.2.1 1 = .ok (.iload_n 1, 1) := by decide +kernel
theorem dx_141_2 : decode y_141.2.1 2 = .ok (.invokevirtual 75, 3) := by decide +kernel
theorem dx_143_0 : decode y_143.2.1 0 = .ok (.iload_n 1, 1) := by decide +kernel
theorem dx_143_1 : decode y_143.2.1 1 = .ok (.iconst 0, 1) := by decide +kernel
theorem dx_143_2 : decode y_143.2.1 2 = .ok (.iconst 1, 1) := by decide +kernel
theorem dx_143_3 : decode y_143.2.1 3 = .ok (.invokestatic 88, 3) := by decide +kernel
theorem dx_144_0 : decode y_144.2.1 0 = .ok (.iload_n 1, 1) := by decide +kernel
theorem dx_144_1 : decode y_144.2.1 1 = .ok (.iconst 0, 1) := by decide +kernel
theorem dx_144_2 : decode y_144.2.1 2 = .ok (.iconst 1, 1) := by decide +kernel
theorem dx_144_3 : decode y_144.2.1 3 = .ok (.invokestatic 88, 3) := by decide +kernel
theorem tx_92_0 {l : Launch} {E : ux_E} {M : ux_M} {x1 : Int32} (hS : ux_SpecOK l E ux_chs) (hE : ux_THok E) (hl : l.stackTraces = false) (h0 : ¬ z_iu M x1) : fx_Met l E y_92 10 [aR 4 655365 0, aI x1] M fx_IO := by
  refine vx_ofW (cc := y_92.2.1) (maxL := y_92.2.2.1) (ret := y_92.2.2.2) (by decide +kernel) rfl ?_
  intro p e s m args below meth c s₁ B hml hno hv
  obtain ⟨rfl, hRep, hK⟩ := hv
  have hx := B.exec
  have hb : c.code = y_92.2.1 := B.bytes
  have G : ux_G l E y_92 p s m _ meth c := ⟨B.exec, B.bytes, hml, findClass_of_methodNamed B.named, atoms_spec (ws := ux_ws y_92) B.pre, hK, B.notSynchronized, B.returns⟩
  have hl2 := lv_entry ([.ref (E.1 4 655365 0), .int x1]) (n := 2) (Nat.le_of_ble_eq_true rfl)
  show W p l e (fx_room 10) s m _ below meth c s.heap [] 0 0 _ (entryFrame m ([.ref (E.1 4 655365 0), .int x1] : List Value).toArray 2)
  rw [lg_entry_eq]
  generalize (lg_sl ([.ref (E.1 4 655365 0), .int x1]) ++ List.replicate (2 - (lg_sl ([.ref (E.1 4 655365 0), .int x1])).length) Slot.unset).toArray = ls at hl2 ⊢
  have hl2 : lv_has ls 2 [(0, .ref (E.1 4 655365 0)), (1, .int x1)] := hl2
  have hVS : va_S (ux_A E) s.heap s.heap [] := va_S.rf
  have hRep : ux_Rep E M s.heap := hRep
  refine lv_aload_n hx hb dx_92_0 rfl (lv_at hl2 0 rfl) ?_
  refine lv_iload_n hx hb dx_92_1 rfl (lv_at hl2 1 rfl) ?_
  exact fx_Ubad hE hl G hno rfl h0 hRep hVS hl2.1 dx_92_2
theorem tx_94_0 {l : Launch} {E : ux_E} {M : ux_M} {x1 x2 : Int32} (hS : ux_SpecOK l E ux_chs) (hE : ux_THok E) (hl : l.stackTraces = false) (h0 : ¬ z_iu M x1) : fx_Met l E y_94 10 [aR 4 655365 0, aI x1, aI x2] M fx_IO := by
  refine vx_ofW (cc := y_94.2.1) (maxL := y_94.2.2.1) (ret := y_94.2.2.2) (by decide +kernel) rfl ?_
  intro p e s m args below meth c s₁ B hml hno hv
  obtain ⟨rfl, hRep, hK⟩ := hv
  have hx := B.exec
  have hb : c.code = y_94.2.1 := B.bytes
  have G : ux_G l E y_94 p s m _ meth c := ⟨B.exec, B.bytes, hml, findClass_of_methodNamed B.named, atoms_spec (ws := ux_ws y_94) B.pre, hK, B.notSynchronized, B.returns⟩
  have hl2 := lv_entry ([.ref (E.1 4 655365 0), .int x1, .int x2]) (n := 3) (Nat.le_of_ble_eq_true rfl)
  show W p l e (fx_room 10) s m _ below meth c s.heap [] 0 0 _ (entryFrame m ([.ref (E.1 4 655365 0), .int x1, .int x2] : List Value).toArray 3)
  rw [lg_entry_eq]
  generalize (lg_sl ([.ref (E.1 4 655365 0), .int x1, .int x2]) ++ List.replicate (3 - (lg_sl ([.ref (E.1 4 655365 0), .int x1, .int x2])).length) Slot.unset).toArray = ls at hl2 ⊢
  have hl2 : lv_has ls 3 [(0, .ref (E.1 4 655365 0)), (1, .int x1), (2, .int x2)] := hl2
  have hVS : va_S (ux_A E) s.heap s.heap [] := va_S.rf
  have hRep : ux_Rep E M s.heap := hRep
  refine lv_aload_n hx hb dx_94_0 rfl (lv_at hl2 0 rfl) ?_
  refine lv_iload_n hx hb dx_94_1 rfl (lv_at hl2 1 rfl) ?_
  exact fx_Ubad hE hl G hno rfl h0 hRep hVS hl2.1 dx_94_2
theorem tx_95_0 {l : Launch} {E : ux_E} {M : ux_M} {x1 x2 : Int32} (hS : ux_SpecOK l E ux_chs) (hE : ux_THok E) (hl : l.stackTraces = false) (h0 : ¬ z_iu M x1) : fx_Met l E y_95 10 [aR 4 655365 0, aI x1, aI x2] M fx_IO := by
  refine vx_ofW (cc := y_95.2.1) (maxL := y_95.2.2.1) (ret := y_95.2.2.2) (by decide +kernel) rfl ?_
  intro p e s m args below meth c s₁ B hml hno hv
  obtain ⟨rfl, hRep, hK⟩ := hv
  have hx := B.exec
  have hb : c.code = y_95.2.1 := B.bytes
  have G : ux_G l E y_95 p s m _ meth c := ⟨B.exec, B.bytes, hml, findClass_of_methodNamed B.named, atoms_spec (ws := ux_ws y_95) B.pre, hK, B.notSynchronized, B.returns⟩
  have hl2 := lv_entry ([.ref (E.1 4 655365 0), .int x1, .int x2]) (n := 3) (Nat.le_of_ble_eq_true rfl)
  show W p l e (fx_room 10) s m _ below meth c s.heap [] 0 0 _ (entryFrame m ([.ref (E.1 4 655365 0), .int x1, .int x2] : List Value).toArray 3)
  rw [lg_entry_eq]
  generalize (lg_sl ([.ref (E.1 4 655365 0), .int x1, .int x2]) ++ List.replicate (3 - (lg_sl ([.ref (E.1 4 655365 0), .int x1, .int x2])).length) Slot.unset).toArray = ls at hl2 ⊢
  have hl2 : lv_has ls 3 [(0, .ref (E.1 4 655365 0)), (1, .int x1), (2, .int x2)] := hl2
  have hVS : va_S (ux_A E) s.heap s.heap [] := va_S.rf
  have hRep : ux_Rep E M s.heap := hRep
  refine lv_aload_n hx hb dx_95_0 rfl (lv_at hl2 0 rfl) ?_
  refine lv_iload_n hx hb dx_95_1 rfl (lv_at hl2 1 rfl) ?_
  exact fx_Ubad hE hl G hno rfl h0 hRep hVS hl2.1 dx_95_2
theorem tx_95_1 {l : Launch} {E : ux_E} {M : ux_M} {x1 x2 : Int32} (hS : ux_SpecOK l E ux_chs) (hE : ux_THok E) (hl : l.stackTraces = false) (h0 : z_iu M x1) (h1 : ¬ z_rg x2 0 9) : fx_Met l E y_95 10 [aR 4 655365 0, aI x1, aI x2] M fx_IA := by
  refine vx_ofW (cc := y_95.2.1) (maxL := y_95.2.2.1) (ret := y_95.2.2.2) (by decide +kernel) rfl ?_
  intro p e s m args below meth c s₁ B hml hno hv
  obtain ⟨rfl, hRep, hK⟩ := hv
  have hx := B.exec
  have hb : c.code = y_95.2.1 := B.bytes
  have G : ux_G l E y_95 p s m _ meth c := ⟨B.exec, B.bytes, hml, findClass_of_methodNamed B.named, atoms_spec (ws := ux_ws y_95) B.pre, hK, B.notSynchronized, B.returns⟩
  have hl2 := lv_entry ([.ref (E.1 4 655365 0), .int x1, .int x2]) (n := 3) (Nat.le_of_ble_eq_true rfl)
  show W p l e (fx_room 10) s m _ below meth c s.heap [] 0 0 _ (entryFrame m ([.ref (E.1 4 655365 0), .int x1, .int x2] : List Value).toArray 3)
  rw [lg_entry_eq]
  generalize (lg_sl ([.ref (E.1 4 655365 0), .int x1, .int x2]) ++ List.replicate (3 - (lg_sl ([.ref (E.1 4 655365 0), .int x1, .int x2])).length) Slot.unset).toArray = ls at hl2 ⊢
  have hl2 : lv_has ls 3 [(0, .ref (E.1 4 655365 0)), (1, .int x1), (2, .int x2)] := hl2
  have hVS : va_S (ux_A E) s.heap s.heap [] := va_S.rf
  have hRep : ux_Rep E M s.heap := hRep
  refine lv_aload_n hx hb dx_95_0 rfl (lv_at hl2 0 rfl) ?_
  refine lv_iload_n hx hb dx_95_1 rfl (lv_at hl2 1 rfl) ?_
  refine fx_Uok hS G rfl h0 hRep hVS hl2.1 dx_95_2 (fun H1 locs1 hRep hVS => ?_)
  refine lv_iload_n hx hb dx_95_5 rfl (lv_at hl2 2 rfl) ?_
  refine lv_iconst (v := 0) hx hb dx_95_6 (by decide) ?_
  refine lv_bipush (v := 9) hx hb dx_95_7 (by decide) ?_
  exact fx_Rbad hE hl G hno rfl h1 hRep hVS hl2.1 dx_95_9
theorem tx_97_0 {l : Launch} {E : ux_E} {M : ux_M} {x1 x2 : Int32} (hS : ux_SpecOK l E ux_chs) (hE : ux_THok E) (hl : l.stackTraces = false) (h0 : ¬ z_iu M x1) : fx_Met l E y_97 10 [aR 4 655365 0, aI x1, aI x2] M fx_IO := by
  refine vx_ofW (cc := y_97.2.1) (maxL := y_97.2.2.1) (ret := y_97.2.2.2) (by decide +kernel) rfl ?_
  intro p e s m args below meth c s₁ B hml hno hv
  obtain ⟨rfl, hRep, hK⟩ := hv
  have hx := B.exec
  have hb : c.code = y_97.2.1 := B.bytes
  have G : ux_G l E y_97 p s m _ meth c := ⟨B.exec, B.bytes, hml, findClass_of_methodNamed B.named, atoms_spec (ws := ux_ws y_97) B.pre, hK, B.notSynchronized, B.returns⟩
  have hl2 := lv_entry ([.ref (E.1 4 655365 0), .int x1, .int x2]) (n := 3) (Nat.le_of_ble_eq_true rfl)
  show W p l e (fx_room 10) s m _ below meth c s.heap [] 0 0 _ (entryFrame m ([.ref (E.1 4 655365 0), .int x1, .int x2] : List Value).toArray 3)
  rw [lg_entry_eq]
  generalize (lg_sl ([.ref (E.1 4 655365 0), .int x1, .int x2]) ++ List.replicate (3 - (lg_sl ([.ref (E.1 4 655365 0), .int x1, .int x2])).length) Slot.unset).toArray = ls at hl2 ⊢
  have hl2 : lv_has ls 3 [(0, .ref (E.1 4 655365 0)), (1, .int x1), (2, .int x2)] := hl2
  have hVS : va_S (ux_A E) s.heap s.heap [] := va_S.rf
  have hRep : ux_Rep E M s.heap := hRep
  refine lv_aload_n hx hb dx_97_0 rfl (lv_at hl2 0 rfl) ?_
  refine lv_iload_n hx hb dx_97_1 rfl (lv_at hl2 1 rfl) ?_
  exact fx_Ubad hE hl G hno rfl h0 hRep hVS hl2.1 dx_97_2
theorem tx_97_1 {l : Launch} {E : ux_E} {M : ux_M} {x1 x2 : Int32} (hS : ux_SpecOK l E ux_chs) (hE : ux_THok E) (hl : l.stackTraces = false) (h0 : z_iu M x1) (h1 : ¬ z_rg x2 0 5) : fx_Met l E y_97 10 [aR 4 655365 0, aI x1, aI x2] M fx_IA := by
  refine vx_ofW (cc := y_97.2.1) (maxL := y_97.2.2.1) (ret := y_97.2.2.2) (by decide +kernel) rfl ?_
  intro p e s m args below meth c s₁ B hml hno hv
  obtain ⟨rfl, hRep, hK⟩ := hv
  have hx := B.exec
  have hb : c.code = y_97.2.1 := B.bytes
  have G : ux_G l E y_97 p s m _ meth c := ⟨B.exec, B.bytes, hml, findClass_of_methodNamed B.named, atoms_spec (ws := ux_ws y_97) B.pre, hK, B.notSynchronized, B.returns⟩
  have hl2 := lv_entry ([.ref (E.1 4 655365 0), .int x1, .int x2]) (n := 3) (Nat.le_of_ble_eq_true rfl)
  show W p l e (fx_room 10) s m _ below meth c s.heap [] 0 0 _ (entryFrame m ([.ref (E.1 4 655365 0), .int x1, .int x2] : List Value).toArray 3)
  rw [lg_entry_eq]
  generalize (lg_sl ([.ref (E.1 4 655365 0), .int x1, .int x2]) ++ List.replicate (3 - (lg_sl ([.ref (E.1 4 655365 0), .int x1, .int x2])).length) Slot.unset).toArray = ls at hl2 ⊢
  have hl2 : lv_has ls 3 [(0, .ref (E.1 4 655365 0)), (1, .int x1), (2, .int x2)] := hl2
  have hVS : va_S (ux_A E) s.heap s.heap [] := va_S.rf
  have hRep : ux_Rep E M s.heap := hRep
  refine lv_aload_n hx hb dx_97_0 rfl (lv_at hl2 0 rfl) ?_
  refine lv_iload_n hx hb dx_97_1 rfl (lv_at hl2 1 rfl) ?_
  refine fx_Uok hS G rfl h0 hRep hVS hl2.1 dx_97_2 (fun H1 locs1 hRep hVS => ?_)
  refine lv_iload_n hx hb dx_97_5 rfl (lv_at hl2 2 rfl) ?_
  refine lv_iconst (v := 0) hx hb dx_97_6 (by decide) ?_
  refine lv_iconst (v := 5) hx hb dx_97_7 (by decide) ?_
  exact fx_Rbad hE hl G hno rfl h1 hRep hVS hl2.1 dx_97_8
theorem tx_98_0 {l : Launch} {E : ux_E} {M : ux_M} {x1 : Int32} (hS : ux_SpecOK l E ux_chs) (hE : ux_THok E) (hl : l.stackTraces = false) (h0 : ¬ z_iu M x1) : fx_Met l E y_98 10 [aR 4 655365 0, aI x1] M fx_IO := by
  refine vx_ofW (cc := y_98.2.1) (maxL := y_98.2.2.1) (ret := y_98.2.2.2) (by decide +kernel) rfl ?_
  intro p e s m args below meth c s₁ B hml hno hv
  obtain ⟨rfl, hRep, hK⟩ := hv
  have hx := B.exec
  have hb : c.code = y_98.2.1 := B.bytes
  have G : ux_G l E y_98 p s m _ meth c := ⟨B.exec, B.bytes, hml, findClass_of_methodNamed B.named, atoms_spec (ws := ux_ws y_98) B.pre, hK, B.notSynchronized, B.returns⟩
  have hl2 := lv_entry ([.ref (E.1 4 655365 0), .int x1]) (n := 2) (Nat.le_of_ble_eq_true rfl)
  show W p l e (fx_room 10) s m _ below meth c s.heap [] 0 0 _ (entryFrame m ([.ref (E.1 4 655365 0), .int x1] : List Value).toArray 2)
  rw [lg_entry_eq]
  generalize (lg_sl ([.ref (E.1 4 655365 0), .int x1]) ++ List.replicate (2 - (lg_sl ([.ref (E.1 4 655365 0), .int x1])).length) Slot.unset).toArray = ls at hl2 ⊢
  have hl2 : lv_has ls 2 [(0, .ref (E.1 4 655365 0)), (1, .int x1)] := hl2
  have hVS : va_S (ux_A E) s.heap s.heap [] := va_S.rf
  have hRep : ux_Rep E M s.heap := hRep
  refine lv_aload_n hx hb dx_98_0 rfl (lv_at hl2 0 rfl) ?_
  refine lv_iload_n hx hb dx_98_1 rfl (lv_at hl2 1 rfl) ?_
  exact fx_Ubad hE hl G hno rfl h0 hRep hVS hl2.1 dx_98_2
theorem tx_99_0 {l : Launch} {E : ux_E} {M : ux_M} {x1 x2 : Int32} (hS : ux_SpecOK l E ux_chs) (hE : ux_THok E) (hl : l.stackTraces = false) (h0 : ¬ z_iu M x1) : fx_Met l E y_99 10 [aR 4 655365 0, aI x1, aI x2] M fx_IO := by
  refine vx_ofW (cc := y_99.2.1) (maxL := y_99.2.2.1) (ret := y_99.2.2.2) (by decide +kernel) rfl ?_
  intro p e s m args below meth c s₁ B hml hno hv
  obtain ⟨rfl, hRep, hK⟩ := hv
  have hx := B.exec
  have hb : c.code = y_99.2.1 := B.bytes
  have G : ux_G l E y_99 p s m _ meth c := ⟨B.exec, B.bytes, hml, findClass_of_methodNamed B.named, atoms_spec (ws := ux_ws y_99) B.pre, hK, B.notSynchronized, B.returns⟩
  have hl2 := lv_entry ([.ref (E.1 4 655365 0), .int x1, .int x2]) (n := 4) (Nat.le_of_ble_eq_true rfl)
  show W p l e (fx_room 10) s m _ below meth c s.heap [] 0 0 _ (entryFrame m ([.ref (E.1 4 655365 0), .int x1, .int x2] : List Value).toArray 4)
  rw [lg_entry_eq]
  generalize (lg_sl ([.ref (E.1 4 655365 0), .int x1, .int x2]) ++ List.replicate (4 - (lg_sl ([.ref (E.1 4 655365 0), .int x1, .int x2])).length) Slot.unset).toArray = ls at hl2 ⊢
  have hl2 : lv_has ls 4 [(0, .ref (E.1 4 655365 0)), (1, .int x1), (2, .int x2)] := hl2
  have hVS : va_S (ux_A E) s.heap s.heap [] := va_S.rf
  have hRep : ux_Rep E M s.heap := hRep
  refine lv_aload_n hx hb dx_99_0 rfl (lv_at hl2 0 rfl) ?_
  refine lv_iload_n hx hb dx_99_1 rfl (lv_at hl2 1 rfl) ?_
  exact fx_Ubad hE hl G hno rfl h0 hRep hVS hl2.1 dx_99_2
theorem tx_100_0 {l : Launch} {E : ux_E} {M : ux_M} {x1 x2 : Int32} (hS : ux_SpecOK l E ux_chs) (hE : ux_THok E) (hl : l.stackTraces = false) (h0 : ¬ z_iu M x1) : fx_Met l E y_100 10 [aR 4 655365 0, aI x1, aI x2] M fx_IO := by
  refine vx_ofW (cc := y_100.2.1) (maxL := y_100.2.2.1) (ret := y_100.2.2.2) (by decide +kernel) rfl ?_
  intro p e s m args below meth c s₁ B hml hno hv
  obtain ⟨rfl, hRep, hK⟩ := hv
  have hx := B.exec
  have hb : c.code = y_100.2.1 := B.bytes
  have G : ux_G l E y_100 p s m _ meth c := ⟨B.exec, B.bytes, hml, findClass_of_methodNamed B.named, atoms_spec (ws := ux_ws y_100) B.pre, hK, B.notSynchronized, B.returns⟩
  have hl2 := lv_entry ([.ref (E.1 4 655365 0), .int x1, .int x2]) (n := 4) (Nat.le_of_ble_eq_true rfl)
  show W p l e (fx_room 10) s m _ below meth c s.heap [] 0 0 _ (entryFrame m ([.ref (E.1 4 655365 0), .int x1, .int x2] : List Value).toArray 4)
  rw [lg_entry_eq]
  generalize (lg_sl ([.ref (E.1 4 655365 0), .int x1, .int x2]) ++ List.replicate (4 - (lg_sl ([.ref (E.1 4 655365 0), .int x1, .int x2])).length) Slot.unset).toArray = ls at hl2 ⊢
  have hl2 : lv_has ls 4 [(0, .ref (E.1 4 655365 0)), (1, .int x1), (2, .int x2)] := hl2
  have hVS : va_S (ux_A E) s.heap s.heap [] := va_S.rf
  have hRep : ux_Rep E M s.heap := hRep
  refine lv_aload_n hx hb dx_100_0 rfl (lv_at hl2 0 rfl) ?_
  refine lv_iload_n hx hb dx_100_1 rfl (lv_at hl2 1 rfl) ?_
  exact fx_Ubad hE hl G hno rfl h0 hRep hVS hl2.1 dx_100_2
theorem tx_101_0 {l : Launch} {E : ux_E} {M : ux_M} {x1 x2 : Int32} (hS : ux_SpecOK l E ux_chs) (hE : ux_THok E) (hl : l.stackTraces = false) (h0 : ¬ z_iu M x1) : fx_Met l E y_101 10 [aR 4 655365 0, aI x1, aI x2] M fx_IO := by
  refine vx_ofW (cc := y_101.2.1) (maxL := y_101.2.2.1) (ret := y_101.2.2.2) (by decide +kernel) rfl ?_
  intro p e s m args below meth c s₁ B hml hno hv
  obtain ⟨rfl, hRep, hK⟩ := hv
  have hx := B.exec
  have hb : c.code = y_101.2.1 := B.bytes
  have G : ux_G l E y_101 p s m _ meth c := ⟨B.exec, B.bytes, hml, findClass_of_methodNamed B.named, atoms_spec (ws := ux_ws y_101) B.pre, hK, B.notSynchronized, B.returns⟩
  have hl2 := lv_entry ([.ref (E.1 4 655365 0), .int x1, .int x2]) (n := 4) (Nat.le_of_ble_eq_true rfl)
  show W p l e (fx_room 10) s m _ below meth c s.heap [] 0 0 _ (entryFrame m ([.ref (E.1 4 655365 0), .int x1, .int x2] : List Value).toArray 4)
  rw [lg_entry_eq]
  generalize (lg_sl ([.ref (E.1 4 655365 0), .int x1, .int x2]) ++ List.replicate (4 - (lg_sl ([.ref (E.1 4 655365 0), .int x1, .int x2])).length) Slot.unset).toArray = ls at hl2 ⊢
  have hl2 : lv_has ls 4 [(0, .ref (E.1 4 655365 0)), (1, .int x1), (2, .int x2)] := hl2
  have hVS : va_S (ux_A E) s.heap s.heap [] := va_S.rf
  have hRep : ux_Rep E M s.heap := hRep
  refine lv_aload_n hx hb dx_101_0 rfl (lv_at hl2 0 rfl) ?_
  refine lv_iload_n hx hb dx_101_1 rfl (lv_at hl2 1 rfl) ?_
  exact fx_Ubad hE hl G hno rfl h0 hRep hVS hl2.1 dx_101_2
theorem tx_102_0 {l : Launch} {E : ux_E} {M : ux_M} {x1 x2 x3 : Int32} (hS : ux_SpecOK l E ux_chs) (hE : ux_THok E) (hl : l.stackTraces = false) (h0 : ¬ z_iu M x1) : fx_Met l E y_102 10 [aR 4 655365 0, aI x1, aI x2, aI x3] M fx_IO := by
  refine vx_ofW (cc := y_102.2.1) (maxL := y_102.2.2.1) (ret := y_102.2.2.2) (by decide +kernel) rfl ?_
  intro p e s m args below meth c s₁ B hml hno hv
  obtain ⟨rfl, hRep, hK⟩ := hv
  have hx := B.exec
  have hb : c.code = y_102.2.1 := B.bytes
  have G : ux_G l E y_102 p s m _ meth c := ⟨B.exec, B.bytes, hml, findClass_of_methodNamed B.named, atoms_spec (ws := ux_ws y_102) B.pre, hK, B.notSynchronized, B.returns⟩
  have hl2 := lv_entry ([.ref (E.1 4 655365 0), .int x1, .int x2, .int x3]) (n := 5) (Nat.le_of_ble_eq_true rfl)
  show W p l e (fx_room 10) s m _ below meth c s.heap [] 0 0 _ (entryFrame m ([.ref (E.1 4 655365 0), .int x1, .int x2, .int x3] : List Value).toArray 5)
  rw [lg_entry_eq]
  generalize (lg_sl ([.ref (E.1 4 655365 0), .int x1, .int x2, .int x3]) ++ List.replicate (5 - (lg_sl ([.ref (E.1 4 655365 0), .int x1, .int x2, .int x3])).length) Slot.unset).toArray = ls at hl2 ⊢
  have hl2 : lv_has ls 5 [(0, .ref (E.1 4 655365 0)), (1, .int x1), (2, .int x2), (3, .int x3)] := hl2
  have hVS : va_S (ux_A E) s.heap s.heap [] := va_S.rf
  have hRep : ux_Rep E M s.heap := hRep
  refine lv_aload_n hx hb dx_102_0 rfl (lv_at hl2 0 rfl) ?_
  refine lv_iload_n hx hb dx_102_1 rfl (lv_at hl2 1 rfl) ?_
  exact fx_Ubad hE hl G hno rfl h0 hRep hVS hl2.1 dx_102_2
theorem tx_102_1 {l : Launch} {E : ux_E} {M : ux_M} {x1 x2 x3 : Int32} (hS : ux_SpecOK l E ux_chs) (hE : ux_THok E) (hl : l.stackTraces = false) (h0 : z_iu M x1) (h1 : ¬ z_rg x2 1 3) : fx_Met l E y_102 10 [aR 4 655365 0, aI x1, aI x2, aI x3] M fx_IA := by
  refine vx_ofW (cc := y_102.2.1) (maxL := y_102.2.2.1) (ret := y_102.2.2.2) (by decide +kernel) rfl ?_
  intro p e s m args below meth c s₁ B hml hno hv
  obtain ⟨rfl, hRep, hK⟩ := hv
  have hx := B.exec
  have hb : c.code = y_102.2.1 := B.bytes
  have G : ux_G l E y_102 p s m _ meth c := ⟨B.exec, B.bytes, hml, findClass_of_methodNamed B.named, atoms_spec (ws := ux_ws y_102) B.pre, hK, B.notSynchronized, B.returns⟩
  have hl2 := lv_entry ([.ref (E.1 4 655365 0), .int x1, .int x2, .int x3]) (n := 5) (Nat.le_of_ble_eq_true rfl)
  show W p l e (fx_room 10) s m _ below meth c s.heap [] 0 0 _ (entryFrame m ([.ref (E.1 4 655365 0), .int x1, .int x2, .int x3] : List Value).toArray 5)
  rw [lg_entry_eq]
  generalize (lg_sl ([.ref (E.1 4 655365 0), .int x1, .int x2, .int x3]) ++ List.replicate (5 - (lg_sl ([.ref (E.1 4 655365 0), .int x1, .int x2, .int x3])).length) Slot.unset).toArray = ls at hl2 ⊢
  have hl2 : lv_has ls 5 [(0, .ref (E.1 4 655365 0)), (1, .int x1), (2, .int x2), (3, .int x3)] := hl2
  have hVS : va_S (ux_A E) s.heap s.heap [] := va_S.rf
  have hRep : ux_Rep E M s.heap := hRep
  refine lv_aload_n hx hb dx_102_0 rfl (lv_at hl2 0 rfl) ?_
  refine lv_iload_n hx hb dx_102_1 rfl (lv_at hl2 1 rfl) ?_
  refine fx_Uok hS G rfl h0 hRep hVS hl2.1 dx_102_2 (fun H1 locs1 hRep hVS => ?_)
  refine lv_iload_n hx hb dx_102_5 rfl (lv_at hl2 2 rfl) ?_
  refine lv_iconst (v := 1) hx hb dx_102_6 (by decide) ?_
  refine lv_iconst (v := 3) hx hb dx_102_7 (by decide) ?_
  exact fx_Rbad hE hl G hno rfl h1 hRep hVS hl2.1 dx_102_8
theorem tx_102_2 {l : Launch} {E : ux_E} {M : ux_M} {x1 x2 x3 : Int32} (hS : ux_SpecOK l E ux_chs) (hE : ux_THok E) (hl : l.stackTraces = false) (h0 : z_iu M x1) (h1 : z_rg x2 1 3) (h2 : ¬ z_rg x3 0 4) : fx_Met l E y_102 10 [aR 4 655365 0, aI x1, aI x2, aI x3] M fx_IA := by
  refine vx_ofW (cc := y_102.2.1) (maxL := y_102.2.2.1) (ret := y_102.2.2.2) (by decide +kernel) rfl ?_
  intro p e s m args below meth c s₁ B hml hno hv
  obtain ⟨rfl, hRep, hK⟩ := hv
  have hx := B.exec
  have hb : c.code = y_102.2.1 := B.bytes
  have G : ux_G l E y_102 p s m _ meth c := ⟨B.exec, B.bytes, hml, findClass_of_methodNamed B.named, atoms_spec (ws := ux_ws y_102) B.pre, hK, B.notSynchronized, B.returns⟩
  have hl2 := lv_entry ([.ref (E.1 4 655365 0), .int x1, .int x2, .int x3]) (n := 5) (Nat.le_of_ble_eq_true rfl)
  show W p l e (fx_room 10) s m _ below meth c s.heap [] 0 0 _ (entryFrame m ([.ref (E.1 4 655365 0), .int x1, .int x2, .int x3] : List Value).toArray 5)
  rw [lg_entry_eq]
  generalize (lg_sl ([.ref (E.1 4 655365 0), .int x1, .int x2, .int x3]) ++ List.replicate (5 - (lg_sl ([.ref (E.1 4 655365 0), .int x1, .int x2, .int x3])).length) Slot.unset).toArray = ls at hl2 ⊢
  have hl2 : lv_has ls 5 [(0, .ref (E.1 4 655365 0)), (1, .int x1), (2, .int x2), (3, .int x3)] := hl2
  have hVS : va_S (ux_A E) s.heap s.heap [] := va_S.rf
  have hRep : ux_Rep E M s.heap := hRep
  refine lv_aload_n hx hb dx_102_0 rfl (lv_at hl2 0 rfl) ?_
  refine lv_iload_n hx hb dx_102_1 rfl (lv_at hl2 1 rfl) ?_
  refine fx_Uok hS G rfl h0 hRep hVS hl2.1 dx_102_2 (fun H1 locs1 hRep hVS => ?_)
  refine lv_iload_n hx hb dx_102_5 rfl (lv_at hl2 2 rfl) ?_
  refine lv_iconst (v := 1) hx hb dx_102_6 (by decide) ?_
  refine lv_iconst (v := 3) hx hb dx_102_7 (by decide) ?_
  refine fx_Rok hS G rfl h1 hRep hVS hl2.1 dx_102_8 (fun H1 locs1 hRep hVS => ?_)
  refine lv_iload_n hx hb dx_102_11 rfl (lv_at hl2 3 rfl) ?_
  refine lv_iconst (v := 0) hx hb dx_102_12 (by decide) ?_
  refine lv_iconst (v := 4) hx hb dx_102_13 (by decide) ?_
  exact fx_Rbad hE hl G hno rfl h2 hRep hVS hl2.1 dx_102_14
theorem tx_104_0 {l : Launch} {E : ux_E} {M : ux_M} {x1 x2 : Int32} (hS : ux_SpecOK l E ux_chs) (hE : ux_THok E) (hl : l.stackTraces = false) (h0 : ¬ z_iu M x1) : fx_Met l E y_104 10 [aR 4 655365 0, aI x1, aI x2] M fx_IO := by
  refine vx_ofW (cc := y_104.2.1) (maxL := y_104.2.2.1) (ret := y_104.2.2.2) (by decide +kernel) rfl ?_
  intro p e s m args below meth c s₁ B hml hno hv
  obtain ⟨rfl, hRep, hK⟩ := hv
  have hx := B.exec
  have hb : c.code = y_104.2.1 := B.bytes
  have G : ux_G l E y_104 p s m _ meth c := ⟨B.exec, B.bytes, hml, findClass_of_methodNamed B.named, atoms_spec (ws := ux_ws y_104) B.pre, hK, B.notSynchronized, B.returns⟩
  have hl2 := lv_entry ([.ref (E.1 4 655365 0), .int x1, .int x2]) (n := 4) (Nat.le_of_ble_eq_true rfl)
  show W p l e (fx_room 10) s m _ below meth c s.heap [] 0 0 _ (entryFrame m ([.ref (E.1 4 655365 0), .int x1, .int x2] : List Value).toArray 4)
  rw [lg_entry_eq]
  generalize (lg_sl ([.ref (E.1 4 655365 0), .int x1, .int x2]) ++ List.replicate (4 - (lg_sl ([.ref (E.1 4 655365 0), .int x1, .int x2])).length) Slot.unset).toArray = ls at hl2 ⊢
  have hl2 : lv_has ls 4 [(0, .ref (E.1 4 655365 0)), (1, .int x1), (2, .int x2)] := hl2
  have hVS : va_S (ux_A E) s.heap s.heap [] := va_S.rf
  have hRep : ux_Rep E M s.heap := hRep
  refine lv_aload_n hx hb dx_104_0 rfl (lv_at hl2 0 rfl) ?_
  refine lv_iload_n hx hb dx_104_1 rfl (lv_at hl2 1 rfl) ?_
  exact fx_Ubad hE hl G hno rfl h0 hRep hVS hl2.1 dx_104_2
theorem tx_104_1 {l : Launch} {E : ux_E} {M : ux_M} {x1 x2 : Int32} (hS : ux_SpecOK l E ux_chs) (hE : ux_THok E) (hl : l.stackTraces = false) (h0 : z_iu M x1) (h1 : ¬ z_rg x2 1 3) : fx_Met l E y_104 10 [aR 4 655365 0, aI x1, aI x2] M fx_IA := by
  refine vx_ofW (cc := y_104.2.1) (maxL := y_104.2.2.1) (ret := y_104.2.2.2) (by decide +kernel) rfl ?_
  intro p e s m args below meth c s₁ B hml hno hv
  obtain ⟨rfl, hRep, hK⟩ := hv
  have hx := B.exec
  have hb : c.code = y_104.2.1 := B.bytes
  have G : ux_G l E y_104 p s m _ meth c := ⟨B.exec, B.bytes, hml, findClass_of_methodNamed B.named, atoms_spec (ws := ux_ws y_104) B.pre, hK, B.notSynchronized, B.returns⟩
  have hl2 := lv_entry ([.ref (E.1 4 655365 0), .int x1, .int x2]) (n := 4) (Nat.le_of_ble_eq_true rfl)
  show W p l e (fx_room 10) s m _ below meth c s.heap [] 0 0 _ (entryFrame m ([.ref (E.1 4 655365 0), .int x1, .int x2] : List Value).toArray 4)
  rw [lg_entry_eq]
  generalize (lg_sl ([.ref (E.1 4 655365 0), .int x1, .int x2]) ++ List.replicate (4 - (lg_sl ([.ref (E.1 4 655365 0), .int x1, .int x2])).length) Slot.unset).toArray = ls at hl2 ⊢
  have hl2 : lv_has ls 4 [(0, .ref (E.1 4 655365 0)), (1, .int x1), (2, .int x2)] := hl2
  have hVS : va_S (ux_A E) s.heap s.heap [] := va_S.rf
  have hRep : ux_Rep E M s.heap := hRep
  refine lv_aload_n hx hb dx_104_0 rfl (lv_at hl2 0 rfl) ?_
  refine lv_iload_n hx hb dx_104_1 rfl (lv_at hl2 1 rfl) ?_
  refine fx_Uok hS G rfl h0 hRep hVS hl2.1 dx_104_2 (fun H1 locs1 hRep hVS => ?_)
  refine lv_iload_n hx hb dx_104_5 rfl (lv_at hl2 2 rfl) ?_
  refine lv_iconst (v := 1) hx hb dx_104_6 (by decide) ?_
  refine lv_iconst (v := 3) hx hb dx_104_7 (by decide) ?_
  exact fx_Rbad hE hl G hno rfl h1 hRep hVS hl2.1 dx_104_8
theorem tx_108_0 {l : Launch} {E : ux_E} {M : ux_M} {x1 : Int32} (hS : ux_SpecOK l E ux_chs) (hE : ux_THok E) (hl : l.stackTraces = false) (h0 : ¬ z_iu M x1) : fx_Met l E y_108 10 [aR 4 655365 0, aI x1] M fx_IO := by
  refine vx_ofW (cc := y_108.2.1) (maxL := y_108.2.2.1) (ret := y_108.2.2.2) (by decide +kernel) rfl ?_
  intro p e s m args below meth c s₁ B hml hno hv
  obtain ⟨rfl, hRep, hK⟩ := hv
  have hx := B.exec
  have hb : c.code = y_108.2.1 := B.bytes
  have G : ux_G l E y_108 p s m _ meth c := ⟨B.exec, B.bytes, hml, findClass_of_methodNamed B.named, atoms_spec (ws := ux_ws y_108) B.pre, hK, B.notSynchronized, B.returns⟩
  have hl2 := lv_entry ([.ref (E.1 4 655365 0), .int x1]) (n := 2) (Nat.le_of_ble_eq_true rfl)
  show W p l e (fx_room 10) s m _ below meth c s.heap [] 0 0 _ (entryFrame m ([.ref (E.1 4 655365 0), .int x1] : List Value).toArray 2)
  rw [lg_entry_eq]
  generalize (lg_sl ([.ref (E.1 4 655365 0), .int x1]) ++ List.replicate (2 - (lg_sl ([.ref (E.1 4 655365 0), .int x1])).length) Slot.unset).toArray = ls at hl2 ⊢
  have hl2 : lv_has ls 2 [(0, .ref (E.1 4 655365 0)), (1, .int x1)] := hl2
  have hVS : va_S (ux_A E) s.heap s.heap [] := va_S.rf
  have hRep : ux_Rep E M s.heap := hRep
  refine lv_aload_n hx hb dx_108_0 rfl (lv_at hl2 0 rfl) ?_
  refine lv_iload_n hx hb dx_108_1 rfl (lv_at hl2 1 rfl) ?_
  exact fx_Ubad hE hl G hno rfl h0 hRep hVS hl2.1 dx_108_2
theorem tx_110_0 {l : Launch} {E : ux_E} {M : ux_M} {x1 : Int32} (hS : ux_SpecOK l E ux_chs) (hE : ux_THok E) (hl : l.stackTraces = false) (h0 : ¬ z_iu M x1) : fx_Met l E y_110 10 [aR 4 655365 0, aI x1] M fx_IO := by
  refine vx_ofW (cc := y_110.2.1) (maxL := y_110.2.2.1) (ret := y_110.2.2.2) (by decide +kernel) rfl ?_
  intro p e s m args below meth c s₁ B hml hno hv
  obtain ⟨rfl, hRep, hK⟩ := hv
  have hx := B.exec
  have hb : c.code = y_110.2.1 := B.bytes
  have G : ux_G l E y_110 p s m _ meth c := ⟨B.exec, B.bytes, hml, findClass_of_methodNamed B.named, atoms_spec (ws := ux_ws y_110) B.pre, hK, B.notSynchronized, B.returns⟩
  have hl2 := lv_entry ([.ref (E.1 4 655365 0), .int x1]) (n := 2) (Nat.le_of_ble_eq_true rfl)
  show W p l e (fx_room 10) s m _ below meth c s.heap [] 0 0 _ (entryFrame m ([.ref (E.1 4 655365 0), .int x1] : List Value).toArray 2)
  rw [lg_entry_eq]
  generalize (lg_sl ([.ref (E.1 4 655365 0), .int x1]) ++ List.replicate (2 - (lg_sl ([.ref (E.1 4 655365 0), .int x1])).length) Slot.unset).toArray = ls at hl2 ⊢
  have hl2 : lv_has ls 2 [(0, .ref (E.1 4 655365 0)), (1, .int x1)] := hl2
  have hVS : va_S (ux_A E) s.heap s.heap [] := va_S.rf
  have hRep : ux_Rep E M s.heap := hRep
  refine lv_aload_n hx hb dx_110_0 rfl (lv_at hl2 0 rfl) ?_
  refine lv_iload_n hx hb dx_110_1 rfl (lv_at hl2 1 rfl) ?_
  exact fx_Ubad hE hl G hno rfl h0 hRep hVS hl2.1 dx_110_2
theorem tx_111_0 {l : Launch} {E : ux_E} {M : ux_M} {x1 : Int32} (hS : ux_SpecOK l E ux_chs) (hE : ux_THok E) (hl : l.stackTraces = false) (h0 : ¬ z_iu M x1) : fx_Met l E y_111 10 [aR 4 655365 0, aI x1] M fx_IO := by
  refine vx_ofW (cc := y_111.2.1) (maxL := y_111.2.2.1) (ret := y_111.2.2.2) (by decide +kernel) rfl ?_
  intro p e s m args below meth c s₁ B hml hno hv
  obtain ⟨rfl, hRep, hK⟩ := hv
  have hx := B.exec
  have hb : c.code = y_111.2.1 := B.bytes
  have G : ux_G l E y_111 p s m _ meth c := ⟨B.exec, B.bytes, hml, findClass_of_methodNamed B.named, atoms_spec (ws := ux_ws y_111) B.pre, hK, B.notSynchronized, B.returns⟩
  have hl2 := lv_entry ([.ref (E.1 4 655365 0), .int x1]) (n := 2) (Nat.le_of_ble_eq_true rfl)
  show W p l e (fx_room 10) s m _ below meth c s.heap [] 0 0 _ (entryFrame m ([.ref (E.1 4 655365 0), .int x1] : List Value).toArray 2)
  rw [lg_entry_eq]
  generalize (lg_sl ([.ref (E.1 4 655365 0), .int x1]) ++ List.replicate (2 - (lg_sl ([.ref (E.1 4 655365 0), .int x1])).length) Slot.unset).toArray = ls at hl2 ⊢
  have hl2 : lv_has ls 2 [(0, .ref (E.1 4 655365 0)), (1, .int x1)] := hl2
  have hVS : va_S (ux_A E) s.heap s.heap [] := va_S.rf
  have hRep : ux_Rep E M s.heap := hRep
  refine lv_aload_n hx hb dx_111_0 rfl (lv_at hl2 0 rfl) ?_
  refine lv_iload_n hx hb dx_111_1 rfl (lv_at hl2 1 rfl) ?_
  exact fx_Ubad hE hl G hno rfl h0 hRep hVS hl2.1 dx_111_2
theorem tx_112_0 {l : Launch} {E : ux_E} {M : ux_M} {x1 : Int32} (hS : ux_SpecOK l E ux_chs) (hE : ux_THok E) (hl : l.stackTraces = false) (h0 : ¬ z_iu M x1) : fx_Met l E y_112 10 [aR 4 655365 0, aI x1] M fx_IO := by
  refine vx_ofW (cc := y_112.2.1) (maxL := y_112.2.2.1) (ret := y_112.2.2.2) (by decide +kernel) rfl ?_
  intro p e s m args below meth c s₁ B hml hno hv
  obtain ⟨rfl, hRep, hK⟩ := hv
  have hx := B.exec
  have hb : c.code = y_112.2.1 := B.bytes
  have G : ux_G l E y_112 p s m _ meth c := ⟨B.exec, B.bytes, hml, findClass_of_methodNamed B.named, atoms_spec (ws := ux_ws y_112) B.pre, hK, B.notSynchronized, B.returns⟩
  have hl2 := lv_entry ([.ref (E.1 4 655365 0), .int x1]) (n := 2) (Nat.le_of_ble_eq_true rfl)
  show W p l e (fx_room 10) s m _ below meth c s.heap [] 0 0 _ (entryFrame m ([.ref (E.1 4 655365 0), .int x1] : List Value).toArray 2)
  rw [lg_entry_eq]
  generalize (lg_sl ([.ref (E.1 4 655365 0), .int x1]) ++ List.replicate (2 - (lg_sl ([.ref (E.1 4 655365 0), .int x1])).length) Slot.unset).toArray = ls at hl2 ⊢
  have hl2 : lv_has ls 2 [(0, .ref (E.1 4 655365 0)), (1, .int x1)] := hl2
  have hVS : va_S (ux_A E) s.heap s.heap [] := va_S.rf
  have hRep : ux_Rep E M s.heap := hRep
  refine lv_aload_n hx hb dx_112_0 rfl (lv_at hl2 0 rfl) ?_
  refine lv_iload_n hx hb dx_112_1 rfl (lv_at hl2 1 rfl) ?_
  exact fx_Ubad hE hl G hno rfl h0 hRep hVS hl2.1 dx_112_2
theorem tx_113_0 {l : Launch} {E : ux_E} {M : ux_M} {x1 : Int32} (hS : ux_SpecOK l E ux_chs) (hE : ux_THok E) (hl : l.stackTraces = false) (h0 : ¬ z_iu M x1) : fx_Met l E y_113 10 [aR 4 655365 0, aI x1] M fx_IO := by
  refine vx_ofW (cc := y_113.2.1) (maxL := y_113.2.2.1) (ret := y_113.2.2.2) (by decide +kernel) rfl ?_
  intro p e s m args below meth c s₁ B hml hno hv
  obtain ⟨rfl, hRep, hK⟩ := hv
  have hx := B.exec
  have hb : c.code = y_113.2.1 := B.bytes
  have G : ux_G l E y_113 p s m _ meth c := ⟨B.exec, B.bytes, hml, findClass_of_methodNamed B.named, atoms_spec (ws := ux_ws y_113) B.pre, hK, B.notSynchronized, B.returns⟩
  have hl2 := lv_entry ([.ref (E.1 4 655365 0), .int x1]) (n := 2) (Nat.le_of_ble_eq_true rfl)
  show W p l e (fx_room 10) s m _ below meth c s.heap [] 0 0 _ (entryFrame m ([.ref (E.1 4 655365 0), .int x1] : List Value).toArray 2)
  rw [lg_entry_eq]
  generalize (lg_sl ([.ref (E.1 4 655365 0), .int x1]) ++ List.replicate (2 - (lg_sl ([.ref (E.1 4 655365 0), .int x1])).length) Slot.unset).toArray = ls at hl2 ⊢
  have hl2 : lv_has ls 2 [(0, .ref (E.1 4 655365 0)), (1, .int x1)] := hl2
  have hVS : va_S (ux_A E) s.heap s.heap [] := va_S.rf
  have hRep : ux_Rep E M s.heap := hRep
  refine lv_aload_n hx hb dx_113_0 rfl (lv_at hl2 0 rfl) ?_
  refine lv_iload_n hx hb dx_113_1 rfl (lv_at hl2 1 rfl) ?_
  exact fx_Ubad hE hl G hno rfl h0 hRep hVS hl2.1 dx_113_2
theorem tx_114_0 {l : Launch} {E : ux_E} {M : ux_M} {x1 : Int32} (hS : ux_SpecOK l E ux_chs) (hE : ux_THok E) (hl : l.stackTraces = false) (h0 : ¬ z_rg x1 1 1000) : fx_Met l E y_114 10 [aR 4 655365 0, aI x1] M fx_IA := by
  refine vx_ofW (cc := y_114.2.1) (maxL := y_114.2.2.1) (ret := y_114.2.2.2) (by decide +kernel) rfl ?_
  intro p e s m args below meth c s₁ B hml hno hv
  obtain ⟨rfl, hRep, hK⟩ := hv
  have hx := B.exec
  have hb : c.code = y_114.2.1 := B.bytes
  have G : ux_G l E y_114 p s m _ meth c := ⟨B.exec, B.bytes, hml, findClass_of_methodNamed B.named, atoms_spec (ws := ux_ws y_114) B.pre, hK, B.notSynchronized, B.returns⟩
  have hl2 := lv_entry ([.ref (E.1 4 655365 0), .int x1]) (n := 2) (Nat.le_of_ble_eq_true rfl)
  show W p l e (fx_room 10) s m _ below meth c s.heap [] 0 0 _ (entryFrame m ([.ref (E.1 4 655365 0), .int x1] : List Value).toArray 2)
  rw [lg_entry_eq]
  generalize (lg_sl ([.ref (E.1 4 655365 0), .int x1]) ++ List.replicate (2 - (lg_sl ([.ref (E.1 4 655365 0), .int x1])).length) Slot.unset).toArray = ls at hl2 ⊢
  have hl2 : lv_has ls 2 [(0, .ref (E.1 4 655365 0)), (1, .int x1)] := hl2
  have hVS : va_S (ux_A E) s.heap s.heap [] := va_S.rf
  have hRep : ux_Rep E M s.heap := hRep
  refine lv_iload_n hx hb dx_114_0 rfl (lv_at hl2 1 rfl) ?_
  refine lv_iconst (v := 1) hx hb dx_114_1 (by decide) ?_
  refine lv_sipush (v := 1000) hx hb dx_114_2 (by decide) ?_
  exact fx_Rbad hE hl G hno rfl h0 hRep hVS hl2.1 dx_114_5
theorem tx_115_0 {l : Launch} {E : ux_E} {M : ux_M} {x1 x2 : Int32} (hS : ux_SpecOK l E ux_chs) (hE : ux_THok E) (hl : l.stackTraces = false) (h0 : ¬ z_iu M x1) : fx_Met l E y_115 10 [aR 4 655365 0, aI x1, aI x2] M fx_IO := by
  refine vx_ofW (cc := y_115.2.1) (maxL := y_115.2.2.1) (ret := y_115.2.2.2) (by decide +kernel) rfl ?_
  intro p e s m args below meth c s₁ B hml hno hv
  obtain ⟨rfl, hRep, hK⟩ := hv
  have hx := B.exec
  have hb : c.code = y_115.2.1 := B.bytes
  have G : ux_G l E y_115 p s m _ meth c := ⟨B.exec, B.bytes, hml, findClass_of_methodNamed B.named, atoms_spec (ws := ux_ws y_115) B.pre, hK, B.notSynchronized, B.returns⟩
  have hl2 := lv_entry ([.ref (E.1 4 655365 0), .int x1, .int x2]) (n := 4) (Nat.le_of_ble_eq_true rfl)
  show W p l e (fx_room 10) s m _ below meth c s.heap [] 0 0 _ (entryFrame m ([.ref (E.1 4 655365 0), .int x1, .int x2] : List Value).toArray 4)
  rw [lg_entry_eq]
  generalize (lg_sl ([.ref (E.1 4 655365 0), .int x1, .int x2]) ++ List.replicate (4 - (lg_sl ([.ref (E.1 4 655365 0), .int x1, .int x2])).length) Slot.unset).toArray = ls at hl2 ⊢
  have hl2 : lv_has ls 4 [(0, .ref (E.1 4 655365 0)), (1, .int x1), (2, .int x2)] := hl2
  have hVS : va_S (ux_A E) s.heap s.heap [] := va_S.rf
  have hRep : ux_Rep E M s.heap := hRep
  refine lv_aload_n hx hb dx_115_0 rfl (lv_at hl2 0 rfl) ?_
  refine lv_iload_n hx hb dx_115_1 rfl (lv_at hl2 1 rfl) ?_
  exact fx_Ubad hE hl G hno rfl h0 hRep hVS hl2.1 dx_115_2
theorem tx_115_1 {l : Launch} {E : ux_E} {M : ux_M} {x1 x2 : Int32} (hS : ux_SpecOK l E ux_chs) (hE : ux_THok E) (hl : l.stackTraces = false) (h0 : z_iu M x1) (h1 : ¬ z_rg x2 1 100) : fx_Met l E y_115 10 [aR 4 655365 0, aI x1, aI x2] M fx_IA := by
  refine vx_ofW (cc := y_115.2.1) (maxL := y_115.2.2.1) (ret := y_115.2.2.2) (by decide +kernel) rfl ?_
  intro p e s m args below meth c s₁ B hml hno hv
  obtain ⟨rfl, hRep, hK⟩ := hv
  have hx := B.exec
  have hb : c.code = y_115.2.1 := B.bytes
  have G : ux_G l E y_115 p s m _ meth c := ⟨B.exec, B.bytes, hml, findClass_of_methodNamed B.named, atoms_spec (ws := ux_ws y_115) B.pre, hK, B.notSynchronized, B.returns⟩
  have hl2 := lv_entry ([.ref (E.1 4 655365 0), .int x1, .int x2]) (n := 4) (Nat.le_of_ble_eq_true rfl)
  show W p l e (fx_room 10) s m _ below meth c s.heap [] 0 0 _ (entryFrame m ([.ref (E.1 4 655365 0), .int x1, .int x2] : List Value).toArray 4)
  rw [lg_entry_eq]
  generalize (lg_sl ([.ref (E.1 4 655365 0), .int x1, .int x2]) ++ List.replicate (4 - (lg_sl ([.ref (E.1 4 655365 0), .int x1, .int x2])).length) Slot.unset).toArray = ls at hl2 ⊢
  have hl2 : lv_has ls 4 [(0, .ref (E.1 4 655365 0)), (1, .int x1), (2, .int x2)] := hl2
  have hVS : va_S (ux_A E) s.heap s.heap [] := va_S.rf
  have hRep : ux_Rep E M s.heap := hRep
  refine lv_aload_n hx hb dx_115_0 rfl (lv_at hl2 0 rfl) ?_
  refine lv_iload_n hx hb dx_115_1 rfl (lv_at hl2 1 rfl) ?_
  refine fx_Uok hS G rfl h0 hRep hVS hl2.1 dx_115_2 (fun H1 locs1 hRep hVS => ?_)
  refine lv_iload_n hx hb dx_115_5 rfl (lv_at hl2 2 rfl) ?_
  refine lv_iconst (v := 1) hx hb dx_115_6 (by decide) ?_
  refine lv_bipush (v := 100) hx hb dx_115_7 (by decide) ?_
  exact fx_Rbad hE hl G hno rfl h1 hRep hVS hl2.1 dx_115_9
theorem tx_118_0 {l : Launch} {E : ux_E} {M : ux_M} {x1 x2 : Int32} (hS : ux_SpecOK l E ux_chs) (hE : ux_THok E) (hl : l.stackTraces = false) (h0 : ¬ z_iu M x1) : fx_Met l E y_118 10 [aR 4 655365 0, aI x1, aI x2] M fx_IO := by
  refine vx_ofW (cc := y_118.2.1) (maxL := y_118.2.2.1) (ret := y_118.2.2.2) (by decide +kernel) rfl ?_
  intro p e s m args below meth c s₁ B hml hno hv
  obtain ⟨rfl, hRep, hK⟩ := hv
  have hx := B.exec
  have hb : c.code = y_118.2.1 := B.bytes
  have G : ux_G l E y_118 p s m _ meth c := ⟨B.exec, B.bytes, hml, findClass_of_methodNamed B.named, atoms_spec (ws := ux_ws y_118) B.pre, hK, B.notSynchronized, B.returns⟩
  have hl2 := lv_entry ([.ref (E.1 4 655365 0), .int x1, .int x2]) (n := 3) (Nat.le_of_ble_eq_true rfl)
  show W p l e (fx_room 10) s m _ below meth c s.heap [] 0 0 _ (entryFrame m ([.ref (E.1 4 655365 0), .int x1, .int x2] : List Value).toArray 3)
  rw [lg_entry_eq]
  generalize (lg_sl ([.ref (E.1 4 655365 0), .int x1, .int x2]) ++ List.replicate (3 - (lg_sl ([.ref (E.1 4 655365 0), .int x1, .int x2])).length) Slot.unset).toArray = ls at hl2 ⊢
  have hl2 : lv_has ls 3 [(0, .ref (E.1 4 655365 0)), (1, .int x1), (2, .int x2)] := hl2
  have hVS : va_S (ux_A E) s.heap s.heap [] := va_S.rf
  have hRep : ux_Rep E M s.heap := hRep
  refine lv_aload_n hx hb dx_118_0 rfl (lv_at hl2 0 rfl) ?_
  refine lv_iload_n hx hb dx_118_1 rfl (lv_at hl2 1 rfl) ?_
  exact fx_Ubad hE hl G hno rfl h0 hRep hVS hl2.1 dx_118_2
theorem tx_118_1 {l : Launch} {E : ux_E} {M : ux_M} {x1 x2 : Int32} (hS : ux_SpecOK l E ux_chs) (hE : ux_THok E) (hl : l.stackTraces = false) (h0 : z_iu M x1) (h1 : ¬ z_rg x2 0 255) : fx_Met l E y_118 10 [aR 4 655365 0, aI x1, aI x2] M fx_IA := by
  refine vx_ofW (cc := y_118.2.1) (maxL := y_118.2.2.1) (ret := y_118.2.2.2) (by decide +kernel) rfl ?_
  intro p e s m args below meth c s₁ B hml hno hv
  obtain ⟨rfl, hRep, hK⟩ := hv
  have hx := B.exec
  have hb : c.code = y_118.2.1 := B.bytes
  have G : ux_G l E y_118 p s m _ meth c := ⟨B.exec, B.bytes, hml, findClass_of_methodNamed B.named, atoms_spec (ws := ux_ws y_118) B.pre, hK, B.notSynchronized, B.returns⟩
  have hl2 := lv_entry ([.ref (E.1 4 655365 0), .int x1, .int x2]) (n := 3) (Nat.le_of_ble_eq_true rfl)
  show W p l e (fx_room 10) s m _ below meth c s.heap [] 0 0 _ (entryFrame m ([.ref (E.1 4 655365 0), .int x1, .int x2] : List Value).toArray 3)
  rw [lg_entry_eq]
  generalize (lg_sl ([.ref (E.1 4 655365 0), .int x1, .int x2]) ++ List.replicate (3 - (lg_sl ([.ref (E.1 4 655365 0), .int x1, .int x2])).length) Slot.unset).toArray = ls at hl2 ⊢
  have hl2 : lv_has ls 3 [(0, .ref (E.1 4 655365 0)), (1, .int x1), (2, .int x2)] := hl2
  have hVS : va_S (ux_A E) s.heap s.heap [] := va_S.rf
  have hRep : ux_Rep E M s.heap := hRep
  refine lv_aload_n hx hb dx_118_0 rfl (lv_at hl2 0 rfl) ?_
  refine lv_iload_n hx hb dx_118_1 rfl (lv_at hl2 1 rfl) ?_
  refine fx_Uok hS G rfl h0 hRep hVS hl2.1 dx_118_2 (fun H1 locs1 hRep hVS => ?_)
  refine lv_iload_n hx hb dx_118_5 rfl (lv_at hl2 2 rfl) ?_
  refine lv_iconst (v := 0) hx hb dx_118_6 (by decide) ?_
  refine lv_sipush (v := 255) hx hb dx_118_7 (by decide) ?_
  exact fx_Rbad hE hl G hno rfl h1 hRep hVS hl2.1 dx_118_10
theorem tx_119_0 {l : Launch} {E : ux_E} {M : ux_M} {x1 : Int32} (hS : ux_SpecOK l E ux_chs) (hE : ux_THok E) (hl : l.stackTraces = false) (h0 : ¬ z_iu M x1) : fx_Met l E y_119 10 [aR 4 655365 0, aI x1] M fx_IO := by
  refine vx_ofW (cc := y_119.2.1) (maxL := y_119.2.2.1) (ret := y_119.2.2.2) (by decide +kernel) rfl ?_
  intro p e s m args below meth c s₁ B hml hno hv
  obtain ⟨rfl, hRep, hK⟩ := hv
  have hx := B.exec
  have hb : c.code = y_119.2.1 := B.bytes
  have G : ux_G l E y_119 p s m _ meth c := ⟨B.exec, B.bytes, hml, findClass_of_methodNamed B.named, atoms_spec (ws := ux_ws y_119) B.pre, hK, B.notSynchronized, B.returns⟩
  have hl2 := lv_entry ([.ref (E.1 4 655365 0), .int x1]) (n := 2) (Nat.le_of_ble_eq_true rfl)
  show W p l e (fx_room 10) s m _ below meth c s.heap [] 0 0 _ (entryFrame m ([.ref (E.1 4 655365 0), .int x1] : List Value).toArray 2)
  rw [lg_entry_eq]
  generalize (lg_sl ([.ref (E.1 4 655365 0), .int x1]) ++ List.replicate (2 - (lg_sl ([.ref (E.1 4 655365 0), .int x1])).length) Slot.unset).toArray = ls at hl2 ⊢
  have hl2 : lv_has ls 2 [(0, .ref (E.1 4 655365 0)), (1, .int x1)] := hl2
  have hVS : va_S (ux_A E) s.heap s.heap [] := va_S.rf
  have hRep : ux_Rep E M s.heap := hRep
  refine lv_aload_n hx hb dx_119_0 rfl (lv_at hl2 0 rfl) ?_
  refine lv_iload_n hx hb dx_119_1 rfl (lv_at hl2 1 rfl) ?_
  exact fx_Ubad hE hl G hno rfl h0 hRep hVS hl2.1 dx_119_2
theorem tx_121_0 {l : Launch} {E : ux_E} {M : ux_M} {x1 x2 : Int32} (hS : ux_SpecOK l E ux_chs) (hE : ux_THok E) (hl : l.stackTraces = false) (h0 : ¬ z_iu M x1) : fx_Met l E y_121 10 [aR 4 655365 0, aI x1, aI x2] M fx_IO := by
  refine vx_ofW (cc := y_121.2.1) (maxL := y_121.2.2.1) (ret := y_121.2.2.2) (by decide +kernel) rfl ?_
  intro p e s m args below meth c s₁ B hml hno hv
  obtain ⟨rfl, hRep, hK⟩ := hv
  have hx := B.exec
  have hb : c.code = y_121.2.1 := B.bytes
  have G : ux_G l E y_121 p s m _ meth c := ⟨B.exec, B.bytes, hml, findClass_of_methodNamed B.named, atoms_spec (ws := ux_ws y_121) B.pre, hK, B.notSynchronized, B.returns⟩
  have hl2 := lv_entry ([.ref (E.1 4 655365 0), .int x1, .int x2]) (n := 4) (Nat.le_of_ble_eq_true rfl)
  show W p l e (fx_room 10) s m _ below meth c s.heap [] 0 0 _ (entryFrame m ([.ref (E.1 4 655365 0), .int x1, .int x2] : List Value).toArray 4)
  rw [lg_entry_eq]
  generalize (lg_sl ([.ref (E.1 4 655365 0), .int x1, .int x2]) ++ List.replicate (4 - (lg_sl ([.ref (E.1 4 655365 0), .int x1, .int x2])).length) Slot.unset).toArray = ls at hl2 ⊢
  have hl2 : lv_has ls 4 [(0, .ref (E.1 4 655365 0)), (1, .int x1), (2, .int x2)] := hl2
  have hVS : va_S (ux_A E) s.heap s.heap [] := va_S.rf
  have hRep : ux_Rep E M s.heap := hRep
  refine lv_aload_n hx hb dx_121_0 rfl (lv_at hl2 0 rfl) ?_
  refine lv_iload_n hx hb dx_121_1 rfl (lv_at hl2 1 rfl) ?_
  exact fx_Ubad hE hl G hno rfl h0 hRep hVS hl2.1 dx_121_2
theorem tx_122_0 {l : Launch} {E : ux_E} {M : ux_M} {x1 : Int32} (hS : ux_SpecOK l E ux_chs) (hE : ux_THok E) (hl : l.stackTraces = false) (h0 : ¬ z_iu M x1) : fx_Met l E y_122 10 [aR 4 655365 0, aI x1] M fx_IO := by
  refine vx_ofW (cc := y_122.2.1) (maxL := y_122.2.2.1) (ret := y_122.2.2.2) (by decide +kernel) rfl ?_
  intro p e s m args below meth c s₁ B hml hno hv
  obtain ⟨rfl, hRep, hK⟩ := hv
  have hx := B.exec
  have hb : c.code = y_122.2.1 := B.bytes
  have G : ux_G l E y_122 p s m _ meth c := ⟨B.exec, B.bytes, hml, findClass_of_methodNamed B.named, atoms_spec (ws := ux_ws y_122) B.pre, hK, B.notSynchronized, B.returns⟩
  have hl2 := lv_entry ([.ref (E.1 4 655365 0), .int x1]) (n := 2) (Nat.le_of_ble_eq_true rfl)
  show W p l e (fx_room 10) s m _ below meth c s.heap [] 0 0 _ (entryFrame m ([.ref (E.1 4 655365 0), .int x1] : List Value).toArray 2)
  rw [lg_entry_eq]
  generalize (lg_sl ([.ref (E.1 4 655365 0), .int x1]) ++ List.replicate (2 - (lg_sl ([.ref (E.1 4 655365 0), .int x1])).length) Slot.unset).toArray = ls at hl2 ⊢
  have hl2 : lv_has ls 2 [(0, .ref (E.1 4 655365 0)), (1, .int x1)] := hl2
  have hVS : va_S (ux_A E) s.heap s.heap [] := va_S.rf
  have hRep : ux_Rep E M s.heap := hRep
  refine lv_aload_n hx hb dx_122_0 rfl (lv_at hl2 0 rfl) ?_
  refine lv_iload_n hx hb dx_122_1 rfl (lv_at hl2 1 rfl) ?_
  exact fx_Ubad hE hl G hno rfl h0 hRep hVS hl2.1 dx_122_2
theorem tx_123_0 {l : Launch} {E : ux_E} {M : ux_M} {x1 : Int32} (hS : ux_SpecOK l E ux_chs) (hE : ux_THok E) (hl : l.stackTraces = false) (h0 : ¬ z_rg x1 0 5) : fx_Met l E y_123 10 [aR 4 655365 0, aI x1] M fx_IA := by
  refine vx_ofW (cc := y_123.2.1) (maxL := y_123.2.2.1) (ret := y_123.2.2.2) (by decide +kernel) rfl ?_
  intro p e s m args below meth c s₁ B hml hno hv
  obtain ⟨rfl, hRep, hK⟩ := hv
  have hx := B.exec
  have hb : c.code = y_123.2.1 := B.bytes
  have G : ux_G l E y_123 p s m _ meth c := ⟨B.exec, B.bytes, hml, findClass_of_methodNamed B.named, atoms_spec (ws := ux_ws y_123) B.pre, hK, B.notSynchronized, B.returns⟩
  have hl2 := lv_entry ([.ref (E.1 4 655365 0), .int x1]) (n := 2) (Nat.le_of_ble_eq_true rfl)
  show W p l e (fx_room 10) s m _ below meth c s.heap [] 0 0 _ (entryFrame m ([.ref (E.1 4 655365 0), .int x1] : List Value).toArray 2)
  rw [lg_entry_eq]
  generalize (lg_sl ([.ref (E.1 4 655365 0), .int x1]) ++ List.replicate (2 - (lg_sl ([.ref (E.1 4 655365 0), .int x1])).length) Slot.unset).toArray = ls at hl2 ⊢
  have hl2 : lv_has ls 2 [(0, .ref (E.1 4 655365 0)), (1, .int x1)] := hl2
  have hVS : va_S (ux_A E) s.heap s.heap [] := va_S.rf
  have hRep : ux_Rep E M s.heap := hRep
  refine lv_iload_n hx hb dx_123_0 rfl (lv_at hl2 1 rfl) ?_
  refine lv_iconst (v := 0) hx hb dx_123_1 (by decide) ?_
  refine lv_iconst (v := 5) hx hb dx_123_2 (by decide) ?_
  exact fx_Rbad hE hl G hno rfl h0 hRep hVS hl2.1 dx_123_3
theorem tx_124_0 {l : Launch} {E : ux_E} {M : ux_M} {x1 : Int32} (hS : ux_SpecOK l E ux_chs) (hE : ux_THok E) (hl : l.stackTraces = false) (h0 : ¬ z_iu M x1) : fx_Met l E y_124 10 [aR 4 655365 0, aI x1] M fx_IO := by
  refine vx_ofW (cc := y_124.2.1) (maxL := y_124.2.2.1) (ret := y_124.2.2.2) (by decide +kernel) rfl ?_
  intro p e s m args below meth c s₁ B hml hno hv
  obtain ⟨rfl, hRep, hK⟩ := hv
  have hx := B.exec
  have hb : c.code = y_124.2.1 := B.bytes
  have G : ux_G l E y_124 p s m _ meth c := ⟨B.exec, B.bytes, hml, findClass_of_methodNamed B.named, atoms_spec (ws := ux_ws y_124) B.pre, hK, B.notSynchronized, B.returns⟩
  have hl2 := lv_entry ([.ref (E.1 4 655365 0), .int x1]) (n := 2) (Nat.le_of_ble_eq_true rfl)
  show W p l e (fx_room 10) s m _ below meth c s.heap [] 0 0 _ (entryFrame m ([.ref (E.1 4 655365 0), .int x1] : List Value).toArray 2)
  rw [lg_entry_eq]
  generalize (lg_sl ([.ref (E.1 4 655365 0), .int x1]) ++ List.replicate (2 - (lg_sl ([.ref (E.1 4 655365 0), .int x1])).length) Slot.unset).toArray = ls at hl2 ⊢
  have hl2 : lv_has ls 2 [(0, .ref (E.1 4 655365 0)), (1, .int x1)] := hl2
  have hVS : va_S (ux_A E) s.heap s.heap [] := va_S.rf
  have hRep : ux_Rep E M s.heap := hRep
  refine lv_aload_n hx hb dx_124_0 rfl (lv_at hl2 0 rfl) ?_
  refine lv_iload_n hx hb dx_124_1 rfl (lv_at hl2 1 rfl) ?_
  exact fx_Ubad hE hl G hno rfl h0 hRep hVS hl2.1 dx_124_2
theorem tx_125_0 {l : Launch} {E : ux_E} {M : ux_M} {x1 : Int32} (hS : ux_SpecOK l E ux_chs) (hE : ux_THok E) (hl : l.stackTraces = false) (h0 : ¬ z_iu M x1) : fx_Met l E y_125 10 [aR 4 655365 0, aI x1] M fx_IO := by
  refine vx_ofW (cc := y_125.2.1) (maxL := y_125.2.2.1) (ret := y_125.2.2.2) (by decide +kernel) rfl ?_
  intro p e s m args below meth c s₁ B hml hno hv
  obtain ⟨rfl, hRep, hK⟩ := hv
  have hx := B.exec
  have hb : c.code = y_125.2.1 := B.bytes
  have G : ux_G l E y_125 p s m _ meth c := ⟨B.exec, B.bytes, hml, findClass_of_methodNamed B.named, atoms_spec (ws := ux_ws y_125) B.pre, hK, B.notSynchronized, B.returns⟩
  have hl2 := lv_entry ([.ref (E.1 4 655365 0), .int x1]) (n := 2) (Nat.le_of_ble_eq_true rfl)
  show W p l e (fx_room 10) s m _ below meth c s.heap [] 0 0 _ (entryFrame m ([.ref (E.1 4 655365 0), .int x1] : List Value).toArray 2)
  rw [lg_entry_eq]
  generalize (lg_sl ([.ref (E.1 4 655365 0), .int x1]) ++ List.replicate (2 - (lg_sl ([.ref (E.1 4 655365 0), .int x1])).length) Slot.unset).toArray = ls at hl2 ⊢
  have hl2 : lv_has ls 2 [(0, .ref (E.1 4 655365 0)), (1, .int x1)] := hl2
  have hVS : va_S (ux_A E) s.heap s.heap [] := va_S.rf
  have hRep : ux_Rep E M s.heap := hRep
  refine lv_aload_n hx hb dx_125_0 rfl (lv_at hl2 0 rfl) ?_
  refine lv_iload_n hx hb dx_125_1 rfl (lv_at hl2 1 rfl) ?_
  exact fx_Ubad hE hl G hno rfl h0 hRep hVS hl2.1 dx_125_2
theorem tx_126_0 {l : Launch} {E : ux_E} {M : ux_M} {x1 : Int32} (hS : ux_SpecOK l E ux_chs) (hE : ux_THok E) (hl : l.stackTraces = false) (h0 : ¬ z_iu M x1) : fx_Met l E y_126 10 [aR 4 655365 0, aI x1] M fx_IO := by
  refine vx_ofW (cc := y_126.2.1) (maxL := y_126.2.2.1) (ret := y_126.2.2.2) (by decide +kernel) rfl ?_
  intro p e s m args below meth c s₁ B hml hno hv
  obtain ⟨rfl, hRep, hK⟩ := hv
  have hx := B.exec
  have hb : c.code = y_126.2.1 := B.bytes
  have G : ux_G l E y_126 p s m _ meth c := ⟨B.exec, B.bytes, hml, findClass_of_methodNamed B.named, atoms_spec (ws := ux_ws y_126) B.pre, hK, B.notSynchronized, B.returns⟩
  have hl2 := lv_entry ([.ref (E.1 4 655365 0), .int x1]) (n := 2) (Nat.le_of_ble_eq_true rfl)
  show W p l e (fx_room 10) s m _ below meth c s.heap [] 0 0 _ (entryFrame m ([.ref (E.1 4 655365 0), .int x1] : List Value).toArray 2)
  rw [lg_entry_eq]
  generalize (lg_sl ([.ref (E.1 4 655365 0), .int x1]) ++ List.replicate (2 - (lg_sl ([.ref (E.1 4 655365 0), .int x1])).length) Slot.unset).toArray = ls at hl2 ⊢
  have hl2 : lv_has ls 2 [(0, .ref (E.1 4 655365 0)), (1, .int x1)] := hl2
  have hVS : va_S (ux_A E) s.heap s.heap [] := va_S.rf
  have hRep : ux_Rep E M s.heap := hRep
  refine lv_aload_n hx hb dx_126_0 rfl (lv_at hl2 0 rfl) ?_
  refine lv_iload_n hx hb dx_126_1 rfl (lv_at hl2 1 rfl) ?_
  exact fx_Ubad hE hl G hno rfl h0 hRep hVS hl2.1 dx_126_2
theorem tx_127_0 {l : Launch} {E : ux_E} {M : ux_M} {x1 : Int32} (hS : ux_SpecOK l E ux_chs) (hE : ux_THok E) (hl : l.stackTraces = false) (h0 : ¬ z_iu M x1) : fx_Met l E y_127 10 [aR 4 655365 0, aI x1] M fx_IO := by
  refine vx_ofW (cc := y_127.2.1) (maxL := y_127.2.2.1) (ret := y_127.2.2.2) (by decide +kernel) rfl ?_
  intro p e s m args below meth c s₁ B hml hno hv
  obtain ⟨rfl, hRep, hK⟩ := hv
  have hx := B.exec
  have hb : c.code = y_127.2.1 := B.bytes
  have G : ux_G l E y_127 p s m _ meth c := ⟨B.exec, B.bytes, hml, findClass_of_methodNamed B.named, atoms_spec (ws := ux_ws y_127) B.pre, hK, B.notSynchronized, B.returns⟩
  have hl2 := lv_entry ([.ref (E.1 4 655365 0), .int x1]) (n := 3) (Nat.le_of_ble_eq_true rfl)
  show W p l e (fx_room 10) s m _ below meth c s.heap [] 0 0 _ (entryFrame m ([.ref (E.1 4 655365 0), .int x1] : List Value).toArray 3)
  rw [lg_entry_eq]
  generalize (lg_sl ([.ref (E.1 4 655365 0), .int x1]) ++ List.replicate (3 - (lg_sl ([.ref (E.1 4 655365 0), .int x1])).length) Slot.unset).toArray = ls at hl2 ⊢
  have hl2 : lv_has ls 3 [(0, .ref (E.1 4 655365 0)), (1, .int x1)] := hl2
  have hVS : va_S (ux_A E) s.heap s.heap [] := va_S.rf
  have hRep : ux_Rep E M s.heap := hRep
  refine lv_aload_n hx hb dx_127_0 rfl (lv_at hl2 0 rfl) ?_
  refine lv_iload_n hx hb dx_127_1 rfl (lv_at hl2 1 rfl) ?_
  exact fx_Ubad hE hl G hno rfl h0 hRep hVS hl2.1 dx_127_2
theorem tx_128_0 {l : Launch} {E : ux_E} {M : ux_M} {x1 : Int32} (hS : ux_SpecOK l E ux_chs) (hE : ux_THok E) (hl : l.stackTraces = false) (h0 : ¬ z_iu M x1) : fx_Met l E y_128 10 [aR 4 655365 0, aI x1] M fx_IO := by
  refine vx_ofW (cc := y_128.2.1) (maxL := y_128.2.2.1) (ret := y_128.2.2.2) (by decide +kernel) rfl ?_
  intro p e s m args below meth c s₁ B hml hno hv
  obtain ⟨rfl, hRep, hK⟩ := hv
  have hx := B.exec
  have hb : c.code = y_128.2.1 := B.bytes
  have G : ux_G l E y_128 p s m _ meth c := ⟨B.exec, B.bytes, hml, findClass_of_methodNamed B.named, atoms_spec (ws := ux_ws y_128) B.pre, hK, B.notSynchronized, B.returns⟩
  have hl2 := lv_entry ([.ref (E.1 4 655365 0), .int x1]) (n := 2) (Nat.le_of_ble_eq_true rfl)
  show W p l e (fx_room 10) s m _ below meth c s.heap [] 0 0 _ (entryFrame m ([.ref (E.1 4 655365 0), .int x1] : List Value).toArray 2)
  rw [lg_entry_eq]
  generalize (lg_sl ([.ref (E.1 4 655365 0), .int x1]) ++ List.replicate (2 - (lg_sl ([.ref (E.1 4 655365 0), .int x1])).length) Slot.unset).toArray = ls at hl2 ⊢
  have hl2 : lv_has ls 2 [(0, .ref (E.1 4 655365 0)), (1, .int x1)] := hl2
  have hVS : va_S (ux_A E) s.heap s.heap [] := va_S.rf
  have hRep : ux_Rep E M s.heap := hRep
  refine lv_aload_n hx hb dx_128_0 rfl (lv_at hl2 0 rfl) ?_
  refine lv_iload_n hx hb dx_128_1 rfl (lv_at hl2 1 rfl) ?_
  exact fx_Ubad hE hl G hno rfl h0 hRep hVS hl2.1 dx_128_2
theorem tx_129_0 {l : Launch} {E : ux_E} {M : ux_M} {x1 : Int32} (hS : ux_SpecOK l E ux_chs) (hE : ux_THok E) (hl : l.stackTraces = false) (h0 : ¬ z_iu M x1) : fx_Met l E y_129 10 [aR 4 655365 0, aI x1] M fx_IO := by
  refine vx_ofW (cc := y_129.2.1) (maxL := y_129.2.2.1) (ret := y_129.2.2.2) (by decide +kernel) rfl ?_
  intro p e s m args below meth c s₁ B hml hno hv
  obtain ⟨rfl, hRep, hK⟩ := hv
  have hx := B.exec
  have hb : c.code = y_129.2.1 := B.bytes
  have G : ux_G l E y_129 p s m _ meth c := ⟨B.exec, B.bytes, hml, findClass_of_methodNamed B.named, atoms_spec (ws := ux_ws y_129) B.pre, hK, B.notSynchronized, B.returns⟩
  have hl2 := lv_entry ([.ref (E.1 4 655365 0), .int x1]) (n := 2) (Nat.le_of_ble_eq_true rfl)
  show W p l e (fx_room 10) s m _ below meth c s.heap [] 0 0 _ (entryFrame m ([.ref (E.1 4 655365 0), .int x1] : List Value).toArray 2)
  rw [lg_entry_eq]
  generalize (lg_sl ([.ref (E.1 4 655365 0), .int x1]) ++ List.replicate (2 - (lg_sl ([.ref (E.1 4 655365 0), .int x1])).length) Slot.unset).toArray = ls at hl2 ⊢
  have hl2 : lv_has ls 2 [(0, .ref (E.1 4 655365 0)), (1, .int x1)] := hl2
  have hVS : va_S (ux_A E) s.heap s.heap [] := va_S.rf
  have hRep : ux_Rep E M s.heap := hRep
  refine lv_aload_n hx hb dx_129_0 rfl (lv_at hl2 0 rfl) ?_
  refine lv_iload_n hx hb dx_129_1 rfl (lv_at hl2 1 rfl) ?_
  exact fx_Ubad hE hl G hno rfl h0 hRep hVS hl2.1 dx_129_2
theorem tx_130_0 {l : Launch} {E : ux_E} {M : ux_M} {x1 : Int32} (hS : ux_SpecOK l E ux_chs) (hE : ux_THok E) (hl : l.stackTraces = false) (h0 : ¬ z_iu M x1) : fx_Met l E y_130 10 [aR 4 655365 0, aI x1] M fx_IO := by
  refine vx_ofW (cc := y_130.2.1) (maxL := y_130.2.2.1) (ret := y_130.2.2.2) (by decide +kernel) rfl ?_
  intro p e s m args below meth c s₁ B hml hno hv
  obtain ⟨rfl, hRep, hK⟩ := hv
  have hx := B.exec
  have hb : c.code = y_130.2.1 := B.bytes
  have G : ux_G l E y_130 p s m _ meth c := ⟨B.exec, B.bytes, hml, findClass_of_methodNamed B.named, atoms_spec (ws := ux_ws y_130) B.pre, hK, B.notSynchronized, B.returns⟩
  have hl2 := lv_entry ([.ref (E.1 4 655365 0), .int x1]) (n := 2) (Nat.le_of_ble_eq_true rfl)
  show W p l e (fx_room 10) s m _ below meth c s.heap [] 0 0 _ (entryFrame m ([.ref (E.1 4 655365 0), .int x1] : List Value).toArray 2)
  rw [lg_entry_eq]
  generalize (lg_sl ([.ref (E.1 4 655365 0), .int x1]) ++ List.replicate (2 - (lg_sl ([.ref (E.1 4 655365 0), .int x1])).length) Slot.unset).toArray = ls at hl2 ⊢
  have hl2 : lv_has ls 2 [(0, .ref (E.1 4 655365 0)), (1, .int x1)] := hl2
  have hVS : va_S (ux_A E) s.heap s.heap [] := va_S.rf
  have hRep : ux_Rep E M s.heap := hRep
  refine lv_aload_n hx hb dx_130_0 rfl (lv_at hl2 0 rfl) ?_
  refine lv_iload_n hx hb dx_130_1 rfl (lv_at hl2 1 rfl) ?_
  exact fx_Ubad hE hl G hno rfl h0 hRep hVS hl2.1 dx_130_2
theorem tx_131_0 {l : Launch} {E : ux_E} {M : ux_M} {x1 : Int32} (hS : ux_SpecOK l E ux_chs) (hE : ux_THok E) (hl : l.stackTraces = false) (h0 : ¬ z_iu M x1) : fx_Met l E y_131 10 [aR 4 655365 0, aI x1] M fx_IO := by
  refine vx_ofW (cc := y_131.2.1) (maxL := y_131.2.2.1) (ret := y_131.2.2.2) (by decide +kernel) rfl ?_
  intro p e s m args below meth c s₁ B hml hno hv
  obtain ⟨rfl, hRep, hK⟩ := hv
  have hx := B.exec
  have hb : c.code = y_131.2.1 := B.bytes
  have G : ux_G l E y_131 p s m _ meth c := ⟨B.exec, B.bytes, hml, findClass_of_methodNamed B.named, atoms_spec (ws := ux_ws y_131) B.pre, hK, B.notSynchronized, B.returns⟩
  have hl2 := lv_entry ([.ref (E.1 4 655365 0), .int x1]) (n := 2) (Nat.le_of_ble_eq_true rfl)
  show W p l e (fx_room 10) s m _ below meth c s.heap [] 0 0 _ (entryFrame m ([.ref (E.1 4 655365 0), .int x1] : List Value).toArray 2)
  rw [lg_entry_eq]
  generalize (lg_sl ([.ref (E.1 4 655365 0), .int x1]) ++ List.replicate (2 - (lg_sl ([.ref (E.1 4 655365 0), .int x1])).length) Slot.unset).toArray = ls at hl2 ⊢
  have hl2 : lv_has ls 2 [(0, .ref (E.1 4 655365 0)), (1, .int x1)] := hl2
  have hVS : va_S (ux_A E) s.heap s.heap [] := va_S.rf
  have hRep : ux_Rep E M s.heap := hRep
  refine lv_aload_n hx hb dx_131_0 rfl (lv_at hl2 0 rfl) ?_
  refine lv_iload_n hx hb dx_131_1 rfl (lv_at hl2 1 rfl) ?_
  exact fx_Ubad hE hl G hno rfl h0 hRep hVS hl2.1 dx_131_2
theorem tx_132_0 {l : Launch} {E : ux_E} {M : ux_M} {x1 : Int32} (hS : ux_SpecOK l E ux_chs) (hE : ux_THok E) (hl : l.stackTraces = false) (h0 : ¬ z_iu M x1) : fx_Met l E y_132 10 [aR 4 655365 0, aI x1] M fx_IO := by
  refine vx_ofW (cc := y_132.2.1) (maxL := y_132.2.2.1) (ret := y_132.2.2.2) (by decide +kernel) rfl ?_
  intro p e s m args below meth c s₁ B hml hno hv
  obtain ⟨rfl, hRep, hK⟩ := hv
  have hx := B.exec
  have hb : c.code = y_132.2.1 := B.bytes
  have G : ux_G l E y_132 p s m _ meth c := ⟨B.exec, B.bytes, hml, findClass_of_methodNamed B.named, atoms_spec (ws := ux_ws y_132) B.pre, hK, B.notSynchronized, B.returns⟩
  have hl2 := lv_entry ([.ref (E.1 4 655365 0), .int x1]) (n := 2) (Nat.le_of_ble_eq_true rfl)
  show W p l e (fx_room 10) s m _ below meth c s.heap [] 0 0 _ (entryFrame m ([.ref (E.1 4 655365 0), .int x1] : List Value).toArray 2)
  rw [lg_entry_eq]
  generalize (lg_sl ([.ref (E.1 4 655365 0), .int x1]) ++ List.replicate (2 - (lg_sl ([.ref (E.1 4 655365 0), .int x1])).length) Slot.unset).toArray = ls at hl2 ⊢
  have hl2 : lv_has ls 2 [(0, .ref (E.1 4 655365 0)), (1, .int x1)] := hl2
  have hVS : va_S (ux_A E) s.heap s.heap [] := va_S.rf
  have hRep : ux_Rep E M s.heap := hRep
  refine lv_aload_n hx hb dx_132_0 rfl (lv_at hl2 0 rfl) ?_
  refine lv_iload_n hx hb dx_132_1 rfl (lv_at hl2 1 rfl) ?_
  exact fx_Ubad hE hl G hno rfl h0 hRep hVS hl2.1 dx_132_2
theorem tx_133_0 {l : Launch} {E : ux_E} {M : ux_M} {x1 : Int32} (hS : ux_SpecOK l E ux_chs) (hE : ux_THok E) (hl : l.stackTraces = false) (h0 : ¬ z_iu M x1) : fx_Met l E y_133 10 [aR 4 655365 0, aI x1] M fx_IO := by
  refine vx_ofW (cc := y_133.2.1) (maxL := y_133.2.2.1) (ret := y_133.2.2.2) (by decide +kernel) rfl ?_
  intro p e s m args below meth c s₁ B hml hno hv
  obtain ⟨rfl, hRep, hK⟩ := hv
  have hx := B.exec
  have hb : c.code = y_133.2.1 := B.bytes
  have G : ux_G l E y_133 p s m _ meth c := ⟨B.exec, B.bytes, hml, findClass_of_methodNamed B.named, atoms_spec (ws := ux_ws y_133) B.pre, hK, B.notSynchronized, B.returns⟩
  have hl2 := lv_entry ([.ref (E.1 4 655365 0), .int x1]) (n := 2) (Nat.le_of_ble_eq_true rfl)
  show W p l e (fx_room 10) s m _ below meth c s.heap [] 0 0 _ (entryFrame m ([.ref (E.1 4 655365 0), .int x1] : List Value).toArray 2)
  rw [lg_entry_eq]
  generalize (lg_sl ([.ref (E.1 4 655365 0), .int x1]) ++ List.replicate (2 - (lg_sl ([.ref (E.1 4 655365 0), .int x1])).length) Slot.unset).toArray = ls at hl2 ⊢
  have hl2 : lv_has ls 2 [(0, .ref (E.1 4 655365 0)), (1, .int x1)] := hl2
  have hVS : va_S (ux_A E) s.heap s.heap [] := va_S.rf
  have hRep : ux_Rep E M s.heap := hRep
  refine lv_aload_n hx hb dx_133_0 rfl (lv_at hl2 0 rfl) ?_
  refine lv_iload_n hx hb dx_133_1 rfl (lv_at hl2 1 rfl) ?_
  exact fx_Ubad hE hl G hno rfl h0 hRep hVS hl2.1 dx_133_2
theorem tx_134_0 {l : Launch} {E : ux_E} {M : ux_M} {x1 x2 : Int32} (hS : ux_SpecOK l E ux_chs) (hE : ux_THok E) (hl : l.stackTraces = false) (h0 : ¬ z_rg x2 0 2) : fx_Met l E y_134 10 [aR 4 655365 0, aI x1, aI x2] M fx_IA := by
  refine vx_ofW (cc := y_134.2.1) (maxL := y_134.2.2.1) (ret := y_134.2.2.2) (by decide +kernel) rfl ?_
  intro p e s m args below meth c s₁ B hml hno hv
  obtain ⟨rfl, hRep, hK⟩ := hv
  have hx := B.exec
  have hb : c.code = y_134.2.1 := B.bytes
  have G : ux_G l E y_134 p s m _ meth c := ⟨B.exec, B.bytes, hml, findClass_of_methodNamed B.named, atoms_spec (ws := ux_ws y_134) B.pre, hK, B.notSynchronized, B.returns⟩
  have hl2 := lv_entry ([.ref (E.1 4 655365 0), .int x1, .int x2]) (n := 3) (Nat.le_of_ble_eq_true rfl)
  show W p l e (fx_room 10) s m _ below meth c s.heap [] 0 0 _ (entryFrame m ([.ref (E.1 4 655365 0), .int x1, .int x2] : List Value).toArray 3)
  rw [lg_entry_eq]
  generalize (lg_sl ([.ref (E.1 4 655365 0), .int x1, .int x2]) ++ List.replicate (3 - (lg_sl ([.ref (E.1 4 655365 0), .int x1, .int x2])).length) Slot.unset).toArray = ls at hl2 ⊢
  have hl2 : lv_has ls 3 [(0, .ref (E.1 4 655365 0)), (1, .int x1), (2, .int x2)] := hl2
  have hVS : va_S (ux_A E) s.heap s.heap [] := va_S.rf
  have hRep : ux_Rep E M s.heap := hRep
  refine lv_iload_n hx hb dx_134_0 rfl (lv_at hl2 2 rfl) ?_
  refine lv_iconst (v := 0) hx hb dx_134_1 (by decide) ?_
  refine lv_iconst (v := 2) hx hb dx_134_2 (by decide) ?_
  exact fx_Rbad hE hl G hno rfl h0 hRep hVS hl2.1 dx_134_3
theorem tx_136_0 {l : Launch} {E : ux_E} {M : ux_M} {x1 : Int32} (hS : ux_SpecOK l E ux_chs) (hE : ux_THok E) (hl : l.stackTraces = false) (h0 : ¬ z_iu M x1) : fx_Met l E y_136 10 [aR 4 655365 0, aI x1] M fx_IO := by
  refine vx_ofW (cc := y_136.2.1) (maxL := y_136.2.2.1) (ret := y_136.2.2.2) (by decide +kernel) rfl ?_
  intro p e s m args below meth c s₁ B hml hno hv
  obtain ⟨rfl, hRep, hK⟩ := hv
  have hx := B.exec
  have hb : c.code = y_136.2.1 := B.bytes
  have G : ux_G l E y_136 p s m _ meth c := ⟨B.exec, B.bytes, hml, findClass_of_methodNamed B.named, atoms_spec (ws := ux_ws y_136) B.pre, hK, B.notSynchronized, B.returns⟩
  have hl2 := lv_entry ([.ref (E.1 4 655365 0), .int x1]) (n := 2) (Nat.le_of_ble_eq_true rfl)
  show W p l e (fx_room 10) s m _ below meth c s.heap [] 0 0 _ (entryFrame m ([.ref (E.1 4 655365 0), .int x1] : List Value).toArray 2)
  rw [lg_entry_eq]
  generalize (lg_sl ([.ref (E.1 4 655365 0), .int x1]) ++ List.replicate (2 - (lg_sl ([.ref (E.1 4 655365 0), .int x1])).length) Slot.unset).toArray = ls at hl2 ⊢
  have hl2 : lv_has ls 2 [(0, .ref (E.1 4 655365 0)), (1, .int x1)] := hl2
  have hVS : va_S (ux_A E) s.heap s.heap [] := va_S.rf
  have hRep : ux_Rep E M s.heap := hRep
  refine lv_aload_n hx hb dx_136_0 rfl (lv_at hl2 0 rfl) ?_
  refine lv_iload_n hx hb dx_136_1 rfl (lv_at hl2 1 rfl) ?_
  exact fx_Ubad hE hl G hno rfl h0 hRep hVS hl2.1 dx_136_2
theorem tx_137_0 {l : Launch} {E : ux_E} {M : ux_M} {x1 : Int32} (hS : ux_SpecOK l E ux_chs) (hE : ux_THok E) (hl : l.stackTraces = false) (h0 : ¬ z_iu M x1) : fx_Met l E y_137 10 [aR 4 655365 0, aI x1] M fx_IO := by
  refine vx_ofW (cc := y_137.2.1) (maxL := y_137.2.2.1) (ret := y_137.2.2.2) (by decide +kernel) rfl ?_
  intro p e s m args below meth c s₁ B hml hno hv
  obtain ⟨rfl, hRep, hK⟩ := hv
  have hx := B.exec
  have hb : c.code = y_137.2.1 := B.bytes
  have G : ux_G l E y_137 p s m _ meth c := ⟨B.exec, B.bytes, hml, findClass_of_methodNamed B.named, atoms_spec (ws := ux_ws y_137) B.pre, hK, B.notSynchronized, B.returns⟩
  have hl2 := lv_entry ([.ref (E.1 4 655365 0), .int x1]) (n := 2) (Nat.le_of_ble_eq_true rfl)
  show W p l e (fx_room 10) s m _ below meth c s.heap [] 0 0 _ (entryFrame m ([.ref (E.1 4 655365 0), .int x1] : List Value).toArray 2)
  rw [lg_entry_eq]
  generalize (lg_sl ([.ref (E.1 4 655365 0), .int x1]) ++ List.replicate (2 - (lg_sl ([.ref (E.1 4 655365 0), .int x1])).length) Slot.unset).toArray = ls at hl2 ⊢
  have hl2 : lv_has ls 2 [(0, .ref (E.1 4 655365 0)), (1, .int x1)] := hl2
  have hVS : va_S (ux_A E) s.heap s.heap [] := va_S.rf
  have hRep : ux_Rep E M s.heap := hRep
  refine lv_aload_n hx hb dx_137_0 rfl (lv_at hl2 0 rfl) ?_
  refine lv_iload_n hx hb dx_137_1 rfl (lv_at hl2 1 rfl) ?_
  exact fx_Ubad hE hl G hno rfl h0 hRep hVS hl2.1 dx_137_2
theorem tx_138_0 {l : Launch} {E : ux_E} {M : ux_M} {x1 : Int32} (hS : ux_SpecOK l E ux_chs) (hE : ux_THok E) (hl : l.stackTraces = false) (h0 : ¬ z_iu M x1) : fx_Met l E y_138 10 [aR 4 655365 0, aI x1] M fx_IO := by
  refine vx_ofW (cc := y_138.2.1) (maxL := y_138.2.2.1) (ret := y_138.2.2.2) (by decide +kernel) rfl ?_
  intro p e s m args below meth c s₁ B hml hno hv
  obtain ⟨rfl, hRep, hK⟩ := hv
  have hx := B.exec
  have hb : c.code = y_138.2.1 := B.bytes
  have G : ux_G l E y_138 p s m _ meth c := ⟨B.exec, B.bytes, hml, findClass_of_methodNamed B.named, atoms_spec (ws := ux_ws y_138) B.pre, hK, B.notSynchronized, B.returns⟩
  have hl2 := lv_entry ([.ref (E.1 4 655365 0), .int x1]) (n := 5) (Nat.le_of_ble_eq_true rfl)
  show W p l e (fx_room 10) s m _ below meth c s.heap [] 0 0 _ (entryFrame m ([.ref (E.1 4 655365 0), .int x1] : List Value).toArray 5)
  rw [lg_entry_eq]
  generalize (lg_sl ([.ref (E.1 4 655365 0), .int x1]) ++ List.replicate (5 - (lg_sl ([.ref (E.1 4 655365 0), .int x1])).length) Slot.unset).toArray = ls at hl2 ⊢
  have hl2 : lv_has ls 5 [(0, .ref (E.1 4 655365 0)), (1, .int x1)] := hl2
  have hVS : va_S (ux_A E) s.heap s.heap [] := va_S.rf
  have hRep : ux_Rep E M s.heap := hRep
  refine lv_aload_n hx hb dx_138_0 rfl (lv_at hl2 0 rfl) ?_
  refine lv_iload_n hx hb dx_138_1 rfl (lv_at hl2 1 rfl) ?_
  exact fx_Ubad hE hl G hno rfl h0 hRep hVS hl2.1 dx_138_2
theorem tx_139_0 {l : Launch} {E : ux_E} {M : ux_M} {x1 x2 : Int32} (hS : ux_SpecOK l E ux_chs) (hE : ux_THok E) (hl : l.stackTraces = false) (h0 : ¬ z_iu M x1) : fx_Met l E y_139 10 [aR 4 655365 0, aI x1, aI x2] M fx_IO := by
  refine vx_ofW (cc := y_139.2.1) (maxL := y_139.2.2.1) (ret := y_139.2.2.2) (by decide +kernel) rfl ?_
  intro p e s m args below meth c s₁ B hml hno hv
  obtain ⟨rfl, hRep, hK⟩ := hv
  have hx := B.exec
  have hb : c.code = y_139.2.1 := B.bytes
  have G : ux_G l E y_139 p s m _ meth c := ⟨B.exec, B.bytes, hml, findClass_of_methodNamed B.named, atoms_spec (ws := ux_ws y_139) B.pre, hK, B.notSynchronized, B.returns⟩
  have hl2 := lv_entry ([.ref (E.1 4 655365 0), .int x1, .int x2]) (n := 3) (Nat.le_of_ble_eq_true rfl)
  show W p l e (fx_room 10) s m _ below meth c s.heap [] 0 0 _ (entryFrame m ([.ref (E.1 4 655365 0), .int x1, .int x2] : List Value).toArray 3)
  rw [lg_entry_eq]
  generalize (lg_sl ([.ref (E.1 4 655365 0), .int x1, .int x2]) ++ List.replicate (3 - (lg_sl ([.ref (E.1 4 655365 0), .int x1, .int x2])).length) Slot.unset).toArray = ls at hl2 ⊢
  have hl2 : lv_has ls 3 [(0, .ref (E.1 4 655365 0)), (1, .int x1), (2, .int x2)] := hl2
  have hVS : va_S (ux_A E) s.heap s.heap [] := va_S.rf
  have hRep : ux_Rep E M s.heap := hRep
  refine lv_aload_n hx hb dx_139_0 rfl (lv_at hl2 0 rfl) ?_
  refine lv_iload_n hx hb dx_139_1 rfl (lv_at hl2 1 rfl) ?_
  exact fx_Ubad hE hl G hno rfl h0 hRep hVS hl2.1 dx_139_2
theorem tx_139_1 {l : Launch} {E : ux_E} {M : ux_M} {x1 x2 : Int32} (hS : ux_SpecOK l E ux_chs) (hE : ux_THok E) (hl : l.stackTraces = false) (h0 : z_iu M x1) (h1 : ¬ z_rg x2 0 1000) : fx_Met l E y_139 10 [aR 4 655365 0, aI x1, aI x2] M fx_IA := by
  refine vx_ofW (cc := y_139.2.1) (maxL := y_139.2.2.1) (ret := y_139.2.2.2) (by decide +kernel) rfl ?_
  intro p e s m args below meth c s₁ B hml hno hv
  obtain ⟨rfl, hRep, hK⟩ := hv
  have hx := B.exec
  have hb : c.code = y_139.2.1 := B.bytes
  have G : ux_G l E y_139 p s m _ meth c := ⟨B.exec, B.bytes, hml, findClass_of_methodNamed B.named, atoms_spec (ws := ux_ws y_139) B.pre, hK, B.notSynchronized, B.returns⟩
  have hl2 := lv_entry ([.ref (E.1 4 655365 0), .int x1, .int x2]) (n := 3) (Nat.le_of_ble_eq_true rfl)
  show W p l e (fx_room 10) s m _ below meth c s.heap [] 0 0 _ (entryFrame m ([.ref (E.1 4 655365 0), .int x1, .int x2] : List Value).toArray 3)
  rw [lg_entry_eq]
  generalize (lg_sl ([.ref (E.1 4 655365 0), .int x1, .int x2]) ++ List.replicate (3 - (lg_sl ([.ref (E.1 4 655365 0), .int x1, .int x2])).length) Slot.unset).toArray = ls at hl2 ⊢
  have hl2 : lv_has ls 3 [(0, .ref (E.1 4 655365 0)), (1, .int x1), (2, .int x2)] := hl2
  have hVS : va_S (ux_A E) s.heap s.heap [] := va_S.rf
  have hRep : ux_Rep E M s.heap := hRep
  refine lv_aload_n hx hb dx_139_0 rfl (lv_at hl2 0 rfl) ?_
  refine lv_iload_n hx hb dx_139_1 rfl (lv_at hl2 1 rfl) ?_
  refine fx_Uok hS G rfl h0 hRep hVS hl2.1 dx_139_2 (fun H1 locs1 hRep hVS => ?_)
  refine lv_iload_n hx hb dx_139_5 rfl (lv_at hl2 2 rfl) ?_
  refine lv_iconst (v := 0) hx hb dx_139_6 (by decide) ?_
  refine lv_sipush (v := 1000) hx hb dx_139_7 (by decide) ?_
  exact fx_Rbad hE hl G hno rfl h1 hRep hVS hl2.1 dx_139_10
theorem tx_140_0 {l : Launch} {E : ux_E} {M : ux_M} {x1 x2 : Int32} (hS : ux_SpecOK l E ux_chs) (hE : ux_THok E) (hl : l.stackTraces = false) (h0 : ¬ z_iu M x1) : fx_Met l E y_140 10 [aR 4 655365 0, aI x1, aI x2] M fx_IO := by
  refine vx_ofW (cc := y_140.2.1) (maxL := y_140.2.2.1) (ret := y_140.2.2.2) (by decide +kernel) rfl ?_
  intro p e s m args below meth c s₁ B hml hno hv
  obtain ⟨rfl, hRep, hK⟩ := hv
  have hx := B.exec
  have hb : c.code = y_140.2.1 := B.bytes
  have G : ux_G l E y_140 p s m _ meth c := ⟨B.exec, B.bytes, hml, findClass_of_methodNamed B.named, atoms_spec (ws := ux_ws y_140) B.pre, hK, B.notSynchronized, B.returns⟩
  have hl2 := lv_entry ([.ref (E.1 4 655365 0), .int x1, .int x2]) (n := 3) (Nat.le_of_ble_eq_true rfl)
  show W p l e (fx_room 10) s m _ below meth c s.heap [] 0 0 _ (entryFrame m ([.ref (E.1 4 655365 0), .int x1, .int x2] : List Value).toArray 3)
  rw [lg_entry_eq]
  generalize (lg_sl ([.ref (E.1 4 655365 0), .int x1, .int x2]) ++ List.replicate (3 - (lg_sl ([.ref (E.1 4 655365 0), .int x1, .int x2])).length) Slot.unset).toArray = ls at hl2 ⊢
  have hl2 : lv_has ls 3 [(0, .ref (E.1 4 655365 0)), (1, .int x1), (2, .int x2)] := hl2
  have hVS : va_S (ux_A E) s.heap s.heap [] := va_S.rf
  have hRep : ux_Rep E M s.heap := hRep
  refine lv_aload_n hx hb dx_140_0 rfl (lv_at hl2 0 rfl) ?_
  refine lv_iload_n hx hb dx_140_1 rfl (lv_at hl2 1 rfl) ?_
  exact fx_Ubad hE hl G hno rfl h0 hRep hVS hl2.1 dx_140_2
theorem tx_140_1 {l : Launch} {E : ux_E} {M : ux_M} {x1 x2 : Int32} (hS : ux_SpecOK l E ux_chs) (hE : ux_THok E) (hl : l.stackTraces = false) (h0 : z_iu M x1) (h1 : ¬ z_rg x2 0 200) : fx_Met l E y_140 10 [aR 4 655365 0, aI x1, aI x2] M fx_IA := by
  refine vx_ofW (cc := y_140.2.1) (maxL := y_140.2.2.1) (ret := y_140.2.2.2) (by decide +kernel) rfl ?_
  intro p e s m args below meth c s₁ B hml hno hv
  obtain ⟨rfl, hRep, hK⟩ := hv
  have hx := B.exec
  have hb : c.code = y_140.2.1 := B.bytes
  have G : ux_G l E y_140 p s m _ meth c := ⟨B.exec, B.bytes, hml, findClass_of_methodNamed B.named, atoms_spec (ws := ux_ws y_140) B.pre, hK, B.notSynchronized, B.returns⟩
  have hl2 := lv_entry ([.ref (E.1 4 655365 0), .int x1, .int x2]) (n := 3) (Nat.le_of_ble_eq_true rfl)
  show W p l e (fx_room 10) s m _ below meth c s.heap [] 0 0 _ (entryFrame m ([.ref (E.1 4 655365 0), .int x1, .int x2] : List Value).toArray 3)
  rw [lg_entry_eq]
  generalize (lg_sl ([.ref (E.1 4 655365 0), .int x1, .int x2]) ++ List.replicate (3 - (lg_sl ([.ref (E.1 4 655365 0), .int x1, .int x2])).length) Slot.unset).toArray = ls at hl2 ⊢
  have hl2 : lv_has ls 3 [(0, .ref (E.1 4 655365 0)), (1, .int x1), (2, .int x2)] := hl2
  have hVS : va_S (ux_A E) s.heap s.heap [] := va_S.rf
  have hRep : ux_Rep E M s.heap := hRep
  refine lv_aload_n hx hb dx_140_0 rfl (lv_at hl2 0 rfl) ?_
  refine lv_iload_n hx hb dx_140_1 rfl (lv_at hl2 1 rfl) ?_
  refine fx_Uok hS G rfl h0 hRep hVS hl2.1 dx_140_2 (fun H1 locs1 hRep hVS => ?_)
  refine lv_iload_n hx hb dx_140_5 rfl (lv_at hl2 2 rfl) ?_
  refine lv_iconst (v := 0) hx hb dx_140_6 (by decide) ?_
  refine lv_sipush (v := 200) hx hb dx_140_7 (by decide) ?_
  exact fx_Rbad hE hl G hno rfl h1 hRep hVS hl2.1 dx_140_10
theorem tx_141_0 {l : Launch} {E : ux_E} {M : ux_M} {x1 : Int32} (hS : ux_SpecOK l E ux_chs) (hE : ux_THok E) (hl : l.stackTraces = false) (h0 : ¬ z_iu M x1) : fx_Met l E y_141 10 [aR 4 655365 0, aI x1] M fx_IO := by
  refine vx_ofW (cc := y_141.2.1) (maxL := y_141.2.2.1) (ret := y_141.2.2.2) (by decide +kernel) rfl ?_
  intro p e s m args below meth c s₁ B hml hno hv
  obtain ⟨rfl, hRep, hK⟩ := hv
  have hx := B.exec
  have hb : c.code = y_141.2.1 := B.bytes
  have G : ux_G l E y_141 p s m _ meth c := ⟨B.exec, B.bytes, hml, findClass_of_methodNamed B.named, atoms_spec (ws := ux_ws y_141) B.pre, hK, B.notSynchronized, B.returns⟩
  have hl2 := lv_entry ([.ref (E.1 4 655365 0), .int x1]) (n := 3) (Nat.le_of_ble_eq_true rfl)
  show W p l e (fx_room 10) s m _ below meth c s.heap [] 0 0 _ (entryFrame m ([.ref (E.1 4 655365 0), .int x1] : List Value).toArray 3)
  rw [lg_entry_eq]
  generalize (lg_sl ([.ref (E.1 4 655365 0), .int x1]) ++ List.replicate (3 - (lg_sl ([.ref (E.1 4 655365 0), .int x1])).length) Slot.unset).toArray = ls at hl2 ⊢
  have hl2 : lv_has ls 3 [(0, .ref (E.1 4 655365 0)), (1, .int x1)] := hl2
  have hVS : va_S (ux_A E) s.heap s.heap [] := va_S.rf
  have hRep : ux_Rep E M s.heap := hRep
  refine lv_aload_n hx hb dx_141_0 rfl (lv_at hl2 0 rfl) ?_
  refine lv_iload_n hx hb dx_141_1 rfl (lv_at hl2 1 rfl) ?_
  exact fx_Ubad hE hl G hno rfl h0 hRep hVS hl2.1 dx_141_2
theorem tx_143_0 {l : Launch} {E : ux_E} {M : ux_M} {x1 : Int32} (hS : ux_SpecOK l E ux_chs) (hE : ux_THok E) (hl : l.stackTraces = false) (h0 : ¬ z_rg x1 0 1) : fx_Met l E y_143 10 [aR 4 655365 0, aI x1] M fx_IA := by
  refine vx_ofW (cc := y_143.2.1) (maxL := y_143.2.2.1) (ret := y_143.2.2.2) (by decide +kernel) rfl ?_
  intro p e s m args below meth c s₁ B hml hno hv
  obtain ⟨rfl, hRep, hK⟩ := hv
  have hx := B.exec
  have hb : c.code = y_143.2.1 := B.bytes
  have G : ux_G l E y_143 p s m _ meth c := ⟨B.exec, B.bytes, hml, findClass_of_methodNamed B.named, atoms_spec (ws := ux_ws y_143) B.pre, hK, B.notSynchronized, B.returns⟩
  have hl2 := lv_entry ([.ref (E.1 4 655365 0), .int x1]) (n := 2) (Nat.le_of_ble_eq_true rfl)
  show W p l e (fx_room 10) s m _ below meth c s.heap [] 0 0 _ (entryFrame m ([.ref (E.1 4 655365 0), .int x1] : List Value).toArray 2)
  rw [lg_entry_eq]
  generalize (lg_sl ([.ref (E.1 4 655365 0), .int x1]) ++ List.replicate (2 - (lg_sl ([.ref (E.1 4 655365 0), .int x1])).length) Slot.unset).toArray = ls at hl2 ⊢
  have hl2 : lv_has ls 2 [(0, .ref (E.1 4 655365 0)), (1, .int x1)] := hl2
  have hVS : va_S (ux_A E) s.heap s.heap [] := va_S.rf
  have hRep : ux_Rep E M s.heap := hRep
  refine lv_iload_n hx hb dx_143_0 rfl (lv_at hl2 1 rfl) ?_
  refine lv_iconst (v := 0) hx hb dx_143_1 (by decide) ?_
  refine lv_iconst (v := 1) hx hb dx_143_2 (by decide) ?_
  exact fx_Rbad hE hl G hno rfl h0 hRep hVS hl2.1 dx_143_3
theorem tx_144_0 {l : Launch} {E : ux_E} {M : ux_M} {x1 : Int32} (hS : ux_SpecOK l E ux_chs) (hE : ux_THok E) (hl : l.stackTraces = false) (h0 : ¬ z_rg x1 0 1) : fx_Met l E y_144 10 [aR 4 655365 0, aI x1] M fx_IA := by
  refine vx_ofW (cc := y_144.2.1) (maxL := y_144.2.2.1) (ret := y_144.2.2.2) (by decide +kernel) rfl ?_
  intro p e s m args below meth c s₁ B hml hno hv
  obtain ⟨rfl, hRep, hK⟩ := hv
  have hx := B.exec
  have hb : c.code = y_144.2.1 := B.bytes
  have G : ux_G l E y_144 p s m _ meth c := ⟨B.exec, B.bytes, hml, findClass_of_methodNamed B.named, atoms_spec (ws := ux_ws y_144) B.pre, hK, B.notSynchronized, B.returns⟩
  have hl2 := lv_entry ([.ref (E.1 4 655365 0), .int x1]) (n := 3) (Nat.le_of_ble_eq_true rfl)
  show W p l e (fx_room 10) s m _ below meth c s.heap [] 0 0 _ (entryFrame m ([.ref (E.1 4 655365 0), .int x1] : List Value).toArray 3)
  rw [lg_entry_eq]
  generalize (lg_sl ([.ref (E.1 4 655365 0), .int x1]) ++ List.replicate (3 - (lg_sl ([.ref (E.1 4 655365 0), .int x1])).length) Slot.unset).toArray = ls at hl2 ⊢
  have hl2 : lv_has ls 3 [(0, .ref (E.1 4 655365 0)), (1, .int x1)] := hl2
  have hVS : va_S (ux_A E) s.heap s.heap [] := va_S.rf
  have hRep : ux_Rep E M s.heap := hRep
  refine lv_iload_n hx hb dx_144_0 rfl (lv_at hl2 1 rfl) ?_
  refine lv_iconst (v := 0) hx hb dx_144_1 (by decide) ?_
  refine lv_iconst (v := 1) hx hb dx_144_2 (by decide) ?_
  exact fx_Rbad hE hl G hno rfl h0 hRep hVS hl2.1 dx_144_3
