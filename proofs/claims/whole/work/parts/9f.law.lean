/-! THE LAW, 1: its calls, its reads of the script, its comparisons (by wip/whole/gen9f.py) -/
abbrev fl_own : String := "ServiceManagerLaw"
/-- what the law knows all along -/
def fl_G (E : ux_E) (p : Program) (s : State) (m : MethodId) (args : Array Value) (c : Code) (b L : Nat) (xs : Nat → Int32) (qo : Nat) : Prop :=
  CallFix p m c code 7 s args lw_tbl fl_own ∧ ux_K E s s.heap ∧ va_X b L xs s s.heap ∧ b < s.heap.size ∧ (∀ q, ux_A E q → s.heap.size ≤ q) ∧ s.heap.size ≤ qo ∧ ¬ ux_A E qo ∧ L ≤ 2048
/-- the memory between two calls -/
def fl_V (E : ux_E) (s : State) (qo : Nat) (v : Int64) (M : ux_M) (H : Heap) : Prop := ux_Rep E M H ∧ hx_o E qo v H ∧ va_S (ux_A E) s.heap H []
/-- the locals at the loop's head -/
def fl_L (E : ux_E) (b qo n : Nat) : List (Nat × Value) := [(0, .ref b), (1, .ref (E.1 4 655365 0)), (2, .ref (E.1 5 819253 0)), (3, .ref qo), (4, .int (nI (4 * n)))]
def fl_b (x : Int32) : Int32 := if x = 0 then 0 else 1
def fl_c (a : Int32) : Int64 := if a = 0 then 0 else 1
theorem fl_sub : ∀ w ∈ ux_good, w ∈ lw_tbl := fun w h => (List.mem_filter.mp h).1
theorem fl_same (x : Int64) : lg_cmp x x = 0 := (lg_cmp_eq x x).mpr rfl
section FLA
variable {p : Program} {l : Launch} {E : ux_E} {e : Env} {s : State} {m : MethodId} {args : Array Value} {below : List Frame} {meth : Method} {c : Code} {H : Heap} {cells slots : Nat} {Q : State → Prop} {M : ux_M} {pc b L qo n : Nat} {xs : Nat → Int32} {ls : Array Slot} {rest : List Value} {v : Int64}
/-- a call of the class or of the reference -/
theorem fl_call (G : fl_G E p s m args c b L xs qo) {y2 : ux_Y} {i k pp p1 p2 ci d : Nat} {q : Nat × Nat × Nat} {As : List ux_V} {QE : Option ux_V → ux_M → Prop}
    (hk : (parseMethodDescriptor y2.1.desc).map (fun d => d.parameters.length) = some k) (hw : lw_tbl[pp]? = some (.methodLink fl_own i y2.1)) (hw1 : lw_tbl[p1]? = some (.instanceMethod y2.1)) (hw2 : lw_tbl[p2]? = some (.selects y2.1.cls y2.1 y2.1))
    (hdq : ux_dom q.1 q.2.1 q.2.2 = true) (h5 : q.2.1 % 8 = 5) (hn : ux_n q.2.1 = ci) (hci : ci < 7) (hcl : ux_rM ci = y2.1.cls) (hAs : As.length = k) (hok : ∀ v ∈ As, ux_okV v) (hcat : (rest.map fun v => v.category).sum ≤ 8) (hcall : ux_Call l E d y2 (.inr (.inr q) :: As) M QE) (hd60 : d ≤ 60) (hce : cells ≤ 601024 ∧ slots ≤ 7293034)
    (hV : fl_V E s qo v M H) (hls : ls.size = 7) (hd : decode code pc = .ok (.invokevirtual i, 3))
    (kk : ∀ (r : Option ux_V) (M' : ux_M) (H1 : Heap), QE r M' → fl_V E s qo v M' H1 → W p l e room_1 s m args below meth c H1 [] cells slots Q (F0 m (pc + 3) ls ((r.map (ux_rho E)).toList ++ rest))) :
    W p l e room_1 s m args below meth c H [] cells slots Q (F0 m pc ls ((As.map (ux_rho E)).reverse ++ .ref (E.1 q.1 q.2.1 q.2.2) :: rest)) := by
  obtain ⟨hR, ho, hS⟩ := hV
  obtain ⟨g1, hK, hX, hbl, hA, hqs, hqo, hL⟩ := id G
  refine fx_callv (own := fl_own) (Ts := lw_tbl) g1 fl_sub g1.2.2.2.2 hK hk hw hw1 hw2 hdq h5 hn hci hcl hAs hok hcat hcall ⟨by show d + 5 ≤ 2048; omega, by show 60 * d + 360 ≤ 84000; omega⟩ hce hR hS hls hd (fun r M' H1 locs1 hq hR1 hS1 hz hk1 => ?_)
  refine va_forget (fun q hq => hA _ (hS1.2.2 q hq)) ?_
  exact kk r M' H1 hq ⟨hR1, ho.keep hqo hk1, hS1.1, hS1.2.1, fun l h => by cases h⟩
/-- a call of a helper -/
theorem fl_hlp (G : fl_G E p s m args c b L xs qo) {y : ux_Y} {hh : List (Nat × Nat × Nat × Nat)} {av : List ux_V} {i k pp p1 p3 pi : Nat} {QQ : Int32 → Int64 → ux_M → Prop}
    (hM : hx_Met l E y hh av qo v M QQ) (hk : (parseMethodDescriptor y.1.desc).map (fun d => d.parameters.length) = some k) (hn : av.length + 1 = k) (hw : lw_tbl[pp]? = some (.methodLink fl_own i y.1)) (hw1 : lw_tbl[p1]? = some (.static y.1)) (hw2 : lw_tbl[p3]? = some (.codeWith y.1 y.2.1 y.2.2.1 y.2.2.2 hh)) (hw3 : lw_tbl[pi]? = some (.initialized y.1.cls))
    (hcl : y.1.cls ≠ "java/lang/invoke/MethodHandle" ∧ y.1.cls ≠ "java/lang/invoke/VarHandle") (h30 : y.2.2.1 ≤ 30) (hcat : (rest.map fun v => v.category).sum ≤ 8) (hce : cells + 1 ≤ 601024 ∧ slots + 6 ≤ 7293034)
    (hV : fl_V E s qo v M H) (hls : ls.size = 7) (hd : decode code pc = .ok (.invokestatic i, 3))
    (kk : ∀ (r : Int32) (v1 : Int64) (M' : ux_M) (H1 : Heap), QQ r v1 M' → fl_V E s qo v1 M' H1 → W p l e room_1 s m args below meth c H1 [] (cells + 1) (slots + 6) Q (F0 m (pc + 3) ls (.int r :: rest))) :
    W p l e room_1 s m args below meth c H [] cells slots Q (F0 m pc ls (.ref qo :: ((av.map (ux_rho E)).reverse ++ rest))) := by
  obtain ⟨hR, ho, hS⟩ := hV
  obtain ⟨g1, hK, hX, hbl, hA, hqs, hqo, hL⟩ := id G
  have hG : GoodIn lw_tbl (va_wsS fl_own i y.1 (hx_ws y hh)) := by
    intro w hwm
    unfold va_wsS at hwm
    rcases List.mem_append.mp hwm with h | h
    · simp only [List.mem_cons, List.not_mem_nil, or_false] at h
      rcases h with rfl | rfl | rfl
      · exact ⟨ux_at hw, good_of_word rfl⟩
      · exact ⟨ux_at hw1, good_of_word rfl⟩
      · exact ⟨ux_at hw3, good_of_word rfl⟩
    · rcases List.mem_cons.mp h with rfl | h
      · exact ⟨ux_at hw2, good_of_word rfl⟩
      · exact ⟨(List.mem_filter.mp h).1, good_of_word (List.mem_filter.mp h).2⟩
  have hr := vx_runSW (R := room_1) (below := below) (meth := meth) (locs := []) (cells := cells) (slots := slots) (H := H) (e := e) (As := av.map (ux_rho E) ++ [.ref qo]) (rest := rest) (g := F0 m pc ls (.ref qo :: ((av.map (ux_rho E)).reverse ++ rest))) g1 hM (vx_cwSW k g1.2.2.2.2 hG rfl rfl rfl ⟨hcl.1, hcl.2, hk⟩ ⟨Nat.le_of_ble_eq_true rfl, by show 8 + (y.2.2.1 + 11) + 3900 ≤ 84000; omega⟩)
    ⟨hx_blind, fun U hU hW => ⟨rfl, ⟨by rw [hU]; exact hR, ux_K_warm hK hW hS hU⟩, by rw [hU]; exact ho⟩⟩ rfl (by rw [List.length_append, List.length_map]; exact hn) hls (by rw [List.reverse_append]; rfl) (lv_room hcat) hd hce
  intro T hT X
  obtain ⟨vv, st₀, t, T', L', h0, X', hL', e1, e2, ⟨r, v1, M', hv, hq, hrep, ho', hz, hk1⟩, st⟩ := hr T hT X
  cases hv
  rw [h0] at hz hk1
  have hfr : ∀ q ∈ [] ++ L', s.heap.size ≤ q.base := fun q hq => by
    rcases List.mem_append.mp hq with h | h
    · cases h
    · rcases hL' q h with h | h
      · exact hA _ h
      · rw [h]; exact hqs
  obtain ⟨t2, a1, b1⟩ := (va_forget hfr (kk r v1 M' T'.heap hq ⟨by rw [e1]; exact hrep, by rw [e1]; exact ho', Nat.le_trans hS.1 (by rw [e1]; exact hz), fun q h1 h2 => by
    rw [e1, hk1 q (Nat.lt_of_lt_of_le h1 hS.1) (fun z => z.elim h2 (fun z => by omega))]
    exact hS.2.1 q h1 h2, fun l h => by cases h⟩)) T' rfl X'
  exact ⟨t2, st t2 a1, b1⟩
/-- script[i + k] -/
theorem fl_arg (G : fl_G E p s m args c b L xs qo) (hS : va_S (ux_A E) s.heap H []) {k : Nat} (hk : 4 * n + k < L) (hki : Int32.ofInt (k : Int) = nI k) (h0 : ls[0]? = some (.val (.ref b))) (h4 : ls[4]? = some (.val (.int (nI (4 * n)))))
    (d0 : decode code pc = .ok (.aload_n 0, 1)) (d1 : decode code (pc + 1) = .ok (.iload 4, 2)) (d2 : decode code (pc + 1 + 2) = .ok (.iconst (k : Int), 1)) (d3 : decode code (pc + 1 + 2 + 1) = .ok (.iadd, 1)) (d4 : decode code (pc + 1 + 2 + 1 + 1) = .ok (.iaload, 1))
    (kk : W p l e room_1 s m args below meth c H [] cells slots Q (F0 m (pc + 6) ls (.int (xs (4 * n + k)) :: rest))) : W p l e room_1 s m args below meth c H [] cells slots Q (F0 m pc ls rest) := by
  obtain ⟨⟨hx, hb, -⟩, hK, hX, hbl, hA, hqs, hqo, hL⟩ := G
  refine lv_aload_n hx hb d0 rfl h0 ?_
  refine lv_iload hx hb d1 h4 ?_
  refine lv_iconst (v := nI k) hx hb d2 hki ?_
  refine lv_iadd hx hb d3 ?_
  rw [z_add]
  refine va_sld (A := ux_A E) hx hb hX hbl (fun z => by have := hA b z; omega) hS (z_in hk (by omega)) d4 ?_
  rw [z_cls (by omega)]
  exact kk
/-- script[i] -/
theorem fl_arg0 (G : fl_G E p s m args c b L xs qo) (hS : va_S (ux_A E) s.heap H []) (hk : 4 * n < L) (h0 : ls[0]? = some (.val (.ref b))) (h4 : ls[4]? = some (.val (.int (nI (4 * n)))))
    (d0 : decode code pc = .ok (.aload_n 0, 1)) (d1 : decode code (pc + 1) = .ok (.iload 4, 2)) (d4 : decode code (pc + 1 + 2) = .ok (.iaload, 1))
    (kk : W p l e room_1 s m args below meth c H [] cells slots Q (F0 m (pc + 4) ls (.int (xs (4 * n)) :: rest))) : W p l e room_1 s m args below meth c H [] cells slots Q (F0 m pc ls rest) := by
  obtain ⟨⟨hx, hb, -⟩, hK, hX, hbl, hA, hqs, hqo, hL⟩ := G
  refine lv_aload_n hx hb d0 rfl h0 ?_
  refine lv_iload hx hb d1 h4 ?_
  refine va_sld (A := ux_A E) hx hb hX hbl (fun z => by have := hA b z; omega) hS (z_in hk (by omega)) d4 ?_
  rw [z_cls (by omega)]
  exact kk
/-- x != 0 -/
theorem fl_bool (G : fl_G E p s m args c b L xs qo) {x : Int32} (d0 : decode code pc = .ok (.ifCond .eq 7, 3)) (d1 : decode code (pc + 3) = .ok (.iconst 1, 1)) (d2 : decode code (pc + 3 + 1) = .ok (.goto 4, 3)) (d3 : decode code (pc + 7) = .ok (.iconst 0, 1))
    (kk : W p l e room_1 s m args below meth c H [] cells slots Q (F0 m (pc + 8) ls (.int (fl_b x) :: rest))) : W p l e room_1 s m args below meth c H [] cells slots Q (F0 m pc ls (.int x :: rest)) := by
  obtain ⟨⟨hx, hb, -⟩, -⟩ := G
  unfold fl_b at kk
  refine lv_if_eq (tgt := pc + 7) hx hb d0 (by omega) (fun h => ?_) (fun h => ?_)
  · refine lv_iconst (v := 0) hx hb d3 (by decide) ?_
    rw [if_pos h] at kk
    exact kk
  · refine lv_iconst (v := 1) hx hb d1 (by decide) ?_
    refine lv_goto (tgt := pc + 8) hx hb d2 (by omega) ?_
    rw [if_neg h] at kk
    exact kk
theorem fl_w146 : lw_tbl[1445]? = some (.methodLink fl_own 176 y_146.1) := by decide +kernel
theorem fl_i146 : lw_tbl[1446]? = some (.instanceMethod y_146.1) := by decide +kernel
theorem fl_s146 : lw_tbl[1447]? = some (.selects y_146.1.cls y_146.1 y_146.1) := by decide +kernel
/-- what was thrown, compared; out, compared; on to the loop's end -/
theorem fl_tail (G : fl_G E p s m args c b L xs qo) (hSp : ux_SpecOK l E ux_chs) {k5 a6 : Int32} (hV : fl_V E s qo v M H) (h6 : M 5 819253 0 6 = k5) (hv : k5 = 0 → v = a6.toInt64) (hl : lv_has ls 7 ((5, .int k5) :: fl_L E b qo n)) (hce : cells ≤ 601024 ∧ slots ≤ 7293034) {off : Int}
    (d0 : decode code pc = .ok (.istore 6, 2)) (d2 : decode code (pc + 2) = .ok (.aload_n 2, 1)) (d3 : decode code (pc + 3) = .ok (.invokevirtual 176, 3)) (d6 : decode code (pc + 6) = .ok (.iload 5, 2)) (d8 : decode code (pc + 8) = .ok (.if_icmp .eq 5, 3))
    (d13 : decode code (pc + 13) = .ok (.iload 5, 2)) (d15 : decode code (pc + 15) = .ok (.ifCond .ne 15, 3)) (d18 : decode code (pc + 18) = .ok (.aload_n 3, 1)) (d19 : decode code (pc + 19) = .ok (.iconst 0, 1)) (d20 : decode code (pc + 20) = .ok (.laload, 1)) (d21 : decode code (pc + 21) = .ok (.iload 6, 2)) (d23 : decode code (pc + 23) = .ok (.i2l, 1)) (d24 : decode code (pc + 24) = .ok (.lcmp, 1)) (d25 : decode code (pc + 25) = .ok (.ifCond .eq 5, 3)) (d30 : decode code (pc + 30) = .ok (.goto off, 3)) (hoff : ((pc + 30 : Nat) : Int) + off = ((3025 : Nat) : Int))
    (kk : ∀ (H1 : Heap) (ls1 : Array Slot), fl_V E s qo v M H1 → lv_has ls1 7 (fl_L E b qo n) → W p l e room_1 s m args below meth c H1 [] cells slots Q (F0 m 3025 ls1 [])) : W p l e room_1 s m args below meth c H [] cells slots Q (F0 m pc ls [.int a6]) := by
  obtain ⟨hx, hb, hml, hown, hts⟩ := id G.1
  refine lv_istore (lv' := [(6, .int a6), (5, .int k5), (0, .ref b), (1, .ref (E.1 4 655365 0)), (2, .ref (E.1 5 819253 0)), (3, .ref qo), (4, .int (nI (4 * n)))]) hx hb d0 hl (by omega) rfl (fun ls1 hl1 => ?_)
  refine lv_aload_n hx hb d2 rfl (lv_at hl1 4 rfl) ?_
  refine fl_call (y2 := y_146) (q := (5, 819253, 0)) (ci := 6) (As := []) (rest := []) (d := 0) (QE := ux_CI (fun a M' => a = M 5 819253 0 6 ∧ M' = M)) G (by decide +kernel) fl_w146 fl_i146 fl_s146 (by decide +kernel) (by decide) rfl (by decide) rfl rfl (fun v hv => by cases hv) (Nat.le_of_ble_eq_true rfl) (sf_146 hSp (d := 0) M trivial ⟨rfl, rfl⟩) (by omega) hce hV hl1.1 d3 (fun r M' H1 hq hV1 => ?_)
  obtain ⟨a, rfl, rfl, rfl⟩ := hq
  refine lv_iload hx hb d6 (lv_at hl1 1 rfl) ?_
  refine lv_icmp_eq (tgt := pc + 13) hx hb d8 (by omega) (fun _ => ?_) (fun z => absurd h6 z)
  have hl2 : lv_has ls1 7 (fl_L E b qo n) := lv_sub hl1 [2, 3, 4, 5, 6] rfl
  refine lv_iload hx hb d13 (lv_at hl1 1 rfl) ?_
  refine lv_if_ne (tgt := pc + 30) hx hb d15 (by omega) (fun _ => ?_) (fun h0 => ?_)
  · exact lv_goto hx hb d30 hoff (kk H1 ls1 hV1 hl2)
  · refine lv_aload_n hx hb d18 rfl (lv_at hl1 5 rfl) ?_
    refine lv_iconst (v := 0) hx hb d19 (by decide) ?_
    have c0 : (0 : Int32).toNatClampNeg = 0 := by decide +kernel
    refine W.lald (v := .long v) hx hb hV1.2.1 ((G.2.1.2.2.1.2 2 _ rfl).1 1 _) (fun q => by cases q) (by rw [arrV_size, c0]; rintro (h | h) <;> revert h <;> decide) (by rw [c0, arrV_read _ _ (by decide)]) (g := F0 m (pc + 20) ls1 (.int 0 :: .ref qo :: [])) rfl (rest := []) rfl d20 ?_
    show W p l e room_1 s m args below meth c H1 [] cells slots Q (F0 m (pc + 21) ls1 [.long v])
    refine lv_iload hx hb d21 (lv_at hl1 0 rfl) ?_
    refine lv_i2l hx hb d23 rfl ?_
    refine W.lcmp hx hb d24 ?_
    rw [hv h0, fl_same]
    refine lv_if_eq (tgt := pc + 30) hx hb d25 (by omega) (fun _ => ?_) (fun z => absurd rfl z)
    rw [hv h0] at hV1 kk
    exact lv_goto hx hb d30 hoff (kk H1 ls1 hV1 hl2)
/-- the same for an answer that is true or false -/
theorem fl_tailZ (G : fl_G E p s m args c b L xs qo) (hSp : ux_SpecOK l E ux_chs) {k5 a6 : Int32} (hV : fl_V E s qo v M H) (h6 : M 5 819253 0 6 = k5) (hv : k5 = 0 → v = fl_c a6) (hl : lv_has ls 7 ((5, .int k5) :: fl_L E b qo n)) (hce : cells ≤ 601024 ∧ slots ≤ 7293034) {off : Int}
    (d0 : decode code pc = .ok (.istore 6, 2)) (d2 : decode code (pc + 2) = .ok (.aload_n 2, 1)) (d3 : decode code (pc + 3) = .ok (.invokevirtual 176, 3)) (d6 : decode code (pc + 6) = .ok (.iload 5, 2)) (d8 : decode code (pc + 8) = .ok (.if_icmp .eq 5, 3))
    (d13 : decode code (pc + 13) = .ok (.iload 5, 2)) (d15 : decode code (pc + 15) = .ok (.ifCond .ne 22, 3)) (d18 : decode code (pc + 18) = .ok (.aload_n 3, 1)) (d19 : decode code (pc + 19) = .ok (.iconst 0, 1)) (d20 : decode code (pc + 20) = .ok (.laload, 1)) (d21 : decode code (pc + 21) = .ok (.iload 6, 2)) (d23 : decode code (pc + 23) = .ok (.ifCond .eq 7, 3)) (d26 : decode code (pc + 26) = .ok (.lconst 1, 1)) (d27 : decode code (pc + 27) = .ok (.goto 4, 3)) (d30 : decode code (pc + 30) = .ok (.lconst 0, 1)) (d31 : decode code (pc + 31) = .ok (.lcmp, 1)) (d32 : decode code (pc + 32) = .ok (.ifCond .eq 5, 3)) (d37 : decode code (pc + 37) = .ok (.goto off, 3)) (hoff : ((pc + 37 : Nat) : Int) + off = ((3025 : Nat) : Int))
    (kk : ∀ (H1 : Heap) (ls1 : Array Slot), fl_V E s qo v M H1 → lv_has ls1 7 (fl_L E b qo n) → W p l e room_1 s m args below meth c H1 [] cells slots Q (F0 m 3025 ls1 [])) : W p l e room_1 s m args below meth c H [] cells slots Q (F0 m pc ls [.int a6]) := by
  obtain ⟨hx, hb, hml, hown, hts⟩ := id G.1
  refine lv_istore (lv' := [(6, .int a6), (5, .int k5), (0, .ref b), (1, .ref (E.1 4 655365 0)), (2, .ref (E.1 5 819253 0)), (3, .ref qo), (4, .int (nI (4 * n)))]) hx hb d0 hl (by omega) rfl (fun ls1 hl1 => ?_)
  refine lv_aload_n hx hb d2 rfl (lv_at hl1 4 rfl) ?_
  refine fl_call (y2 := y_146) (q := (5, 819253, 0)) (ci := 6) (As := []) (rest := []) (d := 0) (QE := ux_CI (fun a M' => a = M 5 819253 0 6 ∧ M' = M)) G (by decide +kernel) fl_w146 fl_i146 fl_s146 (by decide +kernel) (by decide) rfl (by decide) rfl rfl (fun v hv => by cases hv) (Nat.le_of_ble_eq_true rfl) (sf_146 hSp (d := 0) M trivial ⟨rfl, rfl⟩) (by omega) hce hV hl1.1 d3 (fun r M' H1 hq hV1 => ?_)
  obtain ⟨a, rfl, rfl, rfl⟩ := hq
  refine lv_iload hx hb d6 (lv_at hl1 1 rfl) ?_
  refine lv_icmp_eq (tgt := pc + 13) hx hb d8 (by omega) (fun _ => ?_) (fun z => absurd h6 z)
  have hl2 : lv_has ls1 7 (fl_L E b qo n) := lv_sub hl1 [2, 3, 4, 5, 6] rfl
  refine lv_iload hx hb d13 (lv_at hl1 1 rfl) ?_
  refine lv_if_ne (tgt := pc + 37) hx hb d15 (by omega) (fun _ => ?_) (fun h0 => ?_)
  · exact lv_goto hx hb d37 hoff (kk H1 ls1 hV1 hl2)
  · refine lv_aload_n hx hb d18 rfl (lv_at hl1 5 rfl) ?_
    refine lv_iconst (v := 0) hx hb d19 (by decide) ?_
    have c0 : (0 : Int32).toNatClampNeg = 0 := by decide +kernel
    refine W.lald (v := .long v) hx hb hV1.2.1 ((G.2.1.2.2.1.2 2 _ rfl).1 1 _) (fun q => by cases q) (by rw [arrV_size, c0]; rintro (h | h) <;> revert h <;> decide) (by rw [c0, arrV_read _ _ (by decide)]) (g := F0 m (pc + 20) ls1 (.int 0 :: .ref qo :: [])) rfl (rest := []) rfl d20 ?_
    show W p l e room_1 s m args below meth c H1 [] cells slots Q (F0 m (pc + 21) ls1 [.long v])
    refine lv_iload hx hb d21 (lv_at hl1 0 rfl) ?_
    have hv := hv h0
    unfold fl_c at hv
    refine lv_if_eq (tgt := pc + 30) hx hb d23 (by omega) (fun ha => ?_) (fun ha => ?_)
    · rw [if_pos ha] at hv
      refine lv_lconst (v := 0) hx hb d30 (by decide) ?_
      refine W.lcmp hx hb d31 ?_
      rw [hv, fl_same]
      refine lv_if_eq (tgt := pc + 37) hx hb d32 (by omega) (fun _ => ?_) (fun z => absurd rfl z)
      rw [hv] at hV1 kk
      exact lv_goto hx hb d37 hoff (kk H1 ls1 hV1 hl2)
    · rw [if_neg ha] at hv
      refine lv_lconst (v := 1) hx hb d26 (by decide) ?_
      refine lv_goto (tgt := pc + 31) hx hb d27 (by omega) ?_
      refine W.lcmp hx hb d31 ?_
      rw [hv, fl_same]
      refine lv_if_eq (tgt := pc + 37) hx hb d32 (by omega) (fun _ => ?_) (fun z => absurd rfl z)
      rw [hv] at hV1 kk
      exact lv_goto hx hb d37 hoff (kk H1 ls1 hV1 hl2)
/-- WHAT A HELPER'S CALL COMES TO: its answer is the one that the reference then gives -/
def fl_ok (l : Launch) (E : ux_E) (y : ux_Y) (hh : List (Nat × Nat × Nat × Nat)) (av : List ux_V) (qo : Nat) (v : Int64) (n : Nat) (M : ux_M) (cv : Int32 → Int64) (pr : ux_M → Prop) (rr : ux_M → Int32) (mr : ux_M → ux_M) : Prop :=
  ∃ QQ, hx_Met l E y hh av qo v M QQ ∧ ∀ r v1 M1, QQ r v1 M1 → pr M1 ∧ mr M1 5 819253 0 6 = r ∧ z_Q (n + 1) (mr M1) ∧ (r = 0 → v1 = cv (rr M1))
theorem fl_okN {y : ux_Y} {hh : List (Nat × Nat × Nat × Nat)} {av : List ux_V} {cv : Int32 → Int64} {pc pr : ux_M → Prop} {rc rr : ux_M → Int32} {mc mr : ux_M → ux_M} (h : z_op n M pc rc mc pr rr mr) (hM : pc M → hx_Met l E y hh av qo v M (fun r v1 M1 => r = 0 ∧ ∃ a, (a = rc M ∧ M1 = mc M) ∧ v1 = cv a)) : fl_ok l E y hh av qo v n M cv pr rr mr := by
  obtain ⟨h1, h2, h3, h4, h5⟩ := h
  refine ⟨_, hM h1, fun r v1 M1 hq => ?_⟩
  obtain ⟨rfl, a, ⟨rfl, rfl⟩, rfl⟩ := hq
  exact ⟨h2, h4, h5, fun _ => by rw [h3]⟩
theorem fl_okT {y : ux_Y} {hh : List (Nat × Nat × Nat × Nat)} {av : List ux_V} {cv : Int32 → Int64} {pr : ux_M → Prop} {rr : ux_M → Int32} {mr : ux_M → ux_M} {cd : Int32} (h : z_thr n M pr mr cd) (hc : ¬ cd = 0) (hM : hx_Met l E y hh av qo v M (fun r v1 M1 => r = cd ∧ v1 = v ∧ M1 = M)) : fl_ok l E y hh av qo v n M cv pr rr mr := by
  obtain ⟨h1, h2, h3⟩ := h
  refine ⟨_, hM, fun r v1 M1 hq => ?_⟩
  obtain ⟨rfl, rfl, rfl⟩ := hq
  exact ⟨h1, h2, h3, fun z => absurd z hc⟩
end FLA
