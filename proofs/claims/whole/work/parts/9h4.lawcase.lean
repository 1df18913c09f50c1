/-! THE LAW, 3.4: its cases (by wip/whole/gen9f.py) -/
set_option maxRecDepth 20000 in
theorem fl_k42 {p : Program} {l : Launch} {E : ux_E} {e : Env} {s : State} {m : MethodId} {args : Array Value} {below : List Frame} {meth : Method} {c : Code} {H : Heap} {cells slots : Nat} {Q : State → Prop} {M : ux_M} {b L qo n : Nat} {xs : Nat → Int32} {ls : Array Slot} {v : Int64} (G : fl_G E p s m args c b L xs qo) (hS : ux_SpecOK l E ux_chs) (hE : ux_THok E) (hst : l.stackTraces = false) (hV : fl_V E s qo v M H) (hQ : z_Q n M) (hn : n ≤ 600) (h4 : 4 * n + 4 ≤ L) (hls : lv_has ls 7 (fl_L E b qo n)) (hce : cells + 1 ≤ 601024 ∧ slots + 6 ≤ 7293034)
    (kk : ∀ (H1 : Heap) (ls1 : Array Slot) (M1 : ux_M) (v1 : Int64), fl_V E s qo v1 M1 H1 → z_Q (n + 1) M1 → lv_has ls1 7 (fl_L E b qo n) → W p l e room_1 s m args below meth c H1 [] (cells + 1) (slots + 6) Q (F0 m 3025 ls1 [])) : W p l e room_1 s m args below meth c H [] cells slots Q (F0 m 2557 ls []) := by
  obtain ⟨hx, hb, hml, hown, hts⟩ := id G.1
  have hL := G.2.2.2.2.2.2.2
  obtain ⟨x1, e1⟩ : ∃ z, z = xs (4 * n + 1) := ⟨_, rfl⟩
  have ok : fl_ok l E yh_137 hh_137 [aR 4 655365 0, aI x1] qo v n M (fun a => a.toInt64) (p_282 x1) (r_282 x1) (m_282 x1) := by
    by_cases h0 : z_iu M x1
    rotate_left
    · exact fl_okT (z_g_282 hQ h0) (by decide) (ht_137_0 hE G.2.2.2.2.2.2.1 (tx_137_0 hS hE hst h0))
    exact fl_okN (z_f_137 hQ h0) (fun hp => hn_137 (d := 1) (by omega) G.2.2.2.2.2.2.1 (sf_137 hS (d := 0) x1 M hp ⟨rfl, rfl⟩))
  obtain ⟨QQ, hM, hq⟩ := ok
  have hVV := hV
  refine lv_aload_n hx hb dl_2557 rfl (lv_at hls 1 rfl) ?_
  refine fl_arg (k := 1) (n := n) G hVV.2.2 (by omega) (by decide +kernel) (lv_at hls 0 rfl) (lv_at hls 4 rfl) dl_2558 dl_2559 dl_2561 dl_2562 dl_2563 ?_
  rw [← e1]
  refine lv_aload_n hx hb dl_2564 rfl (lv_at hls 3 rfl) ?_
  refine fl_hlp (k := 3) (y := yh_137) (hh := hh_137) (av := [aR 4 655365 0, aI x1]) (rest := []) G hM (by decide +kernel) rfl flw_257 flw_258 flw_259 flw_37 (by decide +kernel) (by decide) (Nat.le_of_ble_eq_true rfl) hce hV hls.1 dl_2565 (fun r v1 M1 H1 hq1 hV1 => ?_)
  obtain ⟨q1, q2, q3, q4⟩ := hq r v1 M1 hq1
  refine lv_istore (lv' := (5, .int r) :: fl_L E b qo n) hx hb dl_2568 hls (by omega) rfl (fun ls1 hl1 => ?_)
  refine lv_aload_n hx hb dl_2570 rfl (lv_at hl1 3 rfl) ?_
  have hVV := hV1
  refine fl_arg (k := 1) (n := n) G hVV.2.2 (by omega) (by decide +kernel) (lv_at hl1 1 rfl) (lv_at hl1 5 rfl) dl_2571 dl_2572 dl_2574 dl_2575 dl_2576 ?_
  rw [← e1]
  refine fl_call (k := 1) (y2 := y_282) (q := (5, 819253, 0)) (ci := 6) (As := [aI x1]) (rest := []) (QE := ux_CI (fun a M' => a = r_282 x1 M1 ∧ M' = m_282 x1 M1)) G (by decide +kernel) flw_254 flw_255 flw_256 (by decide +kernel) (by decide) rfl (by decide) rfl rfl (fun v hv => by rw [List.mem_singleton.mp hv]; trivial) (Nat.le_of_ble_eq_true rfl) (sf_282 hS (d := 0) x1 M1 q1 ⟨rfl, rfl⟩) (by decide) hce hV1 hl1.1 dl_2577 (fun r2 M2 H2 hq2 hV2 => ?_)
  obtain ⟨a, rfl, rfl, rfl⟩ := hq2
  exact fl_tail (n := n) (pc := 2580) G hS hV2 q2 q4 hl1 hce dl_2580 dl_2582 dl_2583 dl_2586 dl_2588 dl_2593 dl_2595 dl_2598 dl_2599 dl_2600 dl_2601 dl_2603 dl_2604 dl_2605 dl_2610 (by decide) (fun H3 ls3 hV3 hl3 => kk H3 ls3 _ _ hV3 q3 hl3)
set_option maxRecDepth 20000 in
theorem fl_k43 {p : Program} {l : Launch} {E : ux_E} {e : Env} {s : State} {m : MethodId} {args : Array Value} {below : List Frame} {meth : Method} {c : Code} {H : Heap} {cells slots : Nat} {Q : State → Prop} {M : ux_M} {b L qo n : Nat} {xs : Nat → Int32} {ls : Array Slot} {v : Int64} (G : fl_G E p s m args c b L xs qo) (hS : ux_SpecOK l E ux_chs) (hE : ux_THok E) (hst : l.stackTraces = false) (hV : fl_V E s qo v M H) (hQ : z_Q n M) (hn : n ≤ 600) (h4 : 4 * n + 4 ≤ L) (hls : lv_has ls 7 (fl_L E b qo n)) (hce : cells + 1 ≤ 601024 ∧ slots + 6 ≤ 7293034)
    (kk : ∀ (H1 : Heap) (ls1 : Array Slot) (M1 : ux_M) (v1 : Int64), fl_V E s qo v1 M1 H1 → z_Q (n + 1) M1 → lv_has ls1 7 (fl_L E b qo n) → W p l e room_1 s m args below meth c H1 [] (cells + 1) (slots + 6) Q (F0 m 3025 ls1 [])) : W p l e room_1 s m args below meth c H [] cells slots Q (F0 m 2613 ls []) := by
  obtain ⟨hx, hb, hml, hown, hts⟩ := id G.1
  have hL := G.2.2.2.2.2.2.2
  have hVV := hV
  refine lv_aload_n hx hb dl_2613 rfl (lv_at hls 1 rfl) ?_
  obtain ⟨o1, o2, o3, o4, o5⟩ := z_f_39 hQ
  refine fl_call (k := 0) (y2 := y_39) (q := (4, 655365, 0)) (ci := 0) (As := []) (rest := []) (QE := ux_CI (fun a M' => a = r_39 M ∧ (m_39 M) = M')) G (by decide +kernel) flw_260 flw_261 flw_262 (by decide +kernel) (by decide) rfl (by decide) rfl rfl (fun v hv => by cases hv) (Nat.le_of_ble_eq_true rfl) (sf_39 hS (d := 0) M o1 ⟨rfl, rfl⟩) (by decide) ⟨by omega, by omega⟩ hV hls.1 dl_2614 (fun r1 M1 H1 hq1 hV1 => ?_)
  obtain ⟨a1, rfl, rfl, rfl⟩ := hq1
  have hVV := hV1
  refine lv_aload_n hx hb dl_2617 rfl (lv_at hls 2 rfl) ?_
  refine fl_call (k := 0) (y2 := y_283) (q := (5, 819253, 0)) (ci := 6) (As := []) (rest := [.int _]) (QE := ux_CI (fun a M' => a = r_283 (m_39 M) ∧ m_283 (m_39 M) = M')) G (by decide +kernel) flw_263 flw_264 flw_265 (by decide +kernel) (by decide) rfl (by decide) rfl rfl (fun v hv => by cases hv) (Nat.le_of_ble_eq_true rfl) (sf_283 hS (d := 0) (m_39 M) o2 ⟨rfl, rfl⟩) (by decide) ⟨by omega, by omega⟩ hV1 hls.1 dl_2618 (fun r2 M2 H2 hq2 hV2 => ?_)
  obtain ⟨a2, rfl, rfl, rfl⟩ := hq2
  refine lv_icmp_eq (tgt := 3025) hx hb dl_2621 (by decide) (fun _ => ?_) (fun z => absurd o3 z)
  exact W.widen (k := cells + 1) (n := slots + 6) (by omega) (by omega) (kk H2 ls _ _ hV2 o5 hls)
set_option maxRecDepth 20000 in
theorem fl_k44 {p : Program} {l : Launch} {E : ux_E} {e : Env} {s : State} {m : MethodId} {args : Array Value} {below : List Frame} {meth : Method} {c : Code} {H : Heap} {cells slots : Nat} {Q : State → Prop} {M : ux_M} {b L qo n : Nat} {xs : Nat → Int32} {ls : Array Slot} {v : Int64} (G : fl_G E p s m args c b L xs qo) (hS : ux_SpecOK l E ux_chs) (hE : ux_THok E) (hst : l.stackTraces = false) (hV : fl_V E s qo v M H) (hQ : z_Q n M) (hn : n ≤ 600) (h4 : 4 * n + 4 ≤ L) (hls : lv_has ls 7 (fl_L E b qo n)) (hce : cells + 1 ≤ 601024 ∧ slots + 6 ≤ 7293034)
    (kk : ∀ (H1 : Heap) (ls1 : Array Slot) (M1 : ux_M) (v1 : Int64), fl_V E s qo v1 M1 H1 → z_Q (n + 1) M1 → lv_has ls1 7 (fl_L E b qo n) → W p l e room_1 s m args below meth c H1 [] (cells + 1) (slots + 6) Q (F0 m 3025 ls1 [])) : W p l e room_1 s m args below meth c H [] cells slots Q (F0 m 2626 ls []) := by
  obtain ⟨hx, hb, hml, hown, hts⟩ := id G.1
  have hL := G.2.2.2.2.2.2.2
  have hVV := hV
  refine lv_aload_n hx hb dl_2626 rfl (lv_at hls 1 rfl) ?_
  obtain ⟨o1, o2, o3, o4, o5⟩ := z_f_42 hQ
  refine fl_call (k := 0) (y2 := y_42) (q := (4, 655365, 0)) (ci := 0) (As := []) (rest := []) (QE := ux_CI (fun a M' => a = r_42 M ∧ M = M')) G (by decide +kernel) flw_266 flw_267 flw_268 (by decide +kernel) (by decide) rfl (by decide) rfl rfl (fun v hv => by cases hv) (Nat.le_of_ble_eq_true rfl) (sf_42 hS (d := 0) M o1 ⟨rfl, rfl⟩) (by decide) ⟨by omega, by omega⟩ hV hls.1 dl_2627 (fun r1 M1 H1 hq1 hV1 => ?_)
  obtain ⟨a1, rfl, rfl, rfl⟩ := hq1
  have hVV := hV1
  refine lv_aload_n hx hb dl_2630 rfl (lv_at hls 2 rfl) ?_
  refine fl_call (k := 0) (y2 := y_284) (q := (5, 819253, 0)) (ci := 6) (As := []) (rest := [.int _]) (QE := ux_CI (fun a M' => a = r_284 M ∧ m_284 M = M')) G (by decide +kernel) flw_269 flw_270 flw_271 (by decide +kernel) (by decide) rfl (by decide) rfl rfl (fun v hv => by cases hv) (Nat.le_of_ble_eq_true rfl) (sf_284 hS (d := 0) M o2 ⟨rfl, rfl⟩) (by decide) ⟨by omega, by omega⟩ hV1 hls.1 dl_2631 (fun r2 M2 H2 hq2 hV2 => ?_)
  obtain ⟨a2, rfl, rfl, rfl⟩ := hq2
  refine lv_icmp_eq (tgt := 3025) hx hb dl_2634 (by decide) (fun _ => ?_) (fun z => absurd o3 z)
  exact W.widen (k := cells + 1) (n := slots + 6) (by omega) (by omega) (kk H2 ls _ _ hV2 o5 hls)
set_option maxRecDepth 20000 in
theorem fl_k45 {p : Program} {l : Launch} {E : ux_E} {e : Env} {s : State} {m : MethodId} {args : Array Value} {below : List Frame} {meth : Method} {c : Code} {H : Heap} {cells slots : Nat} {Q : State → Prop} {M : ux_M} {b L qo n : Nat} {xs : Nat → Int32} {ls : Array Slot} {v : Int64} (G : fl_G E p s m args c b L xs qo) (hS : ux_SpecOK l E ux_chs) (hE : ux_THok E) (hst : l.stackTraces = false) (hV : fl_V E s qo v M H) (hQ : z_Q n M) (hn : n ≤ 600) (h4 : 4 * n + 4 ≤ L) (hls : lv_has ls 7 (fl_L E b qo n)) (hce : cells + 1 ≤ 601024 ∧ slots + 6 ≤ 7293034)
    (kk : ∀ (H1 : Heap) (ls1 : Array Slot) (M1 : ux_M) (v1 : Int64), fl_V E s qo v1 M1 H1 → z_Q (n + 1) M1 → lv_has ls1 7 (fl_L E b qo n) → W p l e room_1 s m args below meth c H1 [] (cells + 1) (slots + 6) Q (F0 m 3025 ls1 [])) : W p l e room_1 s m args below meth c H [] cells slots Q (F0 m 2639 ls []) := by
  obtain ⟨hx, hb, hml, hown, hts⟩ := id G.1
  have hL := G.2.2.2.2.2.2.2
  obtain ⟨x1, e1⟩ : ∃ z, z = xs (4 * n + 1) := ⟨_, rfl⟩
  have ok : fl_ok l E yh_138 hh_138 [aR 4 655365 0, aI x1] qo v n M (fun a => a.toInt64) (p_285 x1) (r_285 x1) (m_285 x1) := by
    by_cases h0 : z_iu M x1
    rotate_left
    · exact fl_okT (z_g_285 hQ h0) (by decide) (ht_138_0 hE G.2.2.2.2.2.2.1 (tx_138_0 hS hE hst h0))
    exact fl_okN (z_f_138 hQ hn h0) (fun hp => hn_138 (d := 27) (by omega) G.2.2.2.2.2.2.1 (sf_138 hS (d := 0) x1 M hp ⟨rfl, rfl⟩))
  obtain ⟨QQ, hM, hq⟩ := ok
  have hVV := hV
  refine lv_aload_n hx hb dl_2639 rfl (lv_at hls 1 rfl) ?_
  refine fl_arg (k := 1) (n := n) G hVV.2.2 (by omega) (by decide +kernel) (lv_at hls 0 rfl) (lv_at hls 4 rfl) dl_2640 dl_2641 dl_2643 dl_2644 dl_2645 ?_
  rw [← e1]
  refine lv_aload_n hx hb dl_2646 rfl (lv_at hls 3 rfl) ?_
  refine fl_hlp (k := 3) (y := yh_138) (hh := hh_138) (av := [aR 4 655365 0, aI x1]) (rest := []) G hM (by decide +kernel) rfl flw_275 flw_276 flw_277 flw_37 (by decide +kernel) (by decide) (Nat.le_of_ble_eq_true rfl) hce hV hls.1 dl_2647 (fun r v1 M1 H1 hq1 hV1 => ?_)
  obtain ⟨q1, q2, q3, q4⟩ := hq r v1 M1 hq1
  refine lv_istore (lv' := (5, .int r) :: fl_L E b qo n) hx hb dl_2650 hls (by omega) rfl (fun ls1 hl1 => ?_)
  refine lv_aload_n hx hb dl_2652 rfl (lv_at hl1 3 rfl) ?_
  have hVV := hV1
  refine fl_arg (k := 1) (n := n) G hVV.2.2 (by omega) (by decide +kernel) (lv_at hl1 1 rfl) (lv_at hl1 5 rfl) dl_2653 dl_2654 dl_2656 dl_2657 dl_2658 ?_
  rw [← e1]
  refine fl_call (k := 1) (y2 := y_285) (q := (5, 819253, 0)) (ci := 6) (As := [aI x1]) (rest := []) (QE := ux_CI (fun a M' => a = r_285 x1 M1 ∧ M' = m_285 x1 M1)) G (by decide +kernel) flw_272 flw_273 flw_274 (by decide +kernel) (by decide) rfl (by decide) rfl rfl (fun v hv => by rw [List.mem_singleton.mp hv]; trivial) (Nat.le_of_ble_eq_true rfl) (sf_285 hS (d := 0) x1 M1 q1 ⟨rfl, rfl⟩) (by decide) hce hV1 hl1.1 dl_2659 (fun r2 M2 H2 hq2 hV2 => ?_)
  obtain ⟨a, rfl, rfl, rfl⟩ := hq2
  exact fl_tail (n := n) (pc := 2662) G hS hV2 q2 q4 hl1 hce dl_2662 dl_2664 dl_2665 dl_2668 dl_2670 dl_2675 dl_2677 dl_2680 dl_2681 dl_2682 dl_2683 dl_2685 dl_2686 dl_2687 dl_2692 (by decide) (fun H3 ls3 hV3 hl3 => kk H3 ls3 _ _ hV3 q3 hl3)
set_option maxRecDepth 20000 in
theorem fl_k46 {p : Program} {l : Launch} {E : ux_E} {e : Env} {s : State} {m : MethodId} {args : Array Value} {below : List Frame} {meth : Method} {c : Code} {H : Heap} {cells slots : Nat} {Q : State → Prop} {M : ux_M} {b L qo n : Nat} {xs : Nat → Int32} {ls : Array Slot} {v : Int64} (G : fl_G E p s m args c b L xs qo) (hS : ux_SpecOK l E ux_chs) (hE : ux_THok E) (hst : l.stackTraces = false) (hV : fl_V E s qo v M H) (hQ : z_Q n M) (hn : n ≤ 600) (h4 : 4 * n + 4 ≤ L) (hls : lv_has ls 7 (fl_L E b qo n)) (hce : cells + 1 ≤ 601024 ∧ slots + 6 ≤ 7293034)
    (kk : ∀ (H1 : Heap) (ls1 : Array Slot) (M1 : ux_M) (v1 : Int64), fl_V E s qo v1 M1 H1 → z_Q (n + 1) M1 → lv_has ls1 7 (fl_L E b qo n) → W p l e room_1 s m args below meth c H1 [] (cells + 1) (slots + 6) Q (F0 m 3025 ls1 [])) : W p l e room_1 s m args below meth c H [] cells slots Q (F0 m 2695 ls []) := by
  obtain ⟨hx, hb, hml, hown, hts⟩ := id G.1
  have hL := G.2.2.2.2.2.2.2
  have hVV := hV
  refine lv_aload_n hx hb dl_2695 rfl (lv_at hls 1 rfl) ?_
  obtain ⟨o1, o2, o3, o4, o5⟩ := z_f_44 hQ hn
  refine fl_call (k := 0) (y2 := y_44) (q := (4, 655365, 0)) (ci := 0) (As := []) (rest := []) (QE := ux_CI (fun a M' => a = r_44 M ∧ (m_44 M) = M')) G (by decide +kernel) flw_278 flw_279 flw_280 (by decide +kernel) (by decide) rfl (by decide) rfl rfl (fun v hv => by cases hv) (Nat.le_of_ble_eq_true rfl) (sf_44 hS (d := 0) M o1 ⟨rfl, rfl⟩) (by decide) ⟨by omega, by omega⟩ hV hls.1 dl_2696 (fun r1 M1 H1 hq1 hV1 => ?_)
  obtain ⟨a1, rfl, rfl, rfl⟩ := hq1
  have hVV := hV1
  refine lv_aload_n hx hb dl_2699 rfl (lv_at hls 2 rfl) ?_
  refine fl_call (k := 0) (y2 := y_286) (q := (5, 819253, 0)) (ci := 6) (As := []) (rest := [.int _]) (QE := ux_CI (fun a M' => a = r_286 (m_44 M) ∧ m_286 (m_44 M) = M')) G (by decide +kernel) flw_281 flw_282 flw_283 (by decide +kernel) (by decide) rfl (by decide) rfl rfl (fun v hv => by cases hv) (Nat.le_of_ble_eq_true rfl) (sf_286 hS (d := 0) (m_44 M) o2 ⟨rfl, rfl⟩) (by decide) ⟨by omega, by omega⟩ hV1 hls.1 dl_2700 (fun r2 M2 H2 hq2 hV2 => ?_)
  obtain ⟨a2, rfl, rfl, rfl⟩ := hq2
  refine lv_icmp_eq (tgt := 3025) hx hb dl_2703 (by decide) (fun _ => ?_) (fun z => absurd o3 z)
  exact W.widen (k := cells + 1) (n := slots + 6) (by omega) (by omega) (kk H2 ls _ _ hV2 o5 hls)
set_option maxRecDepth 20000 in
theorem fl_k47 {p : Program} {l : Launch} {E : ux_E} {e : Env} {s : State} {m : MethodId} {args : Array Value} {below : List Frame} {meth : Method} {c : Code} {H : Heap} {cells slots : Nat} {Q : State → Prop} {M : ux_M} {b L qo n : Nat} {xs : Nat → Int32} {ls : Array Slot} {v : Int64} (G : fl_G E p s m args c b L xs qo) (hS : ux_SpecOK l E ux_chs) (hE : ux_THok E) (hst : l.stackTraces = false) (hV : fl_V E s qo v M H) (hQ : z_Q n M) (hn : n ≤ 600) (h4 : 4 * n + 4 ≤ L) (hls : lv_has ls 7 (fl_L E b qo n)) (hce : cells + 1 ≤ 601024 ∧ slots + 6 ≤ 7293034)
    (kk : ∀ (H1 : Heap) (ls1 : Array Slot) (M1 : ux_M) (v1 : Int64), fl_V E s qo v1 M1 H1 → z_Q (n + 1) M1 → lv_has ls1 7 (fl_L E b qo n) → W p l e room_1 s m args below meth c H1 [] (cells + 1) (slots + 6) Q (F0 m 3025 ls1 [])) : W p l e room_1 s m args below meth c H [] cells slots Q (F0 m 2708 ls []) := by
  obtain ⟨hx, hb, hml, hown, hts⟩ := id G.1
  have hL := G.2.2.2.2.2.2.2
  obtain ⟨x1, e1⟩ : ∃ z, z = xs (4 * n + 1) := ⟨_, rfl⟩
  obtain ⟨x2, e2⟩ : ∃ z, z = xs (4 * n + 2) := ⟨_, rfl⟩
  have ok : fl_ok l E yh_139 hh_139 [aR 4 655365 0, aI x1, aI x2] qo v n M (fun a => a.toInt64) (p_288 x1 x2) (r_288 x1 x2) (m_288 x1 x2) := by
    by_cases h0 : z_iu M x1
    rotate_left
    · exact fl_okT (z_g_288 hQ h0) (by decide) (ht_139_0 hE G.2.2.2.2.2.2.1 (tx_139_0 hS hE hst h0))
    by_cases h1 : z_rg x2 0 1000
    rotate_left
    · exact fl_okT (z_g_288b hQ h0 h1) (by decide) (ht_139_1 hE G.2.2.2.2.2.2.1 (tx_139_1 hS hE hst h0 h1))
    exact fl_okN (z_f_139 hQ hn h0 h1) (fun hp => hn_139 (d := 27) (by omega) G.2.2.2.2.2.2.1 (sf_139 hS (d := 0) x1 x2 M hp ⟨rfl, rfl⟩))
  obtain ⟨QQ, hM, hq⟩ := ok
  have hVV := hV
  refine lv_aload_n hx hb dl_2708 rfl (lv_at hls 1 rfl) ?_
  refine fl_arg (k := 1) (n := n) G hVV.2.2 (by omega) (by decide +kernel) (lv_at hls 0 rfl) (lv_at hls 4 rfl) dl_2709 dl_2710 dl_2712 dl_2713 dl_2714 ?_
  refine fl_arg (k := 2) (n := n) G hVV.2.2 (by omega) (by decide +kernel) (lv_at hls 0 rfl) (lv_at hls 4 rfl) dl_2715 dl_2716 dl_2718 dl_2719 dl_2720 ?_
  rw [← e1, ← e2]
  refine lv_aload_n hx hb dl_2721 rfl (lv_at hls 3 rfl) ?_
  refine fl_hlp (k := 4) (y := yh_139) (hh := hh_139) (av := [aR 4 655365 0, aI x1, aI x2]) (rest := []) G hM (by decide +kernel) rfl flw_287 flw_288 flw_289 flw_37 (by decide +kernel) (by decide) (Nat.le_of_ble_eq_true rfl) hce hV hls.1 dl_2722 (fun r v1 M1 H1 hq1 hV1 => ?_)
  obtain ⟨q1, q2, q3, q4⟩ := hq r v1 M1 hq1
  refine lv_istore (lv' := (5, .int r) :: fl_L E b qo n) hx hb dl_2725 hls (by omega) rfl (fun ls1 hl1 => ?_)
  refine lv_aload_n hx hb dl_2727 rfl (lv_at hl1 3 rfl) ?_
  have hVV := hV1
  refine fl_arg (k := 1) (n := n) G hVV.2.2 (by omega) (by decide +kernel) (lv_at hl1 1 rfl) (lv_at hl1 5 rfl) dl_2728 dl_2729 dl_2731 dl_2732 dl_2733 ?_
  refine fl_arg (k := 2) (n := n) G hVV.2.2 (by omega) (by decide +kernel) (lv_at hl1 1 rfl) (lv_at hl1 5 rfl) dl_2734 dl_2735 dl_2737 dl_2738 dl_2739 ?_
  rw [← e1, ← e2]
  refine fl_call (k := 2) (y2 := y_288) (q := (5, 819253, 0)) (ci := 6) (As := [aI x1, aI x2]) (rest := []) (QE := ux_CI (fun a M' => a = r_288 x1 x2 M1 ∧ M' = m_288 x1 x2 M1)) G (by decide +kernel) flw_284 flw_285 flw_286 (by decide +kernel) (by decide) rfl (by decide) rfl rfl (fun v hv => by
      simp only [List.mem_cons, List.not_mem_nil, or_false] at hv
      rcases hv with rfl | rfl <;> trivial) (Nat.le_of_ble_eq_true rfl) (sf_288 hS (d := 0) x1 x2 M1 q1 ⟨rfl, rfl⟩) (by decide) hce hV1 hl1.1 dl_2740 (fun r2 M2 H2 hq2 hV2 => ?_)
  obtain ⟨a, rfl, rfl, rfl⟩ := hq2
  exact fl_tail (n := n) (pc := 2743) G hS hV2 q2 q4 hl1 hce dl_2743 dl_2745 dl_2746 dl_2749 dl_2751 dl_2756 dl_2758 dl_2761 dl_2762 dl_2763 dl_2764 dl_2766 dl_2767 dl_2768 dl_2773 (by decide) (fun H3 ls3 hV3 hl3 => kk H3 ls3 _ _ hV3 q3 hl3)
set_option maxRecDepth 20000 in
theorem fl_k48 {p : Program} {l : Launch} {E : ux_E} {e : Env} {s : State} {m : MethodId} {args : Array Value} {below : List Frame} {meth : Method} {c : Code} {H : Heap} {cells slots : Nat} {Q : State → Prop} {M : ux_M} {b L qo n : Nat} {xs : Nat → Int32} {ls : Array Slot} {v : Int64} (G : fl_G E p s m args c b L xs qo) (hS : ux_SpecOK l E ux_chs) (hE : ux_THok E) (hst : l.stackTraces = false) (hV : fl_V E s qo v M H) (hQ : z_Q n M) (hn : n ≤ 600) (h4 : 4 * n + 4 ≤ L) (hls : lv_has ls 7 (fl_L E b qo n)) (hce : cells + 1 ≤ 601024 ∧ slots + 6 ≤ 7293034)
    (kk : ∀ (H1 : Heap) (ls1 : Array Slot) (M1 : ux_M) (v1 : Int64), fl_V E s qo v1 M1 H1 → z_Q (n + 1) M1 → lv_has ls1 7 (fl_L E b qo n) → W p l e room_1 s m args below meth c H1 [] (cells + 1) (slots + 6) Q (F0 m 3025 ls1 [])) : W p l e room_1 s m args below meth c H [] cells slots Q (F0 m 2776 ls []) := by
  obtain ⟨hx, hb, hml, hown, hts⟩ := id G.1
  have hL := G.2.2.2.2.2.2.2
  obtain ⟨x1, e1⟩ : ∃ z, z = xs (4 * n + 1) := ⟨_, rfl⟩
  obtain ⟨x2, e2⟩ : ∃ z, z = xs (4 * n + 2) := ⟨_, rfl⟩
  have ok : fl_ok l E yh_140 hh_140 [aR 4 655365 0, aI x1, aI x2] qo v n M (fun a => a.toInt64) (p_289 x1 x2) (r_289 x1 x2) (m_289 x1 x2) := by
    by_cases h0 : z_iu M x1
    rotate_left
    · exact fl_okT (z_g_289 hQ h0) (by decide) (ht_140_0 hE G.2.2.2.2.2.2.1 (tx_140_0 hS hE hst h0))
    by_cases h1 : z_rg x2 0 200
    rotate_left
    · exact fl_okT (z_g_289b hQ h0 h1) (by decide) (ht_140_1 hE G.2.2.2.2.2.2.1 (tx_140_1 hS hE hst h0 h1))
    exact fl_okN (z_f_140 hQ hn h0 h1) (fun hp => hn_140 (d := 27) (by omega) G.2.2.2.2.2.2.1 (sf_140 hS (d := 0) x1 x2 M hp ⟨rfl, rfl⟩))
  obtain ⟨QQ, hM, hq⟩ := ok
  have hVV := hV
  refine lv_aload_n hx hb dl_2776 rfl (lv_at hls 1 rfl) ?_
  refine fl_arg (k := 1) (n := n) G hVV.2.2 (by omega) (by decide +kernel) (lv_at hls 0 rfl) (lv_at hls 4 rfl) dl_2777 dl_2778 dl_2780 dl_2781 dl_2782 ?_
  refine fl_arg (k := 2) (n := n) G hVV.2.2 (by omega) (by decide +kernel) (lv_at hls 0 rfl) (lv_at hls 4 rfl) dl_2783 dl_2784 dl_2786 dl_2787 dl_2788 ?_
  rw [← e1, ← e2]
  refine lv_aload_n hx hb dl_2789 rfl (lv_at hls 3 rfl) ?_
  refine fl_hlp (k := 4) (y := yh_140) (hh := hh_140) (av := [aR 4 655365 0, aI x1, aI x2]) (rest := []) G hM (by decide +kernel) rfl flw_293 flw_294 flw_295 flw_37 (by decide +kernel) (by decide) (Nat.le_of_ble_eq_true rfl) hce hV hls.1 dl_2790 (fun r v1 M1 H1 hq1 hV1 => ?_)
  obtain ⟨q1, q2, q3, q4⟩ := hq r v1 M1 hq1
  refine lv_istore (lv' := (5, .int r) :: fl_L E b qo n) hx hb dl_2793 hls (by omega) rfl (fun ls1 hl1 => ?_)
  refine lv_aload_n hx hb dl_2795 rfl (lv_at hl1 3 rfl) ?_
  have hVV := hV1
  refine fl_arg (k := 1) (n := n) G hVV.2.2 (by omega) (by decide +kernel) (lv_at hl1 1 rfl) (lv_at hl1 5 rfl) dl_2796 dl_2797 dl_2799 dl_2800 dl_2801 ?_
  refine fl_arg (k := 2) (n := n) G hVV.2.2 (by omega) (by decide +kernel) (lv_at hl1 1 rfl) (lv_at hl1 5 rfl) dl_2802 dl_2803 dl_2805 dl_2806 dl_2807 ?_
  rw [← e1, ← e2]
  refine fl_call (k := 2) (y2 := y_289) (q := (5, 819253, 0)) (ci := 6) (As := [aI x1, aI x2]) (rest := []) (QE := ux_CI (fun a M' => a = r_289 x1 x2 M1 ∧ M' = m_289 x1 x2 M1)) G (by decide +kernel) flw_290 flw_291 flw_292 (by decide +kernel) (by decide) rfl (by decide) rfl rfl (fun v hv => by
      simp only [List.mem_cons, List.not_mem_nil, or_false] at hv
      rcases hv with rfl | rfl <;> trivial) (Nat.le_of_ble_eq_true rfl) (sf_289 hS (d := 0) x1 x2 M1 q1 ⟨rfl, rfl⟩) (by decide) hce hV1 hl1.1 dl_2808 (fun r2 M2 H2 hq2 hV2 => ?_)
  obtain ⟨a, rfl, rfl, rfl⟩ := hq2
  exact fl_tail (n := n) (pc := 2811) G hS hV2 q2 q4 hl1 hce dl_2811 dl_2813 dl_2814 dl_2817 dl_2819 dl_2824 dl_2826 dl_2829 dl_2830 dl_2831 dl_2832 dl_2834 dl_2835 dl_2836 dl_2841 (by decide) (fun H3 ls3 hV3 hl3 => kk H3 ls3 _ _ hV3 q3 hl3)
set_option maxRecDepth 20000 in
theorem fl_k49 {p : Program} {l : Launch} {E : ux_E} {e : Env} {s : State} {m : MethodId} {args : Array Value} {below : List Frame} {meth : Method} {c : Code} {H : Heap} {cells slots : Nat} {Q : State → Prop} {M : ux_M} {b L qo n : Nat} {xs : Nat → Int32} {ls : Array Slot} {v : Int64} (G : fl_G E p s m args c b L xs qo) (hS : ux_SpecOK l E ux_chs) (hE : ux_THok E) (hst : l.stackTraces = false) (hV : fl_V E s qo v M H) (hQ : z_Q n M) (hn : n ≤ 600) (h4 : 4 * n + 4 ≤ L) (hls : lv_has ls 7 (fl_L E b qo n)) (hce : cells + 1 ≤ 601024 ∧ slots + 6 ≤ 7293034)
    (kk : ∀ (H1 : Heap) (ls1 : Array Slot) (M1 : ux_M) (v1 : Int64), fl_V E s qo v1 M1 H1 → z_Q (n + 1) M1 → lv_has ls1 7 (fl_L E b qo n) → W p l e room_1 s m args below meth c H1 [] (cells + 1) (slots + 6) Q (F0 m 3025 ls1 [])) : W p l e room_1 s m args below meth c H [] cells slots Q (F0 m 2844 ls []) := by
  obtain ⟨hx, hb, hml, hown, hts⟩ := id G.1
  have hL := G.2.2.2.2.2.2.2
  have hVV := hV
  refine lv_aload_n hx hb dl_2844 rfl (lv_at hls 1 rfl) ?_
  obtain ⟨o1, o2, o3, o4, o5⟩ := z_f_89 hQ hn
  refine fl_call (k := 0) (y2 := y_89) (q := (4, 655365, 0)) (ci := 0) (As := []) (rest := []) (QE := ux_CI (fun a M' => a = r_89 M ∧ (m_89 M) = M')) G (by decide +kernel) flw_296 flw_297 flw_298 (by decide +kernel) (by decide) rfl (by decide) rfl rfl (fun v hv => by cases hv) (Nat.le_of_ble_eq_true rfl) (sf_89 hS (d := 0) M o1 ⟨rfl, rfl⟩) (by decide) ⟨by omega, by omega⟩ hV hls.1 dl_2845 (fun r1 M1 H1 hq1 hV1 => ?_)
  obtain ⟨a1, rfl, rfl, rfl⟩ := hq1
  have hVV := hV1
  refine lv_aload_n hx hb dl_2848 rfl (lv_at hls 2 rfl) ?_
  refine fl_call (k := 0) (y2 := y_291) (q := (5, 819253, 0)) (ci := 6) (As := []) (rest := [.int _]) (QE := ux_CI (fun a M' => a = r_291 (m_89 M) ∧ m_291 (m_89 M) = M')) G (by decide +kernel) flw_299 flw_300 flw_301 (by decide +kernel) (by decide) rfl (by decide) rfl rfl (fun v hv => by cases hv) (Nat.le_of_ble_eq_true rfl) (sf_291 hS (d := 0) (m_89 M) o2 ⟨rfl, rfl⟩) (by decide) ⟨by omega, by omega⟩ hV1 hls.1 dl_2849 (fun r2 M2 H2 hq2 hV2 => ?_)
  obtain ⟨a2, rfl, rfl, rfl⟩ := hq2
  refine lv_icmp_eq (tgt := 3025) hx hb dl_2852 (by decide) (fun _ => ?_) (fun z => absurd o3 z)
  exact W.widen (k := cells + 1) (n := slots + 6) (by omega) (by omega) (kk H2 ls _ _ hV2 o5 hls)
set_option maxRecDepth 20000 in
theorem fl_k50 {p : Program} {l : Launch} {E : ux_E} {e : Env} {s : State} {m : MethodId} {args : Array Value} {below : List Frame} {meth : Method} {c : Code} {H : Heap} {cells slots : Nat} {Q : State → Prop} {M : ux_M} {b L qo n : Nat} {xs : Nat → Int32} {ls : Array Slot} {v : Int64} (G : fl_G E p s m args c b L xs qo) (hS : ux_SpecOK l E ux_chs) (hE : ux_THok E) (hst : l.stackTraces = false) (hV : fl_V E s qo v M H) (hQ : z_Q n M) (hn : n ≤ 600) (h4 : 4 * n + 4 ≤ L) (hls : lv_has ls 7 (fl_L E b qo n)) (hce : cells + 1 ≤ 601024 ∧ slots + 6 ≤ 7293034)
    (kk : ∀ (H1 : Heap) (ls1 : Array Slot) (M1 : ux_M) (v1 : Int64), fl_V E s qo v1 M1 H1 → z_Q (n + 1) M1 → lv_has ls1 7 (fl_L E b qo n) → W p l e room_1 s m args below meth c H1 [] (cells + 1) (slots + 6) Q (F0 m 3025 ls1 [])) : W p l e room_1 s m args below meth c H [] cells slots Q (F0 m 2857 ls []) := by
  obtain ⟨hx, hb, hml, hown, hts⟩ := id G.1
  have hL := G.2.2.2.2.2.2.2
  obtain ⟨x1, e1⟩ : ∃ z, z = xs (4 * n + 1) := ⟨_, rfl⟩
  have ok : fl_ok l E yh_141 hh_141 [aR 4 655365 0, aI x1] qo v n M (fun a => a.toInt64) (p_280 x1) (r_280 x1) (m_280 x1) := by
    by_cases h0 : z_iu M x1
    rotate_left
    · exact fl_okT (z_g_280 hQ h0) (by decide) (ht_141_0 hE G.2.2.2.2.2.2.1 (tx_141_0 hS hE hst h0))
    exact fl_okN (z_f_141 hQ h0) (fun hp => hn_141 (d := 4) (by omega) G.2.2.2.2.2.2.1 (sf_141 hS (d := 0) x1 M hp ⟨rfl, rfl⟩))
  obtain ⟨QQ, hM, hq⟩ := ok
  have hVV := hV
  refine lv_aload_n hx hb dl_2857 rfl (lv_at hls 1 rfl) ?_
  refine fl_arg (k := 1) (n := n) G hVV.2.2 (by omega) (by decide +kernel) (lv_at hls 0 rfl) (lv_at hls 4 rfl) dl_2858 dl_2859 dl_2861 dl_2862 dl_2863 ?_
  rw [← e1]
  refine lv_aload_n hx hb dl_2864 rfl (lv_at hls 3 rfl) ?_
  refine fl_hlp (k := 3) (y := yh_141) (hh := hh_141) (av := [aR 4 655365 0, aI x1]) (rest := []) G hM (by decide +kernel) rfl flw_305 flw_306 flw_307 flw_37 (by decide +kernel) (by decide) (Nat.le_of_ble_eq_true rfl) hce hV hls.1 dl_2865 (fun r v1 M1 H1 hq1 hV1 => ?_)
  obtain ⟨q1, q2, q3, q4⟩ := hq r v1 M1 hq1
  refine lv_istore (lv' := (5, .int r) :: fl_L E b qo n) hx hb dl_2868 hls (by omega) rfl (fun ls1 hl1 => ?_)
  refine lv_aload_n hx hb dl_2870 rfl (lv_at hl1 3 rfl) ?_
  have hVV := hV1
  refine fl_arg (k := 1) (n := n) G hVV.2.2 (by omega) (by decide +kernel) (lv_at hl1 1 rfl) (lv_at hl1 5 rfl) dl_2871 dl_2872 dl_2874 dl_2875 dl_2876 ?_
  rw [← e1]
  refine fl_call (k := 1) (y2 := y_280) (q := (5, 819253, 0)) (ci := 6) (As := [aI x1]) (rest := []) (QE := ux_CI (fun a M' => a = r_280 x1 M1 ∧ M' = m_280 x1 M1)) G (by decide +kernel) flw_302 flw_303 flw_304 (by decide +kernel) (by decide) rfl (by decide) rfl rfl (fun v hv => by rw [List.mem_singleton.mp hv]; trivial) (Nat.le_of_ble_eq_true rfl) (sf_280 hS (d := 0) x1 M1 q1 ⟨rfl, rfl⟩) (by decide) hce hV1 hl1.1 dl_2877 (fun r2 M2 H2 hq2 hV2 => ?_)
  obtain ⟨a, rfl, rfl, rfl⟩ := hq2
  exact fl_tail (n := n) (pc := 2880) G hS hV2 q2 q4 hl1 hce dl_2880 dl_2882 dl_2883 dl_2886 dl_2888 dl_2893 dl_2895 dl_2898 dl_2899 dl_2900 dl_2901 dl_2903 dl_2904 dl_2905 dl_2910 (by decide) (fun H3 ls3 hV3 hl3 => kk H3 ls3 _ _ hV3 q3 hl3)
set_option maxRecDepth 20000 in
theorem fl_k51 {p : Program} {l : Launch} {E : ux_E} {e : Env} {s : State} {m : MethodId} {args : Array Value} {below : List Frame} {meth : Method} {c : Code} {H : Heap} {cells slots : Nat} {Q : State → Prop} {M : ux_M} {b L qo n : Nat} {xs : Nat → Int32} {ls : Array Slot} {v : Int64} (G : fl_G E p s m args c b L xs qo) (hS : ux_SpecOK l E ux_chs) (hE : ux_THok E) (hst : l.stackTraces = false) (hV : fl_V E s qo v M H) (hQ : z_Q n M) (hn : n ≤ 600) (h4 : 4 * n + 4 ≤ L) (hls : lv_has ls 7 (fl_L E b qo n)) (hce : cells + 1 ≤ 601024 ∧ slots + 6 ≤ 7293034)
    (kk : ∀ (H1 : Heap) (ls1 : Array Slot) (M1 : ux_M) (v1 : Int64), fl_V E s qo v1 M1 H1 → z_Q (n + 1) M1 → lv_has ls1 7 (fl_L E b qo n) → W p l e room_1 s m args below meth c H1 [] (cells + 1) (slots + 6) Q (F0 m 3025 ls1 [])) : W p l e room_1 s m args below meth c H [] cells slots Q (F0 m 2913 ls []) := by
  obtain ⟨hx, hb, hml, hown, hts⟩ := id G.1
  have hL := G.2.2.2.2.2.2.2
  obtain ⟨x1, e1⟩ : ∃ z, z = xs (4 * n + 1) := ⟨_, rfl⟩
  have ok : fl_ok l E yh_143 hh_143 [aR 4 655365 0, aI x1] qo v n M (fun a => a.toInt64) (p_293 x1) (r_293 x1) (m_293 x1) := by
    by_cases h0 : z_rg x1 0 1
    rotate_left
    · exact fl_okT (z_g_293 hQ h0) (by decide) (ht_143_0 hE G.2.2.2.2.2.2.1 (tx_143_0 hS hE hst h0))
    exact fl_okN (z_f_143 hQ h0) (fun hp => hn_143 (d := 3) (by omega) G.2.2.2.2.2.2.1 (sf_143 hS (d := 0) x1 M hp ⟨rfl, rfl⟩))
  obtain ⟨QQ, hM, hq⟩ := ok
  have hVV := hV
  refine lv_aload_n hx hb dl_2913 rfl (lv_at hls 1 rfl) ?_
  refine fl_arg (k := 1) (n := n) G hVV.2.2 (by omega) (by decide +kernel) (lv_at hls 0 rfl) (lv_at hls 4 rfl) dl_2914 dl_2915 dl_2917 dl_2918 dl_2919 ?_
  rw [← e1]
  refine lv_aload_n hx hb dl_2920 rfl (lv_at hls 3 rfl) ?_
  refine fl_hlp (k := 3) (y := yh_143) (hh := hh_143) (av := [aR 4 655365 0, aI x1]) (rest := []) G hM (by decide +kernel) rfl flw_311 flw_312 flw_313 flw_37 (by decide +kernel) (by decide) (Nat.le_of_ble_eq_true rfl) hce hV hls.1 dl_2921 (fun r v1 M1 H1 hq1 hV1 => ?_)
  obtain ⟨q1, q2, q3, q4⟩ := hq r v1 M1 hq1
  refine lv_istore (lv' := (5, .int r) :: fl_L E b qo n) hx hb dl_2924 hls (by omega) rfl (fun ls1 hl1 => ?_)
  refine lv_aload_n hx hb dl_2926 rfl (lv_at hl1 3 rfl) ?_
  have hVV := hV1
  refine fl_arg (k := 1) (n := n) G hVV.2.2 (by omega) (by decide +kernel) (lv_at hl1 1 rfl) (lv_at hl1 5 rfl) dl_2927 dl_2928 dl_2930 dl_2931 dl_2932 ?_
  rw [← e1]
  refine fl_call (k := 1) (y2 := y_293) (q := (5, 819253, 0)) (ci := 6) (As := [aI x1]) (rest := []) (QE := ux_CI (fun a M' => a = r_293 x1 M1 ∧ M' = m_293 x1 M1)) G (by decide +kernel) flw_308 flw_309 flw_310 (by decide +kernel) (by decide) rfl (by decide) rfl rfl (fun v hv => by rw [List.mem_singleton.mp hv]; trivial) (Nat.le_of_ble_eq_true rfl) (sf_293 hS (d := 0) x1 M1 q1 ⟨rfl, rfl⟩) (by decide) hce hV1 hl1.1 dl_2933 (fun r2 M2 H2 hq2 hV2 => ?_)
  obtain ⟨a, rfl, rfl, rfl⟩ := hq2
  exact fl_tail (n := n) (pc := 2936) G hS hV2 q2 q4 hl1 hce dl_2936 dl_2938 dl_2939 dl_2942 dl_2944 dl_2949 dl_2951 dl_2954 dl_2955 dl_2956 dl_2957 dl_2959 dl_2960 dl_2961 dl_2966 (by decide) (fun H3 ls3 hV3 hl3 => kk H3 ls3 _ _ hV3 q3 hl3)
set_option maxRecDepth 20000 in
theorem fl_k52 {p : Program} {l : Launch} {E : ux_E} {e : Env} {s : State} {m : MethodId} {args : Array Value} {below : List Frame} {meth : Method} {c : Code} {H : Heap} {cells slots : Nat} {Q : State → Prop} {M : ux_M} {b L qo n : Nat} {xs : Nat → Int32} {ls : Array Slot} {v : Int64} (G : fl_G E p s m args c b L xs qo) (hS : ux_SpecOK l E ux_chs) (hE : ux_THok E) (hst : l.stackTraces = false) (hV : fl_V E s qo v M H) (hQ : z_Q n M) (hn : n ≤ 600) (h4 : 4 * n + 4 ≤ L) (hls : lv_has ls 7 (fl_L E b qo n)) (hce : cells + 1 ≤ 601024 ∧ slots + 6 ≤ 7293034)
    (kk : ∀ (H1 : Heap) (ls1 : Array Slot) (M1 : ux_M) (v1 : Int64), fl_V E s qo v1 M1 H1 → z_Q (n + 1) M1 → lv_has ls1 7 (fl_L E b qo n) → W p l e room_1 s m args below meth c H1 [] (cells + 1) (slots + 6) Q (F0 m 3025 ls1 [])) : W p l e room_1 s m args below meth c H [] cells slots Q (F0 m 2969 ls []) := by
  obtain ⟨hx, hb, hml, hown, hts⟩ := id G.1
  have hL := G.2.2.2.2.2.2.2
  obtain ⟨x1, e1⟩ : ∃ z, z = xs (4 * n + 1) := ⟨_, rfl⟩
  have ok : fl_ok l E yh_144 hh_144 [aR 4 655365 0, aI x1] qo v n M (fun a => a.toInt64) (p_296 x1) (r_296 x1) (m_296 x1) := by
    by_cases h0 : z_rg x1 0 1
    rotate_left
    · exact fl_okT (z_g_296 hQ h0) (by decide) (ht_144_0 hE G.2.2.2.2.2.2.1 (tx_144_0 hS hE hst h0))
    exact fl_okN (z_f_144 hQ h0) (fun hp => hn_144 (d := 3) (by omega) G.2.2.2.2.2.2.1 (sf_144 hS (d := 0) x1 M hp ⟨rfl, rfl⟩))
  obtain ⟨QQ, hM, hq⟩ := ok
  have hVV := hV
  refine lv_aload_n hx hb dl_2969 rfl (lv_at hls 1 rfl) ?_
  refine fl_arg (k := 1) (n := n) G hVV.2.2 (by omega) (by decide +kernel) (lv_at hls 0 rfl) (lv_at hls 4 rfl) dl_2970 dl_2971 dl_2973 dl_2974 dl_2975 ?_
  rw [← e1]
  refine lv_aload_n hx hb dl_2976 rfl (lv_at hls 3 rfl) ?_
  refine fl_hlp (k := 3) (y := yh_144) (hh := hh_144) (av := [aR 4 655365 0, aI x1]) (rest := []) G hM (by decide +kernel) rfl flw_317 flw_318 flw_319 flw_37 (by decide +kernel) (by decide) (Nat.le_of_ble_eq_true rfl) hce hV hls.1 dl_2977 (fun r v1 M1 H1 hq1 hV1 => ?_)
  obtain ⟨q1, q2, q3, q4⟩ := hq r v1 M1 hq1
  refine lv_istore (lv' := (5, .int r) :: fl_L E b qo n) hx hb dl_2980 hls (by omega) rfl (fun ls1 hl1 => ?_)
  refine lv_aload_n hx hb dl_2982 rfl (lv_at hl1 3 rfl) ?_
  have hVV := hV1
  refine fl_arg (k := 1) (n := n) G hVV.2.2 (by omega) (by decide +kernel) (lv_at hl1 1 rfl) (lv_at hl1 5 rfl) dl_2983 dl_2984 dl_2986 dl_2987 dl_2988 ?_
  rw [← e1]
  refine fl_call (k := 1) (y2 := y_296) (q := (5, 819253, 0)) (ci := 6) (As := [aI x1]) (rest := []) (QE := ux_CI (fun a M' => a = r_296 x1 M1 ∧ M' = m_296 x1 M1)) G (by decide +kernel) flw_314 flw_315 flw_316 (by decide +kernel) (by decide) rfl (by decide) rfl rfl (fun v hv => by rw [List.mem_singleton.mp hv]; trivial) (Nat.le_of_ble_eq_true rfl) (sf_296 hS (d := 0) x1 M1 q1 ⟨rfl, rfl⟩) (by decide) hce hV1 hl1.1 dl_2989 (fun r2 M2 H2 hq2 hV2 => ?_)
  obtain ⟨a, rfl, rfl, rfl⟩ := hq2
  exact fl_tail (n := n) (pc := 2992) G hS hV2 q2 q4 hl1 hce dl_2992 dl_2994 dl_2995 dl_2998 dl_3000 dl_3005 dl_3007 dl_3010 dl_3011 dl_3012 dl_3013 dl_3015 dl_3016 dl_3017 dl_3022 (by decide) (fun H3 ls3 hV3 hl3 => kk H3 ls3 _ _ hV3 q3 hl3)
