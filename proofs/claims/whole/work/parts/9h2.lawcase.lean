/-! THE LAW, 3.2: its cases (by wip/whole/gen9f.py) -/
set_option maxRecDepth 20000 in
theorem fl_k21 {p : Program} {l : Launch} {E : ux_E} {e : Env} {s : State} {m : MethodId} {args : Array Value} {below : List Frame} {meth : Method} {c : Code} {H : Heap} {cells slots : Nat} {Q : State → Prop} {M : ux_M} {b L qo n : Nat} {xs : Nat → Int32} {ls : Array Slot} {v : Int64} (G : fl_G E p s m args c b L xs qo) (hS : ux_SpecOK l E ux_chs) (hE : ux_THok E) (hst : l.stackTraces = false) (hV : fl_V E s qo v M H) (hQ : z_Q n M) (hn : n ≤ 600) (h4 : 4 * n + 4 ≤ L) (hls : lv_has ls 7 (fl_L E b qo n)) (hce : cells + 1 ≤ 601024 ∧ slots + 6 ≤ 7293034)
    (kk : ∀ (H1 : Heap) (ls1 : Array Slot) (M1 : ux_M) (v1 : Int64), fl_V E s qo v1 M1 H1 → z_Q (n + 1) M1 → lv_has ls1 7 (fl_L E b qo n) → W p l e room_1 s m args below meth c H1 [] (cells + 1) (slots + 6) Q (F0 m 3025 ls1 [])) : W p l e room_1 s m args below meth c H [] cells slots Q (F0 m 1389 ls []) := by
  obtain ⟨hx, hb, hml, hown, hts⟩ := id G.1
  have hL := G.2.2.2.2.2.2.2
  obtain ⟨x1, e1⟩ : ∃ z, z = xs (4 * n + 1) := ⟨_, rfl⟩
  have ok : fl_ok l E yh_114 hh_114 [aR 4 655365 0, aI x1] qo v n M (fun a => a.toInt64) (p_175 x1) (r_175 x1) (m_175 x1) := by
    by_cases h0 : z_rg x1 1 1000
    rotate_left
    · exact fl_okT (z_g_175 hQ h0) (by decide) (ht_114_0 hE G.2.2.2.2.2.2.1 (tx_114_0 hS hE hst h0))
    exact fl_okN (z_f_114 hQ hn h0) (fun hp => hn_114 (d := 27) (by omega) G.2.2.2.2.2.2.1 (sf_114 hS (d := 0) x1 M hp ⟨rfl, rfl⟩))
  obtain ⟨QQ, hM, hq⟩ := ok
  have hVV := hV
  refine lv_aload_n hx hb dl_1389 rfl (lv_at hls 1 rfl) ?_
  refine fl_arg (k := 1) (n := n) G hVV.2.2 (by omega) (by decide +kernel) (lv_at hls 0 rfl) (lv_at hls 4 rfl) dl_1390 dl_1391 dl_1393 dl_1394 dl_1395 ?_
  rw [← e1]
  refine lv_aload_n hx hb dl_1396 rfl (lv_at hls 3 rfl) ?_
  refine fl_hlp (k := 3) (y := yh_114) (hh := hh_114) (av := [aR 4 655365 0, aI x1]) (rest := []) G hM (by decide +kernel) rfl flw_131 flw_132 flw_133 flw_37 (by decide +kernel) (by decide) (Nat.le_of_ble_eq_true rfl) hce hV hls.1 dl_1397 (fun r v1 M1 H1 hq1 hV1 => ?_)
  obtain ⟨q1, q2, q3, q4⟩ := hq r v1 M1 hq1
  refine lv_istore (lv' := (5, .int r) :: fl_L E b qo n) hx hb dl_1400 hls (by omega) rfl (fun ls1 hl1 => ?_)
  refine lv_aload_n hx hb dl_1402 rfl (lv_at hl1 3 rfl) ?_
  have hVV := hV1
  refine fl_arg (k := 1) (n := n) G hVV.2.2 (by omega) (by decide +kernel) (lv_at hl1 1 rfl) (lv_at hl1 5 rfl) dl_1403 dl_1404 dl_1406 dl_1407 dl_1408 ?_
  rw [← e1]
  refine fl_call (k := 1) (y2 := y_175) (q := (5, 819253, 0)) (ci := 6) (As := [aI x1]) (rest := []) (QE := ux_CI (fun a M' => a = r_175 x1 M1 ∧ M' = m_175 x1 M1)) G (by decide +kernel) flw_128 flw_129 flw_130 (by decide +kernel) (by decide) rfl (by decide) rfl rfl (fun v hv => by rw [List.mem_singleton.mp hv]; trivial) (Nat.le_of_ble_eq_true rfl) (sf_175 hS (d := 0) x1 M1 q1 ⟨rfl, rfl⟩) (by decide) hce hV1 hl1.1 dl_1409 (fun r2 M2 H2 hq2 hV2 => ?_)
  obtain ⟨a, rfl, rfl, rfl⟩ := hq2
  exact fl_tail (n := n) (pc := 1412) G hS hV2 q2 q4 hl1 hce dl_1412 dl_1414 dl_1415 dl_1418 dl_1420 dl_1425 dl_1427 dl_1430 dl_1431 dl_1432 dl_1433 dl_1435 dl_1436 dl_1437 dl_1442 (by decide) (fun H3 ls3 hV3 hl3 => kk H3 ls3 _ _ hV3 q3 hl3)
set_option maxRecDepth 20000 in
theorem fl_k22 {p : Program} {l : Launch} {E : ux_E} {e : Env} {s : State} {m : MethodId} {args : Array Value} {below : List Frame} {meth : Method} {c : Code} {H : Heap} {cells slots : Nat} {Q : State → Prop} {M : ux_M} {b L qo n : Nat} {xs : Nat → Int32} {ls : Array Slot} {v : Int64} (G : fl_G E p s m args c b L xs qo) (hS : ux_SpecOK l E ux_chs) (hE : ux_THok E) (hst : l.stackTraces = false) (hV : fl_V E s qo v M H) (hQ : z_Q n M) (hn : n ≤ 600) (h4 : 4 * n + 4 ≤ L) (hls : lv_has ls 7 (fl_L E b qo n)) (hce : cells + 1 ≤ 601024 ∧ slots + 6 ≤ 7293034)
    (kk : ∀ (H1 : Heap) (ls1 : Array Slot) (M1 : ux_M) (v1 : Int64), fl_V E s qo v1 M1 H1 → z_Q (n + 1) M1 → lv_has ls1 7 (fl_L E b qo n) → W p l e room_1 s m args below meth c H1 [] (cells + 1) (slots + 6) Q (F0 m 3025 ls1 [])) : W p l e room_1 s m args below meth c H [] cells slots Q (F0 m 1445 ls []) := by
  obtain ⟨hx, hb, hml, hown, hts⟩ := id G.1
  have hL := G.2.2.2.2.2.2.2
  have hVV := hV
  refine lv_aload_n hx hb dl_1445 rfl (lv_at hls 1 rfl) ?_
  obtain ⟨o1, o2, o3, o4, o5⟩ := z_f_36 hQ
  refine fl_call (k := 0) (y2 := y_36) (q := (4, 655365, 0)) (ci := 0) (As := []) (rest := []) (QE := ux_CI (fun a M' => a = r_36 M ∧ M = M')) G (by decide +kernel) flw_134 flw_135 flw_136 (by decide +kernel) (by decide) rfl (by decide) rfl rfl (fun v hv => by cases hv) (Nat.le_of_ble_eq_true rfl) (sf_36 hS (d := 0) M o1 ⟨rfl, rfl⟩) (by decide) ⟨by omega, by omega⟩ hV hls.1 dl_1446 (fun r1 M1 H1 hq1 hV1 => ?_)
  obtain ⟨a1, rfl, rfl, rfl⟩ := hq1
  have hVV := hV1
  refine lv_aload_n hx hb dl_1449 rfl (lv_at hls 2 rfl) ?_
  refine fl_call (k := 0) (y2 := y_230) (q := (5, 819253, 0)) (ci := 6) (As := []) (rest := [.int _]) (QE := ux_CI (fun a M' => a = r_230 M ∧ m_230 M = M')) G (by decide +kernel) flw_137 flw_138 flw_139 (by decide +kernel) (by decide) rfl (by decide) rfl rfl (fun v hv => by cases hv) (Nat.le_of_ble_eq_true rfl) (sf_230 hS (d := 0) M o2 ⟨rfl, rfl⟩) (by decide) ⟨by omega, by omega⟩ hV1 hls.1 dl_1450 (fun r2 M2 H2 hq2 hV2 => ?_)
  obtain ⟨a2, rfl, rfl, rfl⟩ := hq2
  refine lv_icmp_eq (tgt := 3025) hx hb dl_1453 (by decide) (fun _ => ?_) (fun z => absurd o3 z)
  exact W.widen (k := cells + 1) (n := slots + 6) (by omega) (by omega) (kk H2 ls _ _ hV2 o5 hls)
set_option maxRecDepth 20000 in
theorem fl_k23 {p : Program} {l : Launch} {E : ux_E} {e : Env} {s : State} {m : MethodId} {args : Array Value} {below : List Frame} {meth : Method} {c : Code} {H : Heap} {cells slots : Nat} {Q : State → Prop} {M : ux_M} {b L qo n : Nat} {xs : Nat → Int32} {ls : Array Slot} {v : Int64} (G : fl_G E p s m args c b L xs qo) (hS : ux_SpecOK l E ux_chs) (hE : ux_THok E) (hst : l.stackTraces = false) (hV : fl_V E s qo v M H) (hQ : z_Q n M) (hn : n ≤ 600) (h4 : 4 * n + 4 ≤ L) (hls : lv_has ls 7 (fl_L E b qo n)) (hce : cells + 1 ≤ 601024 ∧ slots + 6 ≤ 7293034)
    (kk : ∀ (H1 : Heap) (ls1 : Array Slot) (M1 : ux_M) (v1 : Int64), fl_V E s qo v1 M1 H1 → z_Q (n + 1) M1 → lv_has ls1 7 (fl_L E b qo n) → W p l e room_1 s m args below meth c H1 [] (cells + 1) (slots + 6) Q (F0 m 3025 ls1 [])) : W p l e room_1 s m args below meth c H [] cells slots Q (F0 m 1458 ls []) := by
  obtain ⟨hx, hb, hml, hown, hts⟩ := id G.1
  have hL := G.2.2.2.2.2.2.2
  obtain ⟨x1, e1⟩ : ∃ z, z = xs (4 * n + 1) := ⟨_, rfl⟩
  obtain ⟨x2, e2⟩ : ∃ z, z = xs (4 * n + 2) := ⟨_, rfl⟩
  have ok : fl_ok l E yh_115 hh_115 [aR 4 655365 0, aI x1, aI x2] qo v n M (fun a => a.toInt64) (p_267 x1 x2) (r_267 x1 x2) (m_267 x1 x2) := by
    by_cases h0 : z_iu M x1
    rotate_left
    · exact fl_okT (z_g_267 hQ h0) (by decide) (ht_115_0 hE G.2.2.2.2.2.2.1 (tx_115_0 hS hE hst h0))
    by_cases h1 : z_rg x2 1 100
    rotate_left
    · exact fl_okT (z_g_267b hQ h0 h1) (by decide) (ht_115_1 hE G.2.2.2.2.2.2.1 (tx_115_1 hS hE hst h0 h1))
    exact fl_okN (z_f_115 hQ hn h0 h1) (fun hp => hn_115 (d := 26) (by omega) G.2.2.2.2.2.2.1 (sf_115 hS (d := 0) x1 x2 M hp ⟨rfl, rfl⟩))
  obtain ⟨QQ, hM, hq⟩ := ok
  have hVV := hV
  refine lv_aload_n hx hb dl_1458 rfl (lv_at hls 1 rfl) ?_
  refine fl_arg (k := 1) (n := n) G hVV.2.2 (by omega) (by decide +kernel) (lv_at hls 0 rfl) (lv_at hls 4 rfl) dl_1459 dl_1460 dl_1462 dl_1463 dl_1464 ?_
  refine fl_arg (k := 2) (n := n) G hVV.2.2 (by omega) (by decide +kernel) (lv_at hls 0 rfl) (lv_at hls 4 rfl) dl_1465 dl_1466 dl_1468 dl_1469 dl_1470 ?_
  rw [← e1, ← e2]
  refine lv_aload_n hx hb dl_1471 rfl (lv_at hls 3 rfl) ?_
  refine fl_hlp (k := 4) (y := yh_115) (hh := hh_115) (av := [aR 4 655365 0, aI x1, aI x2]) (rest := []) G hM (by decide +kernel) rfl flw_143 flw_144 flw_145 flw_37 (by decide +kernel) (by decide) (Nat.le_of_ble_eq_true rfl) hce hV hls.1 dl_1472 (fun r v1 M1 H1 hq1 hV1 => ?_)
  obtain ⟨q1, q2, q3, q4⟩ := hq r v1 M1 hq1
  refine lv_istore (lv' := (5, .int r) :: fl_L E b qo n) hx hb dl_1475 hls (by omega) rfl (fun ls1 hl1 => ?_)
  refine lv_aload_n hx hb dl_1477 rfl (lv_at hl1 3 rfl) ?_
  have hVV := hV1
  refine fl_arg (k := 1) (n := n) G hVV.2.2 (by omega) (by decide +kernel) (lv_at hl1 1 rfl) (lv_at hl1 5 rfl) dl_1478 dl_1479 dl_1481 dl_1482 dl_1483 ?_
  refine fl_arg (k := 2) (n := n) G hVV.2.2 (by omega) (by decide +kernel) (lv_at hl1 1 rfl) (lv_at hl1 5 rfl) dl_1484 dl_1485 dl_1487 dl_1488 dl_1489 ?_
  rw [← e1, ← e2]
  refine fl_call (k := 2) (y2 := y_267) (q := (5, 819253, 0)) (ci := 6) (As := [aI x1, aI x2]) (rest := []) (QE := ux_CI (fun a M' => a = r_267 x1 x2 M1 ∧ M' = m_267 x1 x2 M1)) G (by decide +kernel) flw_140 flw_141 flw_142 (by decide +kernel) (by decide) rfl (by decide) rfl rfl (fun v hv => by
      simp only [List.mem_cons, List.not_mem_nil, or_false] at hv
      rcases hv with rfl | rfl <;> trivial) (Nat.le_of_ble_eq_true rfl) (sf_267 hS (d := 0) x1 x2 M1 q1 ⟨rfl, rfl⟩) (by decide) hce hV1 hl1.1 dl_1490 (fun r2 M2 H2 hq2 hV2 => ?_)
  obtain ⟨a, rfl, rfl, rfl⟩ := hq2
  exact fl_tail (n := n) (pc := 1493) G hS hV2 q2 q4 hl1 hce dl_1493 dl_1495 dl_1496 dl_1499 dl_1501 dl_1506 dl_1508 dl_1511 dl_1512 dl_1513 dl_1514 dl_1516 dl_1517 dl_1518 dl_1523 (by decide) (fun H3 ls3 hV3 hl3 => kk H3 ls3 _ _ hV3 q3 hl3)
set_option maxRecDepth 20000 in
theorem fl_k24 {p : Program} {l : Launch} {E : ux_E} {e : Env} {s : State} {m : MethodId} {args : Array Value} {below : List Frame} {meth : Method} {c : Code} {H : Heap} {cells slots : Nat} {Q : State → Prop} {M : ux_M} {b L qo n : Nat} {xs : Nat → Int32} {ls : Array Slot} {v : Int64} (G : fl_G E p s m args c b L xs qo) (hS : ux_SpecOK l E ux_chs) (hE : ux_THok E) (hst : l.stackTraces = false) (hV : fl_V E s qo v M H) (hQ : z_Q n M) (hn : n ≤ 600) (h4 : 4 * n + 4 ≤ L) (hls : lv_has ls 7 (fl_L E b qo n)) (hce : cells + 1 ≤ 601024 ∧ slots + 6 ≤ 7293034)
    (kk : ∀ (H1 : Heap) (ls1 : Array Slot) (M1 : ux_M) (v1 : Int64), fl_V E s qo v1 M1 H1 → z_Q (n + 1) M1 → lv_has ls1 7 (fl_L E b qo n) → W p l e room_1 s m args below meth c H1 [] (cells + 1) (slots + 6) Q (F0 m 3025 ls1 [])) : W p l e room_1 s m args below meth c H [] cells slots Q (F0 m 1526 ls []) := by
  obtain ⟨hx, hb, hml, hown, hts⟩ := id G.1
  have hL := G.2.2.2.2.2.2.2
  obtain ⟨x1, e1⟩ : ∃ z, z = xs (4 * n + 1) := ⟨_, rfl⟩
  obtain ⟨x2, e2⟩ : ∃ z, z = xs (4 * n + 2) := ⟨_, rfl⟩
  have ok : fl_ok l E yh_118 hh_118 [aR 4 655365 0, aI x1, aI x2] qo v n M (fun a => a.toInt64) (p_269 x1 x2) (r_269 x1 x2) (m_269 x1 x2) := by
    by_cases h0 : z_iu M x1
    rotate_left
    · exact fl_okT (z_g_269 hQ h0) (by decide) (ht_118_0 hE G.2.2.2.2.2.2.1 (tx_118_0 hS hE hst h0))
    by_cases h1 : z_rg x2 0 255
    rotate_left
    · exact fl_okT (z_g_269b hQ h0 h1) (by decide) (ht_118_1 hE G.2.2.2.2.2.2.1 (tx_118_1 hS hE hst h0 h1))
    exact fl_okN (z_f_118 hQ hn h0 h1) (fun hp => hn_118 (d := 26) (by omega) G.2.2.2.2.2.2.1 (sf_118 hS (d := 0) x1 x2 M hp ⟨rfl, rfl⟩))
  obtain ⟨QQ, hM, hq⟩ := ok
  have hVV := hV
  refine lv_aload_n hx hb dl_1526 rfl (lv_at hls 1 rfl) ?_
  refine fl_arg (k := 1) (n := n) G hVV.2.2 (by omega) (by decide +kernel) (lv_at hls 0 rfl) (lv_at hls 4 rfl) dl_1527 dl_1528 dl_1530 dl_1531 dl_1532 ?_
  refine fl_arg (k := 2) (n := n) G hVV.2.2 (by omega) (by decide +kernel) (lv_at hls 0 rfl) (lv_at hls 4 rfl) dl_1533 dl_1534 dl_1536 dl_1537 dl_1538 ?_
  rw [← e1, ← e2]
  refine lv_aload_n hx hb dl_1539 rfl (lv_at hls 3 rfl) ?_
  refine fl_hlp (k := 4) (y := yh_118) (hh := hh_118) (av := [aR 4 655365 0, aI x1, aI x2]) (rest := []) G hM (by decide +kernel) rfl flw_149 flw_150 flw_151 flw_37 (by decide +kernel) (by decide) (Nat.le_of_ble_eq_true rfl) hce hV hls.1 dl_1540 (fun r v1 M1 H1 hq1 hV1 => ?_)
  obtain ⟨q1, q2, q3, q4⟩ := hq r v1 M1 hq1
  refine lv_istore (lv' := (5, .int r) :: fl_L E b qo n) hx hb dl_1543 hls (by omega) rfl (fun ls1 hl1 => ?_)
  refine lv_aload_n hx hb dl_1545 rfl (lv_at hl1 3 rfl) ?_
  have hVV := hV1
  refine fl_arg (k := 1) (n := n) G hVV.2.2 (by omega) (by decide +kernel) (lv_at hl1 1 rfl) (lv_at hl1 5 rfl) dl_1546 dl_1547 dl_1549 dl_1550 dl_1551 ?_
  refine fl_arg (k := 2) (n := n) G hVV.2.2 (by omega) (by decide +kernel) (lv_at hl1 1 rfl) (lv_at hl1 5 rfl) dl_1552 dl_1553 dl_1555 dl_1556 dl_1557 ?_
  rw [← e1, ← e2]
  refine fl_call (k := 2) (y2 := y_269) (q := (5, 819253, 0)) (ci := 6) (As := [aI x1, aI x2]) (rest := []) (QE := ux_CI (fun a M' => a = r_269 x1 x2 M1 ∧ M' = m_269 x1 x2 M1)) G (by decide +kernel) flw_146 flw_147 flw_148 (by decide +kernel) (by decide) rfl (by decide) rfl rfl (fun v hv => by
      simp only [List.mem_cons, List.not_mem_nil, or_false] at hv
      rcases hv with rfl | rfl <;> trivial) (Nat.le_of_ble_eq_true rfl) (sf_269 hS (d := 0) x1 x2 M1 q1 ⟨rfl, rfl⟩) (by decide) hce hV1 hl1.1 dl_1558 (fun r2 M2 H2 hq2 hV2 => ?_)
  obtain ⟨a, rfl, rfl, rfl⟩ := hq2
  exact fl_tail (n := n) (pc := 1561) G hS hV2 q2 q4 hl1 hce dl_1561 dl_1563 dl_1564 dl_1567 dl_1569 dl_1574 dl_1576 dl_1579 dl_1580 dl_1581 dl_1582 dl_1584 dl_1585 dl_1586 dl_1591 (by decide) (fun H3 ls3 hV3 hl3 => kk H3 ls3 _ _ hV3 q3 hl3)
set_option maxRecDepth 20000 in
theorem fl_k25 {p : Program} {l : Launch} {E : ux_E} {e : Env} {s : State} {m : MethodId} {args : Array Value} {below : List Frame} {meth : Method} {c : Code} {H : Heap} {cells slots : Nat} {Q : State → Prop} {M : ux_M} {b L qo n : Nat} {xs : Nat → Int32} {ls : Array Slot} {v : Int64} (G : fl_G E p s m args c b L xs qo) (hS : ux_SpecOK l E ux_chs) (hE : ux_THok E) (hst : l.stackTraces = false) (hV : fl_V E s qo v M H) (hQ : z_Q n M) (hn : n ≤ 600) (h4 : 4 * n + 4 ≤ L) (hls : lv_has ls 7 (fl_L E b qo n)) (hce : cells + 1 ≤ 601024 ∧ slots + 6 ≤ 7293034)
    (kk : ∀ (H1 : Heap) (ls1 : Array Slot) (M1 : ux_M) (v1 : Int64), fl_V E s qo v1 M1 H1 → z_Q (n + 1) M1 → lv_has ls1 7 (fl_L E b qo n) → W p l e room_1 s m args below meth c H1 [] (cells + 1) (slots + 6) Q (F0 m 3025 ls1 [])) : W p l e room_1 s m args below meth c H [] cells slots Q (F0 m 1594 ls []) := by
  obtain ⟨hx, hb, hml, hown, hts⟩ := id G.1
  have hL := G.2.2.2.2.2.2.2
  obtain ⟨x1, e1⟩ : ∃ z, z = xs (4 * n + 1) := ⟨_, rfl⟩
  have ok : fl_ok l E yh_119 hh_119 [aR 4 655365 0, aI x1] qo v n M (fl_c) (p_272 x1) (r_272 x1) (m_272 x1) := by
    by_cases h0 : z_iu M x1
    rotate_left
    · exact fl_okT (z_g_272 hQ h0) (by decide) (ht_119_0 hE G.2.2.2.2.2.2.1 (tx_119_0 hS hE hst h0))
    exact fl_okN (z_f_119 hQ hn h0) (fun hp => hn_119 (d := 26) (by omega) G.2.2.2.2.2.2.1 (sf_119 hS (d := 0) x1 M hp ⟨rfl, rfl⟩))
  obtain ⟨QQ, hM, hq⟩ := ok
  have hVV := hV
  refine lv_aload_n hx hb dl_1594 rfl (lv_at hls 1 rfl) ?_
  refine fl_arg (k := 1) (n := n) G hVV.2.2 (by omega) (by decide +kernel) (lv_at hls 0 rfl) (lv_at hls 4 rfl) dl_1595 dl_1596 dl_1598 dl_1599 dl_1600 ?_
  rw [← e1]
  refine lv_aload_n hx hb dl_1601 rfl (lv_at hls 3 rfl) ?_
  refine fl_hlp (k := 3) (y := yh_119) (hh := hh_119) (av := [aR 4 655365 0, aI x1]) (rest := []) G hM (by decide +kernel) rfl flw_155 flw_156 flw_157 flw_37 (by decide +kernel) (by decide) (Nat.le_of_ble_eq_true rfl) hce hV hls.1 dl_1602 (fun r v1 M1 H1 hq1 hV1 => ?_)
  obtain ⟨q1, q2, q3, q4⟩ := hq r v1 M1 hq1
  refine lv_istore (lv' := (5, .int r) :: fl_L E b qo n) hx hb dl_1605 hls (by omega) rfl (fun ls1 hl1 => ?_)
  refine lv_aload_n hx hb dl_1607 rfl (lv_at hl1 3 rfl) ?_
  have hVV := hV1
  refine fl_arg (k := 1) (n := n) G hVV.2.2 (by omega) (by decide +kernel) (lv_at hl1 1 rfl) (lv_at hl1 5 rfl) dl_1608 dl_1609 dl_1611 dl_1612 dl_1613 ?_
  rw [← e1]
  refine fl_call (k := 1) (y2 := y_272) (q := (5, 819253, 0)) (ci := 6) (As := [aI x1]) (rest := []) (QE := ux_CI (fun a M' => a = r_272 x1 M1 ∧ M' = m_272 x1 M1)) G (by decide +kernel) flw_152 flw_153 flw_154 (by decide +kernel) (by decide) rfl (by decide) rfl rfl (fun v hv => by rw [List.mem_singleton.mp hv]; trivial) (Nat.le_of_ble_eq_true rfl) (sf_272 hS (d := 0) x1 M1 q1 ⟨rfl, rfl⟩) (by decide) hce hV1 hl1.1 dl_1614 (fun r2 M2 H2 hq2 hV2 => ?_)
  obtain ⟨a, rfl, rfl, rfl⟩ := hq2
  exact fl_tailZ (n := n) (pc := 1617) G hS hV2 q2 q4 hl1 hce dl_1617 dl_1619 dl_1620 dl_1623 dl_1625 dl_1630 dl_1632 dl_1635 dl_1636 dl_1637 dl_1638 dl_1640 dl_1643 dl_1644 dl_1647 dl_1648 dl_1649 dl_1654 (by decide) (fun H3 ls3 hV3 hl3 => kk H3 ls3 _ _ hV3 q3 hl3)
set_option maxRecDepth 20000 in
theorem fl_k26 {p : Program} {l : Launch} {E : ux_E} {e : Env} {s : State} {m : MethodId} {args : Array Value} {below : List Frame} {meth : Method} {c : Code} {H : Heap} {cells slots : Nat} {Q : State → Prop} {M : ux_M} {b L qo n : Nat} {xs : Nat → Int32} {ls : Array Slot} {v : Int64} (G : fl_G E p s m args c b L xs qo) (hS : ux_SpecOK l E ux_chs) (hE : ux_THok E) (hst : l.stackTraces = false) (hV : fl_V E s qo v M H) (hQ : z_Q n M) (hn : n ≤ 600) (h4 : 4 * n + 4 ≤ L) (hls : lv_has ls 7 (fl_L E b qo n)) (hce : cells + 1 ≤ 601024 ∧ slots + 6 ≤ 7293034)
    (kk : ∀ (H1 : Heap) (ls1 : Array Slot) (M1 : ux_M) (v1 : Int64), fl_V E s qo v1 M1 H1 → z_Q (n + 1) M1 → lv_has ls1 7 (fl_L E b qo n) → W p l e room_1 s m args below meth c H1 [] (cells + 1) (slots + 6) Q (F0 m 3025 ls1 [])) : W p l e room_1 s m args below meth c H [] cells slots Q (F0 m 1657 ls []) := by
  obtain ⟨hx, hb, hml, hown, hts⟩ := id G.1
  have hL := G.2.2.2.2.2.2.2
  obtain ⟨x1, e1⟩ : ∃ z, z = xs (4 * n + 1) := ⟨_, rfl⟩
  obtain ⟨x2, e2⟩ : ∃ z, z = fl_b (xs (4 * n + 2)) := ⟨_, rfl⟩
  have ok : fl_ok l E yh_121 hh_121 [aR 4 655365 0, aI x1, aI x2] qo v n M (fl_c) (p_273 x1 x2) (r_273 x1 x2) (m_273 x1 x2) := by
    by_cases h0 : z_iu M x1
    rotate_left
    · exact fl_okT (z_g_273 hQ h0) (by decide) (ht_121_0 hE G.2.2.2.2.2.2.1 (tx_121_0 hS hE hst h0))
    exact fl_okN (z_f_121 hQ h0) (fun hp => hn_121 (d := 1) (by omega) G.2.2.2.2.2.2.1 (sf_121 hS (d := 0) x1 x2 M hp ⟨rfl, rfl⟩))
  obtain ⟨QQ, hM, hq⟩ := ok
  have hVV := hV
  refine lv_aload_n hx hb dl_1657 rfl (lv_at hls 1 rfl) ?_
  refine fl_arg (k := 1) (n := n) G hVV.2.2 (by omega) (by decide +kernel) (lv_at hls 0 rfl) (lv_at hls 4 rfl) dl_1658 dl_1659 dl_1661 dl_1662 dl_1663 ?_
  refine fl_arg (k := 2) (n := n) G hVV.2.2 (by omega) (by decide +kernel) (lv_at hls 0 rfl) (lv_at hls 4 rfl) dl_1664 dl_1665 dl_1667 dl_1668 dl_1669 ?_
  refine fl_bool G dl_1670 dl_1673 dl_1674 dl_1677 ?_
  rw [← e1, ← e2]
  refine lv_aload_n hx hb dl_1678 rfl (lv_at hls 3 rfl) ?_
  refine fl_hlp (k := 4) (y := yh_121) (hh := hh_121) (av := [aR 4 655365 0, aI x1, aI x2]) (rest := []) G hM (by decide +kernel) rfl flw_161 flw_162 flw_163 flw_37 (by decide +kernel) (by decide) (Nat.le_of_ble_eq_true rfl) hce hV hls.1 dl_1679 (fun r v1 M1 H1 hq1 hV1 => ?_)
  obtain ⟨q1, q2, q3, q4⟩ := hq r v1 M1 hq1
  refine lv_istore (lv' := (5, .int r) :: fl_L E b qo n) hx hb dl_1682 hls (by omega) rfl (fun ls1 hl1 => ?_)
  refine lv_aload_n hx hb dl_1684 rfl (lv_at hl1 3 rfl) ?_
  have hVV := hV1
  refine fl_arg (k := 1) (n := n) G hVV.2.2 (by omega) (by decide +kernel) (lv_at hl1 1 rfl) (lv_at hl1 5 rfl) dl_1685 dl_1686 dl_1688 dl_1689 dl_1690 ?_
  refine fl_arg (k := 2) (n := n) G hVV.2.2 (by omega) (by decide +kernel) (lv_at hl1 1 rfl) (lv_at hl1 5 rfl) dl_1691 dl_1692 dl_1694 dl_1695 dl_1696 ?_
  refine fl_bool G dl_1697 dl_1700 dl_1701 dl_1704 ?_
  rw [← e1, ← e2]
  refine fl_call (k := 2) (y2 := y_273) (q := (5, 819253, 0)) (ci := 6) (As := [aI x1, aI x2]) (rest := []) (QE := ux_CI (fun a M' => a = r_273 x1 x2 M1 ∧ M' = m_273 x1 x2 M1)) G (by decide +kernel) flw_158 flw_159 flw_160 (by decide +kernel) (by decide) rfl (by decide) rfl rfl (fun v hv => by
      simp only [List.mem_cons, List.not_mem_nil, or_false] at hv
      rcases hv with rfl | rfl <;> trivial) (Nat.le_of_ble_eq_true rfl) (sf_273 hS (d := 0) x1 x2 M1 q1 ⟨rfl, rfl⟩) (by decide) hce hV1 hl1.1 dl_1705 (fun r2 M2 H2 hq2 hV2 => ?_)
  obtain ⟨a, rfl, rfl, rfl⟩ := hq2
  exact fl_tailZ (n := n) (pc := 1708) G hS hV2 q2 q4 hl1 hce dl_1708 dl_1710 dl_1711 dl_1714 dl_1716 dl_1721 dl_1723 dl_1726 dl_1727 dl_1728 dl_1729 dl_1731 dl_1734 dl_1735 dl_1738 dl_1739 dl_1740 dl_1745 (by decide) (fun H3 ls3 hV3 hl3 => kk H3 ls3 _ _ hV3 q3 hl3)
set_option maxRecDepth 20000 in
theorem fl_k27 {p : Program} {l : Launch} {E : ux_E} {e : Env} {s : State} {m : MethodId} {args : Array Value} {below : List Frame} {meth : Method} {c : Code} {H : Heap} {cells slots : Nat} {Q : State → Prop} {M : ux_M} {b L qo n : Nat} {xs : Nat → Int32} {ls : Array Slot} {v : Int64} (G : fl_G E p s m args c b L xs qo) (hS : ux_SpecOK l E ux_chs) (hE : ux_THok E) (hst : l.stackTraces = false) (hV : fl_V E s qo v M H) (hQ : z_Q n M) (hn : n ≤ 600) (h4 : 4 * n + 4 ≤ L) (hls : lv_has ls 7 (fl_L E b qo n)) (hce : cells + 1 ≤ 601024 ∧ slots + 6 ≤ 7293034)
    (kk : ∀ (H1 : Heap) (ls1 : Array Slot) (M1 : ux_M) (v1 : Int64), fl_V E s qo v1 M1 H1 → z_Q (n + 1) M1 → lv_has ls1 7 (fl_L E b qo n) → W p l e room_1 s m args below meth c H1 [] (cells + 1) (slots + 6) Q (F0 m 3025 ls1 [])) : W p l e room_1 s m args below meth c H [] cells slots Q (F0 m 1748 ls []) := by
  obtain ⟨hx, hb, hml, hown, hts⟩ := id G.1
  have hL := G.2.2.2.2.2.2.2
  obtain ⟨x1, e1⟩ : ∃ z, z = xs (4 * n + 1) := ⟨_, rfl⟩
  have ok : fl_ok l E yh_122 hh_122 [aR 4 655365 0, aI x1] qo v n M (fun a => a.toInt64) (p_241 x1) (r_241 x1) (m_241 x1) := by
    by_cases h0 : z_iu M x1
    rotate_left
    · exact fl_okT (z_g_241 hQ h0) (by decide) (ht_122_0 hE G.2.2.2.2.2.2.1 (tx_122_0 hS hE hst h0))
    exact fl_okN (z_f_122 hQ h0) (fun hp => hn_122 (d := 1) (by omega) G.2.2.2.2.2.2.1 (sf_122 hS (d := 0) x1 M hp ⟨rfl, rfl⟩))
  obtain ⟨QQ, hM, hq⟩ := ok
  have hVV := hV
  refine lv_aload_n hx hb dl_1748 rfl (lv_at hls 1 rfl) ?_
  refine fl_arg (k := 1) (n := n) G hVV.2.2 (by omega) (by decide +kernel) (lv_at hls 0 rfl) (lv_at hls 4 rfl) dl_1749 dl_1750 dl_1752 dl_1753 dl_1754 ?_
  rw [← e1]
  refine lv_aload_n hx hb dl_1755 rfl (lv_at hls 3 rfl) ?_
  refine fl_hlp (k := 3) (y := yh_122) (hh := hh_122) (av := [aR 4 655365 0, aI x1]) (rest := []) G hM (by decide +kernel) rfl flw_167 flw_168 flw_169 flw_37 (by decide +kernel) (by decide) (Nat.le_of_ble_eq_true rfl) hce hV hls.1 dl_1756 (fun r v1 M1 H1 hq1 hV1 => ?_)
  obtain ⟨q1, q2, q3, q4⟩ := hq r v1 M1 hq1
  refine lv_istore (lv' := (5, .int r) :: fl_L E b qo n) hx hb dl_1759 hls (by omega) rfl (fun ls1 hl1 => ?_)
  refine lv_aload_n hx hb dl_1761 rfl (lv_at hl1 3 rfl) ?_
  have hVV := hV1
  refine fl_arg (k := 1) (n := n) G hVV.2.2 (by omega) (by decide +kernel) (lv_at hl1 1 rfl) (lv_at hl1 5 rfl) dl_1762 dl_1763 dl_1765 dl_1766 dl_1767 ?_
  rw [← e1]
  refine fl_call (k := 1) (y2 := y_241) (q := (5, 819253, 0)) (ci := 6) (As := [aI x1]) (rest := []) (QE := ux_CI (fun a M' => a = r_241 x1 M1 ∧ M' = m_241 x1 M1)) G (by decide +kernel) flw_164 flw_165 flw_166 (by decide +kernel) (by decide) rfl (by decide) rfl rfl (fun v hv => by rw [List.mem_singleton.mp hv]; trivial) (Nat.le_of_ble_eq_true rfl) (sf_241 hS (d := 0) x1 M1 q1 ⟨rfl, rfl⟩) (by decide) hce hV1 hl1.1 dl_1768 (fun r2 M2 H2 hq2 hV2 => ?_)
  obtain ⟨a, rfl, rfl, rfl⟩ := hq2
  exact fl_tail (n := n) (pc := 1771) G hS hV2 q2 q4 hl1 hce dl_1771 dl_1773 dl_1774 dl_1777 dl_1779 dl_1784 dl_1786 dl_1789 dl_1790 dl_1791 dl_1792 dl_1794 dl_1795 dl_1796 dl_1801 (by decide) (fun H3 ls3 hV3 hl3 => kk H3 ls3 _ _ hV3 q3 hl3)
set_option maxRecDepth 20000 in
theorem fl_k28 {p : Program} {l : Launch} {E : ux_E} {e : Env} {s : State} {m : MethodId} {args : Array Value} {below : List Frame} {meth : Method} {c : Code} {H : Heap} {cells slots : Nat} {Q : State → Prop} {M : ux_M} {b L qo n : Nat} {xs : Nat → Int32} {ls : Array Slot} {v : Int64} (G : fl_G E p s m args c b L xs qo) (hS : ux_SpecOK l E ux_chs) (hE : ux_THok E) (hst : l.stackTraces = false) (hV : fl_V E s qo v M H) (hQ : z_Q n M) (hn : n ≤ 600) (h4 : 4 * n + 4 ≤ L) (hls : lv_has ls 7 (fl_L E b qo n)) (hce : cells + 1 ≤ 601024 ∧ slots + 6 ≤ 7293034)
    (kk : ∀ (H1 : Heap) (ls1 : Array Slot) (M1 : ux_M) (v1 : Int64), fl_V E s qo v1 M1 H1 → z_Q (n + 1) M1 → lv_has ls1 7 (fl_L E b qo n) → W p l e room_1 s m args below meth c H1 [] (cells + 1) (slots + 6) Q (F0 m 3025 ls1 [])) : W p l e room_1 s m args below meth c H [] cells slots Q (F0 m 1804 ls []) := by
  obtain ⟨hx, hb, hml, hown, hts⟩ := id G.1
  have hL := G.2.2.2.2.2.2.2
  obtain ⟨x1, e1⟩ : ∃ z, z = xs (4 * n + 1) := ⟨_, rfl⟩
  have ok : fl_ok l E yh_123 hh_123 [aR 4 655365 0, aI x1] qo v n M (fun a => a.toInt64) (p_258 x1) (r_258 x1) (m_258 x1) := by
    by_cases h0 : z_rg x1 0 5
    rotate_left
    · exact fl_okT (z_g_258 hQ h0) (by decide) (ht_123_0 hE G.2.2.2.2.2.2.1 (tx_123_0 hS hE hst h0))
    exact fl_okN (z_f_123 hQ h0) (fun hp => hn_123 (d := 1) (by omega) G.2.2.2.2.2.2.1 (sf_123 hS (d := 0) x1 M hp ⟨rfl, rfl⟩))
  obtain ⟨QQ, hM, hq⟩ := ok
  have hVV := hV
  refine lv_aload_n hx hb dl_1804 rfl (lv_at hls 1 rfl) ?_
  refine fl_arg (k := 1) (n := n) G hVV.2.2 (by omega) (by decide +kernel) (lv_at hls 0 rfl) (lv_at hls 4 rfl) dl_1805 dl_1806 dl_1808 dl_1809 dl_1810 ?_
  rw [← e1]
  refine lv_aload_n hx hb dl_1811 rfl (lv_at hls 3 rfl) ?_
  refine fl_hlp (k := 3) (y := yh_123) (hh := hh_123) (av := [aR 4 655365 0, aI x1]) (rest := []) G hM (by decide +kernel) rfl flw_173 flw_174 flw_175 flw_37 (by decide +kernel) (by decide) (Nat.le_of_ble_eq_true rfl) hce hV hls.1 dl_1812 (fun r v1 M1 H1 hq1 hV1 => ?_)
  obtain ⟨q1, q2, q3, q4⟩ := hq r v1 M1 hq1
  refine lv_istore (lv' := (5, .int r) :: fl_L E b qo n) hx hb dl_1815 hls (by omega) rfl (fun ls1 hl1 => ?_)
  refine lv_aload_n hx hb dl_1817 rfl (lv_at hl1 3 rfl) ?_
  have hVV := hV1
  refine fl_arg (k := 1) (n := n) G hVV.2.2 (by omega) (by decide +kernel) (lv_at hl1 1 rfl) (lv_at hl1 5 rfl) dl_1818 dl_1819 dl_1821 dl_1822 dl_1823 ?_
  rw [← e1]
  refine fl_call (k := 1) (y2 := y_258) (q := (5, 819253, 0)) (ci := 6) (As := [aI x1]) (rest := []) (QE := ux_CI (fun a M' => a = r_258 x1 M1 ∧ M' = m_258 x1 M1)) G (by decide +kernel) flw_170 flw_171 flw_172 (by decide +kernel) (by decide) rfl (by decide) rfl rfl (fun v hv => by rw [List.mem_singleton.mp hv]; trivial) (Nat.le_of_ble_eq_true rfl) (sf_258 hS (d := 0) x1 M1 q1 ⟨rfl, rfl⟩) (by decide) hce hV1 hl1.1 dl_1824 (fun r2 M2 H2 hq2 hV2 => ?_)
  obtain ⟨a, rfl, rfl, rfl⟩ := hq2
  exact fl_tail (n := n) (pc := 1827) G hS hV2 q2 q4 hl1 hce dl_1827 dl_1829 dl_1830 dl_1833 dl_1835 dl_1840 dl_1842 dl_1845 dl_1846 dl_1847 dl_1848 dl_1850 dl_1851 dl_1852 dl_1857 (by decide) (fun H3 ls3 hV3 hl3 => kk H3 ls3 _ _ hV3 q3 hl3)
set_option maxRecDepth 20000 in
theorem fl_k29 {p : Program} {l : Launch} {E : ux_E} {e : Env} {s : State} {m : MethodId} {args : Array Value} {below : List Frame} {meth : Method} {c : Code} {H : Heap} {cells slots : Nat} {Q : State → Prop} {M : ux_M} {b L qo n : Nat} {xs : Nat → Int32} {ls : Array Slot} {v : Int64} (G : fl_G E p s m args c b L xs qo) (hS : ux_SpecOK l E ux_chs) (hE : ux_THok E) (hst : l.stackTraces = false) (hV : fl_V E s qo v M H) (hQ : z_Q n M) (hn : n ≤ 600) (h4 : 4 * n + 4 ≤ L) (hls : lv_has ls 7 (fl_L E b qo n)) (hce : cells + 1 ≤ 601024 ∧ slots + 6 ≤ 7293034)
    (kk : ∀ (H1 : Heap) (ls1 : Array Slot) (M1 : ux_M) (v1 : Int64), fl_V E s qo v1 M1 H1 → z_Q (n + 1) M1 → lv_has ls1 7 (fl_L E b qo n) → W p l e room_1 s m args below meth c H1 [] (cells + 1) (slots + 6) Q (F0 m 3025 ls1 [])) : W p l e room_1 s m args below meth c H [] cells slots Q (F0 m 1860 ls []) := by
  obtain ⟨hx, hb, hml, hown, hts⟩ := id G.1
  have hL := G.2.2.2.2.2.2.2
  obtain ⟨x1, e1⟩ : ∃ z, z = xs (4 * n + 1) := ⟨_, rfl⟩
  have ok : fl_ok l E yh_124 hh_124 [aR 4 655365 0, aI x1] qo v n M (fun a => a.toInt64) (p_242 x1) (r_242 x1) (m_242 x1) := by
    by_cases h0 : z_iu M x1
    rotate_left
    · exact fl_okT (z_g_242 hQ h0) (by decide) (ht_124_0 hE G.2.2.2.2.2.2.1 (tx_124_0 hS hE hst h0))
    exact fl_okN (z_f_124 hQ h0) (fun hp => hn_124 (d := 1) (by omega) G.2.2.2.2.2.2.1 (sf_124 hS (d := 0) x1 M hp ⟨rfl, rfl⟩))
  obtain ⟨QQ, hM, hq⟩ := ok
  have hVV := hV
  refine lv_aload_n hx hb dl_1860 rfl (lv_at hls 1 rfl) ?_
  refine fl_arg (k := 1) (n := n) G hVV.2.2 (by omega) (by decide +kernel) (lv_at hls 0 rfl) (lv_at hls 4 rfl) dl_1861 dl_1862 dl_1864 dl_1865 dl_1866 ?_
  rw [← e1]
  refine lv_aload_n hx hb dl_1867 rfl (lv_at hls 3 rfl) ?_
  refine fl_hlp (k := 3) (y := yh_124) (hh := hh_124) (av := [aR 4 655365 0, aI x1]) (rest := []) G hM (by decide +kernel) rfl flw_179 flw_180 flw_181 flw_37 (by decide +kernel) (by decide) (Nat.le_of_ble_eq_true rfl) hce hV hls.1 dl_1868 (fun r v1 M1 H1 hq1 hV1 => ?_)
  obtain ⟨q1, q2, q3, q4⟩ := hq r v1 M1 hq1
  refine lv_istore (lv' := (5, .int r) :: fl_L E b qo n) hx hb dl_1871 hls (by omega) rfl (fun ls1 hl1 => ?_)
  refine lv_aload_n hx hb dl_1873 rfl (lv_at hl1 3 rfl) ?_
  have hVV := hV1
  refine fl_arg (k := 1) (n := n) G hVV.2.2 (by omega) (by decide +kernel) (lv_at hl1 1 rfl) (lv_at hl1 5 rfl) dl_1874 dl_1875 dl_1877 dl_1878 dl_1879 ?_
  rw [← e1]
  refine fl_call (k := 1) (y2 := y_242) (q := (5, 819253, 0)) (ci := 6) (As := [aI x1]) (rest := []) (QE := ux_CI (fun a M' => a = r_242 x1 M1 ∧ M' = m_242 x1 M1)) G (by decide +kernel) flw_176 flw_177 flw_178 (by decide +kernel) (by decide) rfl (by decide) rfl rfl (fun v hv => by rw [List.mem_singleton.mp hv]; trivial) (Nat.le_of_ble_eq_true rfl) (sf_242 hS (d := 0) x1 M1 q1 ⟨rfl, rfl⟩) (by decide) hce hV1 hl1.1 dl_1880 (fun r2 M2 H2 hq2 hV2 => ?_)
  obtain ⟨a, rfl, rfl, rfl⟩ := hq2
  exact fl_tail (n := n) (pc := 1883) G hS hV2 q2 q4 hl1 hce dl_1883 dl_1885 dl_1886 dl_1889 dl_1891 dl_1896 dl_1898 dl_1901 dl_1902 dl_1903 dl_1904 dl_1906 dl_1907 dl_1908 dl_1913 (by decide) (fun H3 ls3 hV3 hl3 => kk H3 ls3 _ _ hV3 q3 hl3)
set_option maxRecDepth 20000 in
theorem fl_k30 {p : Program} {l : Launch} {E : ux_E} {e : Env} {s : State} {m : MethodId} {args : Array Value} {below : List Frame} {meth : Method} {c : Code} {H : Heap} {cells slots : Nat} {Q : State → Prop} {M : ux_M} {b L qo n : Nat} {xs : Nat → Int32} {ls : Array Slot} {v : Int64} (G : fl_G E p s m args c b L xs qo) (hS : ux_SpecOK l E ux_chs) (hE : ux_THok E) (hst : l.stackTraces = false) (hV : fl_V E s qo v M H) (hQ : z_Q n M) (hn : n ≤ 600) (h4 : 4 * n + 4 ≤ L) (hls : lv_has ls 7 (fl_L E b qo n)) (hce : cells + 1 ≤ 601024 ∧ slots + 6 ≤ 7293034)
    (kk : ∀ (H1 : Heap) (ls1 : Array Slot) (M1 : ux_M) (v1 : Int64), fl_V E s qo v1 M1 H1 → z_Q (n + 1) M1 → lv_has ls1 7 (fl_L E b qo n) → W p l e room_1 s m args below meth c H1 [] (cells + 1) (slots + 6) Q (F0 m 3025 ls1 [])) : W p l e room_1 s m args below meth c H [] cells slots Q (F0 m 1916 ls []) := by
  obtain ⟨hx, hb, hml, hown, hts⟩ := id G.1
  have hL := G.2.2.2.2.2.2.2
  obtain ⟨x1, e1⟩ : ∃ z, z = xs (4 * n + 1) := ⟨_, rfl⟩
  have ok : fl_ok l E yh_125 hh_125 [aR 4 655365 0, aI x1] qo v n M (fun a => a.toInt64) (p_243 x1) (r_243 x1) (m_243 x1) := by
    by_cases h0 : z_iu M x1
    rotate_left
    · exact fl_okT (z_g_243 hQ h0) (by decide) (ht_125_0 hE G.2.2.2.2.2.2.1 (tx_125_0 hS hE hst h0))
    exact fl_okN (z_f_125 hQ h0) (fun hp => hn_125 (d := 1) (by omega) G.2.2.2.2.2.2.1 (sf_125 hS (d := 0) x1 M hp ⟨rfl, rfl⟩))
  obtain ⟨QQ, hM, hq⟩ := ok
  have hVV := hV
  refine lv_aload_n hx hb dl_1916 rfl (lv_at hls 1 rfl) ?_
  refine fl_arg (k := 1) (n := n) G hVV.2.2 (by omega) (by decide +kernel) (lv_at hls 0 rfl) (lv_at hls 4 rfl) dl_1917 dl_1918 dl_1920 dl_1921 dl_1922 ?_
  rw [← e1]
  refine lv_aload_n hx hb dl_1923 rfl (lv_at hls 3 rfl) ?_
  refine fl_hlp (k := 3) (y := yh_125) (hh := hh_125) (av := [aR 4 655365 0, aI x1]) (rest := []) G hM (by decide +kernel) rfl flw_185 flw_186 flw_187 flw_37 (by decide +kernel) (by decide) (Nat.le_of_ble_eq_true rfl) hce hV hls.1 dl_1924 (fun r v1 M1 H1 hq1 hV1 => ?_)
  obtain ⟨q1, q2, q3, q4⟩ := hq r v1 M1 hq1
  refine lv_istore (lv' := (5, .int r) :: fl_L E b qo n) hx hb dl_1927 hls (by omega) rfl (fun ls1 hl1 => ?_)
  refine lv_aload_n hx hb dl_1929 rfl (lv_at hl1 3 rfl) ?_
  have hVV := hV1
  refine fl_arg (k := 1) (n := n) G hVV.2.2 (by omega) (by decide +kernel) (lv_at hl1 1 rfl) (lv_at hl1 5 rfl) dl_1930 dl_1931 dl_1933 dl_1934 dl_1935 ?_
  rw [← e1]
  refine fl_call (k := 1) (y2 := y_243) (q := (5, 819253, 0)) (ci := 6) (As := [aI x1]) (rest := []) (QE := ux_CI (fun a M' => a = r_243 x1 M1 ∧ M' = m_243 x1 M1)) G (by decide +kernel) flw_182 flw_183 flw_184 (by decide +kernel) (by decide) rfl (by decide) rfl rfl (fun v hv => by rw [List.mem_singleton.mp hv]; trivial) (Nat.le_of_ble_eq_true rfl) (sf_243 hS (d := 0) x1 M1 q1 ⟨rfl, rfl⟩) (by decide) hce hV1 hl1.1 dl_1936 (fun r2 M2 H2 hq2 hV2 => ?_)
  obtain ⟨a, rfl, rfl, rfl⟩ := hq2
  exact fl_tail (n := n) (pc := 1939) G hS hV2 q2 q4 hl1 hce dl_1939 dl_1941 dl_1942 dl_1945 dl_1947 dl_1952 dl_1954 dl_1957 dl_1958 dl_1959 dl_1960 dl_1962 dl_1963 dl_1964 dl_1969 (by decide) (fun H3 ls3 hV3 hl3 => kk H3 ls3 _ _ hV3 q3 hl3)
