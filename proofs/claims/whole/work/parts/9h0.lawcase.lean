/-! THE LAW, 3.0: its cases (by wip/whole/gen9f.py) -/
set_option maxRecDepth 20000 in
theorem fl_k0 {p : Program} {l : Launch} {E : ux_E} {e : Env} {s : State} {m : MethodId} {args : Array Value} {below : List Frame} {meth : Method} {c : Code} {H : Heap} {cells slots : Nat} {Q : State → Prop} {M : ux_M} {b L qo n : Nat} {xs : Nat → Int32} {ls : Array Slot} {v : Int64} (G : fl_G E p s m args c b L xs qo) (hS : ux_SpecOK l E ux_chs) (hE : ux_THok E) (hst : l.stackTraces = false) (hV : fl_V E s qo v M H) (hQ : z_Q n M) (hn : n ≤ 600) (h4 : 4 * n + 4 ≤ L) (hls : lv_has ls 7 (fl_L E b qo n)) (hce : cells + 1 ≤ 601024 ∧ slots + 6 ≤ 7293034)
    (kk : ∀ (H1 : Heap) (ls1 : Array Slot) (M1 : ux_M) (v1 : Int64), fl_V E s qo v1 M1 H1 → z_Q (n + 1) M1 → lv_has ls1 7 (fl_L E b qo n) → W p l e room_1 s m args below meth c H1 [] (cells + 1) (slots + 6) Q (F0 m 3025 ls1 [])) : W p l e room_1 s m args below meth c H [] cells slots Q (F0 m 264 ls []) := by
  obtain ⟨hx, hb, hml, hown, hts⟩ := id G.1
  have hL := G.2.2.2.2.2.2.2
  have hVV := hV
  refine lv_aload_n hx hb dl_264 rfl (lv_at hls 1 rfl) ?_
  refine fl_arg (k := 1) (n := n) G hVV.2.2 (by omega) (by decide +kernel) (lv_at hls 0 rfl) (lv_at hls 4 rfl) dl_265 dl_266 dl_268 dl_269 dl_270 ?_
  refine lv_i2l hx hb dl_271 rfl ?_
  refine lv_bipush (v := 32) hx hb dl_272 (by decide) ?_
  refine lv_lshl hx hb dl_274 rfl ?_
  refine fl_arg (k := 2) (n := n) G hVV.2.2 (by omega) (by decide +kernel) (lv_at hls 0 rfl) (lv_at hls 4 rfl) dl_275 dl_276 dl_278 dl_279 dl_280 ?_
  refine lv_i2l hx hb dl_281 rfl ?_
  refine lv_ldc2 hx hb hown (hts _ (ux_at flw_6)) dl_282 ?_
  refine lv_land hx hb dl_285 ?_
  refine lv_lor hx hb dl_286 ?_
  refine lv_topl (fun x1 ex1 => ?_)
  obtain ⟨o1, o2, o3, o4, o5⟩ := z_f_6 hQ x1
  refine fl_call (k := 1) (y2 := y_6) (q := (4, 655365, 0)) (ci := 0) (As := [aL x1]) (rest := []) (QE := ux_CI (fun a M' => a = r_6 x1 M ∧ (m_6 x1 M) = M')) G (by decide +kernel) flw_0 flw_1 flw_2 (by decide +kernel) (by decide) rfl (by decide) rfl rfl (fun v hv => by rw [List.mem_singleton.mp hv]; trivial) (Nat.le_of_ble_eq_true rfl) (sf_6 hS (d := 0) x1 M o1 ⟨rfl, rfl⟩) (by decide) ⟨by omega, by omega⟩ hV hls.1 dl_287 (fun r1 M1 H1 hq1 hV1 => ?_)
  obtain ⟨a1, rfl, rfl, rfl⟩ := hq1
  have hVV := hV1
  refine lv_aload_n hx hb dl_290 rfl (lv_at hls 2 rfl) ?_
  refine fl_arg (k := 1) (n := n) G hVV.2.2 (by omega) (by decide +kernel) (lv_at hls 0 rfl) (lv_at hls 4 rfl) dl_291 dl_292 dl_294 dl_295 dl_296 ?_
  refine lv_i2l hx hb dl_297 rfl ?_
  refine lv_bipush (v := 32) hx hb dl_298 (by decide) ?_
  refine lv_lshl hx hb dl_300 rfl ?_
  refine fl_arg (k := 2) (n := n) G hVV.2.2 (by omega) (by decide +kernel) (lv_at hls 0 rfl) (lv_at hls 4 rfl) dl_301 dl_302 dl_304 dl_305 dl_306 ?_
  refine lv_i2l hx hb dl_307 rfl ?_
  refine lv_ldc2 hx hb hown (hts _ (ux_at flw_6)) dl_308 ?_
  refine lv_land hx hb dl_311 ?_
  refine lv_lor hx hb dl_312 ?_
  refine lv_topl (fun x2 ex2 => ?_)
  rw [show x2 = x1 from ex2.trans ex1.symm]
  refine fl_call (k := 1) (y2 := y_147) (q := (5, 819253, 0)) (ci := 6) (As := [aL x1]) (rest := [.int _]) (QE := ux_CI (fun a M' => a = r_147 x1 (m_6 x1 M) ∧ m_147 x1 (m_6 x1 M) = M')) G (by decide +kernel) flw_3 flw_4 flw_5 (by decide +kernel) (by decide) rfl (by decide) rfl rfl (fun v hv => by rw [List.mem_singleton.mp hv]; trivial) (Nat.le_of_ble_eq_true rfl) (sf_147 hS (d := 0) x1 (m_6 x1 M) o2 ⟨rfl, rfl⟩) (by decide) ⟨by omega, by omega⟩ hV1 hls.1 dl_313 (fun r2 M2 H2 hq2 hV2 => ?_)
  obtain ⟨a2, rfl, rfl, rfl⟩ := hq2
  refine lv_icmp_eq (tgt := 3025) hx hb dl_316 (by decide) (fun _ => ?_) (fun z => absurd o3 z)
  exact W.widen (k := cells + 1) (n := slots + 6) (by omega) (by omega) (kk H2 ls _ _ hV2 o5 hls)
set_option maxRecDepth 20000 in
theorem fl_k1 {p : Program} {l : Launch} {E : ux_E} {e : Env} {s : State} {m : MethodId} {args : Array Value} {below : List Frame} {meth : Method} {c : Code} {H : Heap} {cells slots : Nat} {Q : State → Prop} {M : ux_M} {b L qo n : Nat} {xs : Nat → Int32} {ls : Array Slot} {v : Int64} (G : fl_G E p s m args c b L xs qo) (hS : ux_SpecOK l E ux_chs) (hE : ux_THok E) (hst : l.stackTraces = false) (hV : fl_V E s qo v M H) (hQ : z_Q n M) (hn : n ≤ 600) (h4 : 4 * n + 4 ≤ L) (hls : lv_has ls 7 (fl_L E b qo n)) (hce : cells + 1 ≤ 601024 ∧ slots + 6 ≤ 7293034)
    (kk : ∀ (H1 : Heap) (ls1 : Array Slot) (M1 : ux_M) (v1 : Int64), fl_V E s qo v1 M1 H1 → z_Q (n + 1) M1 → lv_has ls1 7 (fl_L E b qo n) → W p l e room_1 s m args below meth c H1 [] (cells + 1) (slots + 6) Q (F0 m 3025 ls1 [])) : W p l e room_1 s m args below meth c H [] cells slots Q (F0 m 321 ls []) := by
  obtain ⟨hx, hb, hml, hown, hts⟩ := id G.1
  have hL := G.2.2.2.2.2.2.2
  have hVV := hV
  refine lv_aload_n hx hb dl_321 rfl (lv_at hls 1 rfl) ?_
  obtain ⟨o1, o2, o3, o4, o5⟩ := z_f_7 hQ
  refine fl_call (k := 0) (y2 := y_7) (q := (4, 655365, 0)) (ci := 0) (As := []) (rest := []) (QE := ux_CI (fun a M' => a = r_7 M ∧ (m_7 M) = M')) G (by decide +kernel) flw_7 flw_8 flw_9 (by decide +kernel) (by decide) rfl (by decide) rfl rfl (fun v hv => by cases hv) (Nat.le_of_ble_eq_true rfl) (sf_7 hS (d := 0) M o1 ⟨rfl, rfl⟩) (by decide) ⟨by omega, by omega⟩ hV hls.1 dl_322 (fun r1 M1 H1 hq1 hV1 => ?_)
  obtain ⟨a1, rfl, rfl, rfl⟩ := hq1
  have hVV := hV1
  refine lv_aload_n hx hb dl_325 rfl (lv_at hls 2 rfl) ?_
  refine fl_call (k := 0) (y2 := y_149) (q := (5, 819253, 0)) (ci := 6) (As := []) (rest := [.int _]) (QE := ux_CI (fun a M' => a = r_149 (m_7 M) ∧ m_149 (m_7 M) = M')) G (by decide +kernel) flw_10 flw_11 flw_12 (by decide +kernel) (by decide) rfl (by decide) rfl rfl (fun v hv => by cases hv) (Nat.le_of_ble_eq_true rfl) (sf_149 hS (d := 0) (m_7 M) o2 ⟨rfl, rfl⟩) (by decide) ⟨by omega, by omega⟩ hV1 hls.1 dl_326 (fun r2 M2 H2 hq2 hV2 => ?_)
  obtain ⟨a2, rfl, rfl, rfl⟩ := hq2
  refine lv_icmp_eq (tgt := 3025) hx hb dl_329 (by decide) (fun _ => ?_) (fun z => absurd o3 z)
  exact W.widen (k := cells + 1) (n := slots + 6) (by omega) (by omega) (kk H2 ls _ _ hV2 o5 hls)
set_option maxRecDepth 20000 in
theorem fl_k2 {p : Program} {l : Launch} {E : ux_E} {e : Env} {s : State} {m : MethodId} {args : Array Value} {below : List Frame} {meth : Method} {c : Code} {H : Heap} {cells slots : Nat} {Q : State → Prop} {M : ux_M} {b L qo n : Nat} {xs : Nat → Int32} {ls : Array Slot} {v : Int64} (G : fl_G E p s m args c b L xs qo) (hS : ux_SpecOK l E ux_chs) (hE : ux_THok E) (hst : l.stackTraces = false) (hV : fl_V E s qo v M H) (hQ : z_Q n M) (hn : n ≤ 600) (h4 : 4 * n + 4 ≤ L) (hls : lv_has ls 7 (fl_L E b qo n)) (hce : cells + 1 ≤ 601024 ∧ slots + 6 ≤ 7293034)
    (kk : ∀ (H1 : Heap) (ls1 : Array Slot) (M1 : ux_M) (v1 : Int64), fl_V E s qo v1 M1 H1 → z_Q (n + 1) M1 → lv_has ls1 7 (fl_L E b qo n) → W p l e room_1 s m args below meth c H1 [] (cells + 1) (slots + 6) Q (F0 m 3025 ls1 [])) : W p l e room_1 s m args below meth c H [] cells slots Q (F0 m 334 ls []) := by
  obtain ⟨hx, hb, hml, hown, hts⟩ := id G.1
  have hL := G.2.2.2.2.2.2.2
  have hVV := hV
  refine lv_aload_n hx hb dl_334 rfl (lv_at hls 1 rfl) ?_
  obtain ⟨o1, o2, o3, o4, o5⟩ := z_f_31 hQ
  refine fl_call (k := 0) (y2 := y_31) (q := (4, 655365, 0)) (ci := 0) (As := []) (rest := []) (QE := ux_CI (fun a M' => a = r_31 M ∧ M = M')) G (by decide +kernel) flw_13 flw_14 flw_15 (by decide +kernel) (by decide) rfl (by decide) rfl rfl (fun v hv => by cases hv) (Nat.le_of_ble_eq_true rfl) (sf_31 hS (d := 0) M o1 ⟨rfl, rfl⟩) (by decide) ⟨by omega, by omega⟩ hV hls.1 dl_335 (fun r1 M1 H1 hq1 hV1 => ?_)
  obtain ⟨a1, rfl, rfl, rfl⟩ := hq1
  have hVV := hV1
  refine lv_aload_n hx hb dl_338 rfl (lv_at hls 2 rfl) ?_
  refine fl_call (k := 0) (y2 := y_148) (q := (5, 819253, 0)) (ci := 6) (As := []) (rest := [.int _]) (QE := ux_CI (fun a M' => a = r_148 M ∧ m_148 M = M')) G (by decide +kernel) flw_16 flw_17 flw_18 (by decide +kernel) (by decide) rfl (by decide) rfl rfl (fun v hv => by cases hv) (Nat.le_of_ble_eq_true rfl) (sf_148 hS (d := 0) M o2 ⟨rfl, rfl⟩) (by decide) ⟨by omega, by omega⟩ hV1 hls.1 dl_339 (fun r2 M2 H2 hq2 hV2 => ?_)
  obtain ⟨a2, rfl, rfl, rfl⟩ := hq2
  refine lv_icmp_eq (tgt := 3025) hx hb dl_342 (by decide) (fun _ => ?_) (fun z => absurd o3 z)
  exact W.widen (k := cells + 1) (n := slots + 6) (by omega) (by omega) (kk H2 ls _ _ hV2 o5 hls)
set_option maxRecDepth 20000 in
theorem fl_k3 {p : Program} {l : Launch} {E : ux_E} {e : Env} {s : State} {m : MethodId} {args : Array Value} {below : List Frame} {meth : Method} {c : Code} {H : Heap} {cells slots : Nat} {Q : State → Prop} {M : ux_M} {b L qo n : Nat} {xs : Nat → Int32} {ls : Array Slot} {v : Int64} (G : fl_G E p s m args c b L xs qo) (hS : ux_SpecOK l E ux_chs) (hE : ux_THok E) (hst : l.stackTraces = false) (hV : fl_V E s qo v M H) (hQ : z_Q n M) (hn : n ≤ 600) (h4 : 4 * n + 4 ≤ L) (hls : lv_has ls 7 (fl_L E b qo n)) (hce : cells + 1 ≤ 601024 ∧ slots + 6 ≤ 7293034)
    (kk : ∀ (H1 : Heap) (ls1 : Array Slot) (M1 : ux_M) (v1 : Int64), fl_V E s qo v1 M1 H1 → z_Q (n + 1) M1 → lv_has ls1 7 (fl_L E b qo n) → W p l e room_1 s m args below meth c H1 [] (cells + 1) (slots + 6) Q (F0 m 3025 ls1 [])) : W p l e room_1 s m args below meth c H [] cells slots Q (F0 m 347 ls []) := by
  obtain ⟨hx, hb, hml, hown, hts⟩ := id G.1
  have hL := G.2.2.2.2.2.2.2
  have hVV := hV
  refine lv_aload_n hx hb dl_347 rfl (lv_at hls 1 rfl) ?_
  obtain ⟨o1, o2, o3, o4, o5⟩ := z_f_32 hQ
  refine fl_call (k := 0) (y2 := y_32) (q := (4, 655365, 0)) (ci := 0) (As := []) (rest := []) (QE := ux_CI (fun a M' => a = r_32 M ∧ (m_32 M) = M')) G (by decide +kernel) flw_19 flw_20 flw_21 (by decide +kernel) (by decide) rfl (by decide) rfl rfl (fun v hv => by cases hv) (Nat.le_of_ble_eq_true rfl) (sf_32 hS (d := 0) M o1 ⟨rfl, rfl⟩) (by decide) ⟨by omega, by omega⟩ hV hls.1 dl_348 (fun r1 M1 H1 hq1 hV1 => ?_)
  obtain ⟨a1, rfl, rfl, rfl⟩ := hq1
  have hVV := hV1
  refine lv_aload_n hx hb dl_351 rfl (lv_at hls 2 rfl) ?_
  refine fl_call (k := 0) (y2 := y_174) (q := (5, 819253, 0)) (ci := 6) (As := []) (rest := [.int _]) (QE := ux_CI (fun a M' => a = r_174 (m_32 M) ∧ m_174 (m_32 M) = M')) G (by decide +kernel) flw_22 flw_23 flw_24 (by decide +kernel) (by decide) rfl (by decide) rfl rfl (fun v hv => by cases hv) (Nat.le_of_ble_eq_true rfl) (sf_174 hS (d := 0) (m_32 M) o2 ⟨rfl, rfl⟩) (by decide) ⟨by omega, by omega⟩ hV1 hls.1 dl_352 (fun r2 M2 H2 hq2 hV2 => ?_)
  obtain ⟨a2, rfl, rfl, rfl⟩ := hq2
  refine lv_icmp_eq (tgt := 3025) hx hb dl_355 (by decide) (fun _ => ?_) (fun z => absurd o3 z)
  exact W.widen (k := cells + 1) (n := slots + 6) (by omega) (by omega) (kk H2 ls _ _ hV2 o5 hls)
set_option maxRecDepth 20000 in
theorem fl_k4 {p : Program} {l : Launch} {E : ux_E} {e : Env} {s : State} {m : MethodId} {args : Array Value} {below : List Frame} {meth : Method} {c : Code} {H : Heap} {cells slots : Nat} {Q : State → Prop} {M : ux_M} {b L qo n : Nat} {xs : Nat → Int32} {ls : Array Slot} {v : Int64} (G : fl_G E p s m args c b L xs qo) (hS : ux_SpecOK l E ux_chs) (hE : ux_THok E) (hst : l.stackTraces = false) (hV : fl_V E s qo v M H) (hQ : z_Q n M) (hn : n ≤ 600) (h4 : 4 * n + 4 ≤ L) (hls : lv_has ls 7 (fl_L E b qo n)) (hce : cells + 1 ≤ 601024 ∧ slots + 6 ≤ 7293034)
    (kk : ∀ (H1 : Heap) (ls1 : Array Slot) (M1 : ux_M) (v1 : Int64), fl_V E s qo v1 M1 H1 → z_Q (n + 1) M1 → lv_has ls1 7 (fl_L E b qo n) → W p l e room_1 s m args below meth c H1 [] (cells + 1) (slots + 6) Q (F0 m 3025 ls1 [])) : W p l e room_1 s m args below meth c H [] cells slots Q (F0 m 360 ls []) := by
  obtain ⟨hx, hb, hml, hown, hts⟩ := id G.1
  have hL := G.2.2.2.2.2.2.2
  have hVV := hV
  refine lv_aload_n hx hb dl_360 rfl (lv_at hls 1 rfl) ?_
  obtain ⟨o1, o2, o3, o4, o5⟩ := z_f_33 hQ
  refine fl_call (k := 0) (y2 := y_33) (q := (4, 655365, 0)) (ci := 0) (As := []) (rest := []) (QE := ux_CI (fun a M' => a = r_33 M ∧ M = M')) G (by decide +kernel) flw_25 flw_26 flw_27 (by decide +kernel) (by decide) rfl (by decide) rfl rfl (fun v hv => by cases hv) (Nat.le_of_ble_eq_true rfl) (sf_33 hS (d := 0) M o1 ⟨rfl, rfl⟩) (by decide) ⟨by omega, by omega⟩ hV hls.1 dl_361 (fun r1 M1 H1 hq1 hV1 => ?_)
  obtain ⟨a1, rfl, rfl, rfl⟩ := hq1
  have hVV := hV1
  refine lv_aload_n hx hb dl_364 rfl (lv_at hls 2 rfl) ?_
  refine fl_call (k := 0) (y2 := y_232) (q := (5, 819253, 0)) (ci := 6) (As := []) (rest := [.int _]) (QE := ux_CI (fun a M' => a = r_232 M ∧ m_232 M = M')) G (by decide +kernel) flw_28 flw_29 flw_30 (by decide +kernel) (by decide) rfl (by decide) rfl rfl (fun v hv => by cases hv) (Nat.le_of_ble_eq_true rfl) (sf_232 hS (d := 0) M o2 ⟨rfl, rfl⟩) (by decide) ⟨by omega, by omega⟩ hV1 hls.1 dl_365 (fun r2 M2 H2 hq2 hV2 => ?_)
  obtain ⟨a2, rfl, rfl, rfl⟩ := hq2
  refine lv_icmp_eq (tgt := 3025) hx hb dl_368 (by decide) (fun _ => ?_) (fun z => absurd o3 z)
  exact W.widen (k := cells + 1) (n := slots + 6) (by omega) (by omega) (kk H2 ls _ _ hV2 o5 hls)
set_option maxRecDepth 20000 in
theorem fl_k5 {p : Program} {l : Launch} {E : ux_E} {e : Env} {s : State} {m : MethodId} {args : Array Value} {below : List Frame} {meth : Method} {c : Code} {H : Heap} {cells slots : Nat} {Q : State → Prop} {M : ux_M} {b L qo n : Nat} {xs : Nat → Int32} {ls : Array Slot} {v : Int64} (G : fl_G E p s m args c b L xs qo) (hS : ux_SpecOK l E ux_chs) (hE : ux_THok E) (hst : l.stackTraces = false) (hV : fl_V E s qo v M H) (hQ : z_Q n M) (hn : n ≤ 600) (h4 : 4 * n + 4 ≤ L) (hls : lv_has ls 7 (fl_L E b qo n)) (hce : cells + 1 ≤ 601024 ∧ slots + 6 ≤ 7293034)
    (kk : ∀ (H1 : Heap) (ls1 : Array Slot) (M1 : ux_M) (v1 : Int64), fl_V E s qo v1 M1 H1 → z_Q (n + 1) M1 → lv_has ls1 7 (fl_L E b qo n) → W p l e room_1 s m args below meth c H1 [] (cells + 1) (slots + 6) Q (F0 m 3025 ls1 [])) : W p l e room_1 s m args below meth c H [] cells slots Q (F0 m 373 ls []) := by
  obtain ⟨hx, hb, hml, hown, hts⟩ := id G.1
  have hL := G.2.2.2.2.2.2.2
  obtain ⟨x1, e1⟩ : ∃ z, z = xs (4 * n + 1) := ⟨_, rfl⟩
  have ok : fl_ok l E yh_92 hh_92 [aR 4 655365 0, aI x1] qo v n M (fun a => a.toInt64) (p_233 x1) (r_233 x1) (m_233 x1) := by
    by_cases h0 : z_iu M x1
    rotate_left
    · exact fl_okT (z_g_233 hQ h0) (by decide) (ht_92_0 hE G.2.2.2.2.2.2.1 (tx_92_0 hS hE hst h0))
    exact fl_okN (z_f_92 hQ h0) (fun hp => hn_92 (d := 1) (by omega) G.2.2.2.2.2.2.1 (sf_92 hS (d := 0) x1 M hp ⟨rfl, rfl⟩))
  obtain ⟨QQ, hM, hq⟩ := ok
  have hVV := hV
  refine lv_aload_n hx hb dl_373 rfl (lv_at hls 1 rfl) ?_
  refine fl_arg (k := 1) (n := n) G hVV.2.2 (by omega) (by decide +kernel) (lv_at hls 0 rfl) (lv_at hls 4 rfl) dl_374 dl_375 dl_377 dl_378 dl_379 ?_
  rw [← e1]
  refine lv_aload_n hx hb dl_380 rfl (lv_at hls 3 rfl) ?_
  refine fl_hlp (k := 3) (y := yh_92) (hh := hh_92) (av := [aR 4 655365 0, aI x1]) (rest := []) G hM (by decide +kernel) rfl flw_34 flw_35 flw_36 flw_37 (by decide +kernel) (by decide) (Nat.le_of_ble_eq_true rfl) hce hV hls.1 dl_381 (fun r v1 M1 H1 hq1 hV1 => ?_)
  obtain ⟨q1, q2, q3, q4⟩ := hq r v1 M1 hq1
  refine lv_istore (lv' := (5, .int r) :: fl_L E b qo n) hx hb dl_384 hls (by omega) rfl (fun ls1 hl1 => ?_)
  refine lv_aload_n hx hb dl_386 rfl (lv_at hl1 3 rfl) ?_
  have hVV := hV1
  refine fl_arg (k := 1) (n := n) G hVV.2.2 (by omega) (by decide +kernel) (lv_at hl1 1 rfl) (lv_at hl1 5 rfl) dl_387 dl_388 dl_390 dl_391 dl_392 ?_
  rw [← e1]
  refine fl_call (k := 1) (y2 := y_233) (q := (5, 819253, 0)) (ci := 6) (As := [aI x1]) (rest := []) (QE := ux_CI (fun a M' => a = r_233 x1 M1 ∧ M' = m_233 x1 M1)) G (by decide +kernel) flw_31 flw_32 flw_33 (by decide +kernel) (by decide) rfl (by decide) rfl rfl (fun v hv => by rw [List.mem_singleton.mp hv]; trivial) (Nat.le_of_ble_eq_true rfl) (sf_233 hS (d := 0) x1 M1 q1 ⟨rfl, rfl⟩) (by decide) hce hV1 hl1.1 dl_393 (fun r2 M2 H2 hq2 hV2 => ?_)
  obtain ⟨a, rfl, rfl, rfl⟩ := hq2
  exact fl_tail (n := n) (pc := 396) G hS hV2 q2 q4 hl1 hce dl_396 dl_398 dl_399 dl_402 dl_404 dl_409 dl_411 dl_414 dl_415 dl_416 dl_417 dl_419 dl_420 dl_421 dl_426 (by decide) (fun H3 ls3 hV3 hl3 => kk H3 ls3 _ _ hV3 q3 hl3)
set_option maxRecDepth 20000 in
theorem fl_k6 {p : Program} {l : Launch} {E : ux_E} {e : Env} {s : State} {m : MethodId} {args : Array Value} {below : List Frame} {meth : Method} {c : Code} {H : Heap} {cells slots : Nat} {Q : State → Prop} {M : ux_M} {b L qo n : Nat} {xs : Nat → Int32} {ls : Array Slot} {v : Int64} (G : fl_G E p s m args c b L xs qo) (hS : ux_SpecOK l E ux_chs) (hE : ux_THok E) (hst : l.stackTraces = false) (hV : fl_V E s qo v M H) (hQ : z_Q n M) (hn : n ≤ 600) (h4 : 4 * n + 4 ≤ L) (hls : lv_has ls 7 (fl_L E b qo n)) (hce : cells + 1 ≤ 601024 ∧ slots + 6 ≤ 7293034)
    (kk : ∀ (H1 : Heap) (ls1 : Array Slot) (M1 : ux_M) (v1 : Int64), fl_V E s qo v1 M1 H1 → z_Q (n + 1) M1 → lv_has ls1 7 (fl_L E b qo n) → W p l e room_1 s m args below meth c H1 [] (cells + 1) (slots + 6) Q (F0 m 3025 ls1 [])) : W p l e room_1 s m args below meth c H [] cells slots Q (F0 m 429 ls []) := by
  obtain ⟨hx, hb, hml, hown, hts⟩ := id G.1
  have hL := G.2.2.2.2.2.2.2
  obtain ⟨x1, e1⟩ : ∃ z, z = xs (4 * n + 1) := ⟨_, rfl⟩
  obtain ⟨x2, e2⟩ : ∃ z, z = xs (4 * n + 2) := ⟨_, rfl⟩
  have ok : fl_ok l E yh_94 hh_94 [aR 4 655365 0, aI x1, aI x2] qo v n M (fun a => a.toInt64) (p_236 x1 x2) (r_236 x1 x2) (m_236 x1 x2) := by
    by_cases h0 : z_iu M x1
    rotate_left
    · exact fl_okT (z_g_236 hQ h0) (by decide) (ht_94_0 hE G.2.2.2.2.2.2.1 (tx_94_0 hS hE hst h0))
    exact fl_okN (z_f_94 hQ h0) (fun hp => hn_94 (d := 1) (by omega) G.2.2.2.2.2.2.1 (sf_94 hS (d := 0) x1 x2 M hp ⟨rfl, rfl⟩))
  obtain ⟨QQ, hM, hq⟩ := ok
  have hVV := hV
  refine lv_aload_n hx hb dl_429 rfl (lv_at hls 1 rfl) ?_
  refine fl_arg (k := 1) (n := n) G hVV.2.2 (by omega) (by decide +kernel) (lv_at hls 0 rfl) (lv_at hls 4 rfl) dl_430 dl_431 dl_433 dl_434 dl_435 ?_
  refine fl_arg (k := 2) (n := n) G hVV.2.2 (by omega) (by decide +kernel) (lv_at hls 0 rfl) (lv_at hls 4 rfl) dl_436 dl_437 dl_439 dl_440 dl_441 ?_
  rw [← e1, ← e2]
  refine lv_aload_n hx hb dl_442 rfl (lv_at hls 3 rfl) ?_
  refine fl_hlp (k := 4) (y := yh_94) (hh := hh_94) (av := [aR 4 655365 0, aI x1, aI x2]) (rest := []) G hM (by decide +kernel) rfl flw_41 flw_42 flw_43 flw_37 (by decide +kernel) (by decide) (Nat.le_of_ble_eq_true rfl) hce hV hls.1 dl_443 (fun r v1 M1 H1 hq1 hV1 => ?_)
  obtain ⟨q1, q2, q3, q4⟩ := hq r v1 M1 hq1
  refine lv_istore (lv' := (5, .int r) :: fl_L E b qo n) hx hb dl_446 hls (by omega) rfl (fun ls1 hl1 => ?_)
  refine lv_aload_n hx hb dl_448 rfl (lv_at hl1 3 rfl) ?_
  have hVV := hV1
  refine fl_arg (k := 1) (n := n) G hVV.2.2 (by omega) (by decide +kernel) (lv_at hl1 1 rfl) (lv_at hl1 5 rfl) dl_449 dl_450 dl_452 dl_453 dl_454 ?_
  refine fl_arg (k := 2) (n := n) G hVV.2.2 (by omega) (by decide +kernel) (lv_at hl1 1 rfl) (lv_at hl1 5 rfl) dl_455 dl_456 dl_458 dl_459 dl_460 ?_
  rw [← e1, ← e2]
  refine fl_call (k := 2) (y2 := y_236) (q := (5, 819253, 0)) (ci := 6) (As := [aI x1, aI x2]) (rest := []) (QE := ux_CI (fun a M' => a = r_236 x1 x2 M1 ∧ M' = m_236 x1 x2 M1)) G (by decide +kernel) flw_38 flw_39 flw_40 (by decide +kernel) (by decide) rfl (by decide) rfl rfl (fun v hv => by
      simp only [List.mem_cons, List.not_mem_nil, or_false] at hv
      rcases hv with rfl | rfl <;> trivial) (Nat.le_of_ble_eq_true rfl) (sf_236 hS (d := 0) x1 x2 M1 q1 ⟨rfl, rfl⟩) (by decide) hce hV1 hl1.1 dl_461 (fun r2 M2 H2 hq2 hV2 => ?_)
  obtain ⟨a, rfl, rfl, rfl⟩ := hq2
  exact fl_tail (n := n) (pc := 464) G hS hV2 q2 q4 hl1 hce dl_464 dl_466 dl_467 dl_470 dl_472 dl_477 dl_479 dl_482 dl_483 dl_484 dl_485 dl_487 dl_488 dl_489 dl_494 (by decide) (fun H3 ls3 hV3 hl3 => kk H3 ls3 _ _ hV3 q3 hl3)
set_option maxRecDepth 20000 in
theorem fl_k7 {p : Program} {l : Launch} {E : ux_E} {e : Env} {s : State} {m : MethodId} {args : Array Value} {below : List Frame} {meth : Method} {c : Code} {H : Heap} {cells slots : Nat} {Q : State → Prop} {M : ux_M} {b L qo n : Nat} {xs : Nat → Int32} {ls : Array Slot} {v : Int64} (G : fl_G E p s m args c b L xs qo) (hS : ux_SpecOK l E ux_chs) (hE : ux_THok E) (hst : l.stackTraces = false) (hV : fl_V E s qo v M H) (hQ : z_Q n M) (hn : n ≤ 600) (h4 : 4 * n + 4 ≤ L) (hls : lv_has ls 7 (fl_L E b qo n)) (hce : cells + 1 ≤ 601024 ∧ slots + 6 ≤ 7293034)
    (kk : ∀ (H1 : Heap) (ls1 : Array Slot) (M1 : ux_M) (v1 : Int64), fl_V E s qo v1 M1 H1 → z_Q (n + 1) M1 → lv_has ls1 7 (fl_L E b qo n) → W p l e room_1 s m args below meth c H1 [] (cells + 1) (slots + 6) Q (F0 m 3025 ls1 [])) : W p l e room_1 s m args below meth c H [] cells slots Q (F0 m 497 ls []) := by
  obtain ⟨hx, hb, hml, hown, hts⟩ := id G.1
  have hL := G.2.2.2.2.2.2.2
  obtain ⟨x1, e1⟩ : ∃ z, z = xs (4 * n + 1) := ⟨_, rfl⟩
  obtain ⟨x2, e2⟩ : ∃ z, z = xs (4 * n + 2) := ⟨_, rfl⟩
  have ok : fl_ok l E yh_95 hh_95 [aR 4 655365 0, aI x1, aI x2] qo v n M (fun a => a.toInt64) (p_237 x1 x2) (r_237 x1 x2) (m_237 x1 x2) := by
    by_cases h0 : z_iu M x1
    rotate_left
    · exact fl_okT (z_g_237 hQ h0) (by decide) (ht_95_0 hE G.2.2.2.2.2.2.1 (tx_95_0 hS hE hst h0))
    by_cases h1 : z_rg x2 0 9
    rotate_left
    · exact fl_okT (z_g_237b hQ h0 h1) (by decide) (ht_95_1 hE G.2.2.2.2.2.2.1 (tx_95_1 hS hE hst h0 h1))
    exact fl_okN (z_f_95 hQ h0 h1) (fun hp => hn_95 (d := 1) (by omega) G.2.2.2.2.2.2.1 (sf_95 hS (d := 0) x1 x2 M hp ⟨rfl, rfl⟩))
  obtain ⟨QQ, hM, hq⟩ := ok
  have hVV := hV
  refine lv_aload_n hx hb dl_497 rfl (lv_at hls 1 rfl) ?_
  refine fl_arg (k := 1) (n := n) G hVV.2.2 (by omega) (by decide +kernel) (lv_at hls 0 rfl) (lv_at hls 4 rfl) dl_498 dl_499 dl_501 dl_502 dl_503 ?_
  refine fl_arg (k := 2) (n := n) G hVV.2.2 (by omega) (by decide +kernel) (lv_at hls 0 rfl) (lv_at hls 4 rfl) dl_504 dl_505 dl_507 dl_508 dl_509 ?_
  rw [← e1, ← e2]
  refine lv_aload_n hx hb dl_510 rfl (lv_at hls 3 rfl) ?_
  refine fl_hlp (k := 4) (y := yh_95) (hh := hh_95) (av := [aR 4 655365 0, aI x1, aI x2]) (rest := []) G hM (by decide +kernel) rfl flw_47 flw_48 flw_49 flw_37 (by decide +kernel) (by decide) (Nat.le_of_ble_eq_true rfl) hce hV hls.1 dl_511 (fun r v1 M1 H1 hq1 hV1 => ?_)
  obtain ⟨q1, q2, q3, q4⟩ := hq r v1 M1 hq1
  refine lv_istore (lv' := (5, .int r) :: fl_L E b qo n) hx hb dl_514 hls (by omega) rfl (fun ls1 hl1 => ?_)
  refine lv_aload_n hx hb dl_516 rfl (lv_at hl1 3 rfl) ?_
  have hVV := hV1
  refine fl_arg (k := 1) (n := n) G hVV.2.2 (by omega) (by decide +kernel) (lv_at hl1 1 rfl) (lv_at hl1 5 rfl) dl_517 dl_518 dl_520 dl_521 dl_522 ?_
  refine fl_arg (k := 2) (n := n) G hVV.2.2 (by omega) (by decide +kernel) (lv_at hl1 1 rfl) (lv_at hl1 5 rfl) dl_523 dl_524 dl_526 dl_527 dl_528 ?_
  rw [← e1, ← e2]
  refine fl_call (k := 2) (y2 := y_237) (q := (5, 819253, 0)) (ci := 6) (As := [aI x1, aI x2]) (rest := []) (QE := ux_CI (fun a M' => a = r_237 x1 x2 M1 ∧ M' = m_237 x1 x2 M1)) G (by decide +kernel) flw_44 flw_45 flw_46 (by decide +kernel) (by decide) rfl (by decide) rfl rfl (fun v hv => by
      simp only [List.mem_cons, List.not_mem_nil, or_false] at hv
      rcases hv with rfl | rfl <;> trivial) (Nat.le_of_ble_eq_true rfl) (sf_237 hS (d := 0) x1 x2 M1 q1 ⟨rfl, rfl⟩) (by decide) hce hV1 hl1.1 dl_529 (fun r2 M2 H2 hq2 hV2 => ?_)
  obtain ⟨a, rfl, rfl, rfl⟩ := hq2
  exact fl_tail (n := n) (pc := 532) G hS hV2 q2 q4 hl1 hce dl_532 dl_534 dl_535 dl_538 dl_540 dl_545 dl_547 dl_550 dl_551 dl_552 dl_553 dl_555 dl_556 dl_557 dl_562 (by decide) (fun H3 ls3 hV3 hl3 => kk H3 ls3 _ _ hV3 q3 hl3)
set_option maxRecDepth 20000 in
theorem fl_k8 {p : Program} {l : Launch} {E : ux_E} {e : Env} {s : State} {m : MethodId} {args : Array Value} {below : List Frame} {meth : Method} {c : Code} {H : Heap} {cells slots : Nat} {Q : State → Prop} {M : ux_M} {b L qo n : Nat} {xs : Nat → Int32} {ls : Array Slot} {v : Int64} (G : fl_G E p s m args c b L xs qo) (hS : ux_SpecOK l E ux_chs) (hE : ux_THok E) (hst : l.stackTraces = false) (hV : fl_V E s qo v M H) (hQ : z_Q n M) (hn : n ≤ 600) (h4 : 4 * n + 4 ≤ L) (hls : lv_has ls 7 (fl_L E b qo n)) (hce : cells + 1 ≤ 601024 ∧ slots + 6 ≤ 7293034)
    (kk : ∀ (H1 : Heap) (ls1 : Array Slot) (M1 : ux_M) (v1 : Int64), fl_V E s qo v1 M1 H1 → z_Q (n + 1) M1 → lv_has ls1 7 (fl_L E b qo n) → W p l e room_1 s m args below meth c H1 [] (cells + 1) (slots + 6) Q (F0 m 3025 ls1 [])) : W p l e room_1 s m args below meth c H [] cells slots Q (F0 m 565 ls []) := by
  obtain ⟨hx, hb, hml, hown, hts⟩ := id G.1
  have hL := G.2.2.2.2.2.2.2
  obtain ⟨x1, e1⟩ : ∃ z, z = xs (4 * n + 1) := ⟨_, rfl⟩
  obtain ⟨x2, e2⟩ : ∃ z, z = xs (4 * n + 2) := ⟨_, rfl⟩
  have ok : fl_ok l E yh_97 hh_97 [aR 4 655365 0, aI x1, aI x2] qo v n M (fun a => a.toInt64) (p_239 x1 x2) (r_239 x1 x2) (m_239 x1 x2) := by
    by_cases h0 : z_iu M x1
    rotate_left
    · exact fl_okT (z_g_239 hQ h0) (by decide) (ht_97_0 hE G.2.2.2.2.2.2.1 (tx_97_0 hS hE hst h0))
    by_cases h1 : z_rg x2 0 5
    rotate_left
    · exact fl_okT (z_g_239b hQ h0 h1) (by decide) (ht_97_1 hE G.2.2.2.2.2.2.1 (tx_97_1 hS hE hst h0 h1))
    exact fl_okN (z_f_97 hQ h0 h1) (fun hp => hn_97 (d := 1) (by omega) G.2.2.2.2.2.2.1 (sf_97 hS (d := 0) x1 x2 M hp ⟨rfl, rfl⟩))
  obtain ⟨QQ, hM, hq⟩ := ok
  have hVV := hV
  refine lv_aload_n hx hb dl_565 rfl (lv_at hls 1 rfl) ?_
  refine fl_arg (k := 1) (n := n) G hVV.2.2 (by omega) (by decide +kernel) (lv_at hls 0 rfl) (lv_at hls 4 rfl) dl_566 dl_567 dl_569 dl_570 dl_571 ?_
  refine fl_arg (k := 2) (n := n) G hVV.2.2 (by omega) (by decide +kernel) (lv_at hls 0 rfl) (lv_at hls 4 rfl) dl_572 dl_573 dl_575 dl_576 dl_577 ?_
  rw [← e1, ← e2]
  refine lv_aload_n hx hb dl_578 rfl (lv_at hls 3 rfl) ?_
  refine fl_hlp (k := 4) (y := yh_97) (hh := hh_97) (av := [aR 4 655365 0, aI x1, aI x2]) (rest := []) G hM (by decide +kernel) rfl flw_53 flw_54 flw_55 flw_37 (by decide +kernel) (by decide) (Nat.le_of_ble_eq_true rfl) hce hV hls.1 dl_579 (fun r v1 M1 H1 hq1 hV1 => ?_)
  obtain ⟨q1, q2, q3, q4⟩ := hq r v1 M1 hq1
  refine lv_istore (lv' := (5, .int r) :: fl_L E b qo n) hx hb dl_582 hls (by omega) rfl (fun ls1 hl1 => ?_)
  refine lv_aload_n hx hb dl_584 rfl (lv_at hl1 3 rfl) ?_
  have hVV := hV1
  refine fl_arg (k := 1) (n := n) G hVV.2.2 (by omega) (by decide +kernel) (lv_at hl1 1 rfl) (lv_at hl1 5 rfl) dl_585 dl_586 dl_588 dl_589 dl_590 ?_
  refine fl_arg (k := 2) (n := n) G hVV.2.2 (by omega) (by decide +kernel) (lv_at hl1 1 rfl) (lv_at hl1 5 rfl) dl_591 dl_592 dl_594 dl_595 dl_596 ?_
  rw [← e1, ← e2]
  refine fl_call (k := 2) (y2 := y_239) (q := (5, 819253, 0)) (ci := 6) (As := [aI x1, aI x2]) (rest := []) (QE := ux_CI (fun a M' => a = r_239 x1 x2 M1 ∧ M' = m_239 x1 x2 M1)) G (by decide +kernel) flw_50 flw_51 flw_52 (by decide +kernel) (by decide) rfl (by decide) rfl rfl (fun v hv => by
      simp only [List.mem_cons, List.not_mem_nil, or_false] at hv
      rcases hv with rfl | rfl <;> trivial) (Nat.le_of_ble_eq_true rfl) (sf_239 hS (d := 0) x1 x2 M1 q1 ⟨rfl, rfl⟩) (by decide) hce hV1 hl1.1 dl_597 (fun r2 M2 H2 hq2 hV2 => ?_)
  obtain ⟨a, rfl, rfl, rfl⟩ := hq2
  exact fl_tail (n := n) (pc := 600) G hS hV2 q2 q4 hl1 hce dl_600 dl_602 dl_603 dl_606 dl_608 dl_613 dl_615 dl_618 dl_619 dl_620 dl_621 dl_623 dl_624 dl_625 dl_630 (by decide) (fun H3 ls3 hV3 hl3 => kk H3 ls3 _ _ hV3 q3 hl3)
set_option maxRecDepth 20000 in
theorem fl_k9 {p : Program} {l : Launch} {E : ux_E} {e : Env} {s : State} {m : MethodId} {args : Array Value} {below : List Frame} {meth : Method} {c : Code} {H : Heap} {cells slots : Nat} {Q : State → Prop} {M : ux_M} {b L qo n : Nat} {xs : Nat → Int32} {ls : Array Slot} {v : Int64} (G : fl_G E p s m args c b L xs qo) (hS : ux_SpecOK l E ux_chs) (hE : ux_THok E) (hst : l.stackTraces = false) (hV : fl_V E s qo v M H) (hQ : z_Q n M) (hn : n ≤ 600) (h4 : 4 * n + 4 ≤ L) (hls : lv_has ls 7 (fl_L E b qo n)) (hce : cells + 1 ≤ 601024 ∧ slots + 6 ≤ 7293034)
    (kk : ∀ (H1 : Heap) (ls1 : Array Slot) (M1 : ux_M) (v1 : Int64), fl_V E s qo v1 M1 H1 → z_Q (n + 1) M1 → lv_has ls1 7 (fl_L E b qo n) → W p l e room_1 s m args below meth c H1 [] (cells + 1) (slots + 6) Q (F0 m 3025 ls1 [])) : W p l e room_1 s m args below meth c H [] cells slots Q (F0 m 633 ls []) := by
  obtain ⟨hx, hb, hml, hown, hts⟩ := id G.1
  have hL := G.2.2.2.2.2.2.2
  obtain ⟨x1, e1⟩ : ∃ z, z = xs (4 * n + 1) := ⟨_, rfl⟩
  have ok : fl_ok l E yh_98 hh_98 [aR 4 655365 0, aI x1] qo v n M (fun a => a.toInt64) (p_240 x1) (r_240 x1) (m_240 x1) := by
    by_cases h0 : z_iu M x1
    rotate_left
    · exact fl_okT (z_g_240 hQ h0) (by decide) (ht_98_0 hE G.2.2.2.2.2.2.1 (tx_98_0 hS hE hst h0))
    exact fl_okN (z_f_98 hQ h0) (fun hp => hn_98 (d := 1) (by omega) G.2.2.2.2.2.2.1 (sf_98 hS (d := 0) x1 M hp ⟨rfl, rfl⟩))
  obtain ⟨QQ, hM, hq⟩ := ok
  have hVV := hV
  refine lv_aload_n hx hb dl_633 rfl (lv_at hls 1 rfl) ?_
  refine fl_arg (k := 1) (n := n) G hVV.2.2 (by omega) (by decide +kernel) (lv_at hls 0 rfl) (lv_at hls 4 rfl) dl_634 dl_635 dl_637 dl_638 dl_639 ?_
  rw [← e1]
  refine lv_aload_n hx hb dl_640 rfl (lv_at hls 3 rfl) ?_
  refine fl_hlp (k := 3) (y := yh_98) (hh := hh_98) (av := [aR 4 655365 0, aI x1]) (rest := []) G hM (by decide +kernel) rfl flw_59 flw_60 flw_61 flw_37 (by decide +kernel) (by decide) (Nat.le_of_ble_eq_true rfl) hce hV hls.1 dl_641 (fun r v1 M1 H1 hq1 hV1 => ?_)
  obtain ⟨q1, q2, q3, q4⟩ := hq r v1 M1 hq1
  refine lv_istore (lv' := (5, .int r) :: fl_L E b qo n) hx hb dl_644 hls (by omega) rfl (fun ls1 hl1 => ?_)
  refine lv_aload_n hx hb dl_646 rfl (lv_at hl1 3 rfl) ?_
  have hVV := hV1
  refine fl_arg (k := 1) (n := n) G hVV.2.2 (by omega) (by decide +kernel) (lv_at hl1 1 rfl) (lv_at hl1 5 rfl) dl_647 dl_648 dl_650 dl_651 dl_652 ?_
  rw [← e1]
  refine fl_call (k := 1) (y2 := y_240) (q := (5, 819253, 0)) (ci := 6) (As := [aI x1]) (rest := []) (QE := ux_CI (fun a M' => a = r_240 x1 M1 ∧ M' = m_240 x1 M1)) G (by decide +kernel) flw_56 flw_57 flw_58 (by decide +kernel) (by decide) rfl (by decide) rfl rfl (fun v hv => by rw [List.mem_singleton.mp hv]; trivial) (Nat.le_of_ble_eq_true rfl) (sf_240 hS (d := 0) x1 M1 q1 ⟨rfl, rfl⟩) (by decide) hce hV1 hl1.1 dl_653 (fun r2 M2 H2 hq2 hV2 => ?_)
  obtain ⟨a, rfl, rfl, rfl⟩ := hq2
  exact fl_tail (n := n) (pc := 656) G hS hV2 q2 q4 hl1 hce dl_656 dl_658 dl_659 dl_662 dl_664 dl_669 dl_671 dl_674 dl_675 dl_676 dl_677 dl_679 dl_680 dl_681 dl_686 (by decide) (fun H3 ls3 hV3 hl3 => kk H3 ls3 _ _ hV3 q3 hl3)
