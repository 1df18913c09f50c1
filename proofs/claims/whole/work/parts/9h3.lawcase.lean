/-! THE LAW, 3.3: its cases (by wip/whole/gen9f.py) -/
set_option maxRecDepth 20000 in
theorem fl_k31 {p : Program} {l : Launch} {E : ux_E} {e : Env} {s : State} {m : MethodId} {args : Array Value} {below : List Frame} {meth : Method} {c : Code} {H : Heap} {cells slots : Nat} {Q : State → Prop} {M : ux_M} {b L qo n : Nat} {xs : Nat → Int32} {ls : Array Slot} {v : Int64} (G : fl_G E p s m args c b L xs qo) (hS : ux_SpecOK l E ux_chs) (hE : ux_THok E) (hst : l.stackTraces = false) (hV : fl_V E s qo v M H) (hQ : z_Q n M) (hn : n ≤ 600) (h4 : 4 * n + 4 ≤ L) (hls : lv_has ls 7 (fl_L E b qo n)) (hce : cells + 1 ≤ 601024 ∧ slots + 6 ≤ 7293034)
    (kk : ∀ (H1 : Heap) (ls1 : Array Slot) (M1 : ux_M) (v1 : Int64), fl_V E s qo v1 M1 H1 → z_Q (n + 1) M1 → lv_has ls1 7 (fl_L E b qo n) → W p l e room_1 s m args below meth c H1 [] (cells + 1) (slots + 6) Q (F0 m 3025 ls1 [])) : W p l e room_1 s m args below meth c H [] cells slots Q (F0 m 1972 ls []) := by
  obtain ⟨hx, hb, hml, hown, hts⟩ := id G.1
  have hL := G.2.2.2.2.2.2.2
  obtain ⟨x1, e1⟩ : ∃ z, z = xs (4 * n + 1) := ⟨_, rfl⟩
  have ok : fl_ok l E yh_126 hh_126 [aR 4 655365 0, aI x1] qo v n M (fun a => a.toInt64) (p_244 x1) (r_244 x1) (m_244 x1) := by
    by_cases h0 : z_iu M x1
    rotate_left
    · exact fl_okT (z_g_244 hQ h0) (by decide) (ht_126_0 hE G.2.2.2.2.2.2.1 (tx_126_0 hS hE hst h0))
    exact fl_okN (z_f_126 hQ h0) (fun hp => hn_126 (d := 1) (by omega) G.2.2.2.2.2.2.1 (sf_126 hS (d := 0) x1 M hp ⟨rfl, rfl⟩))
  obtain ⟨QQ, hM, hq⟩ := ok
  have hVV := hV
  refine lv_aload_n hx hb dl_1972 rfl (lv_at hls 1 rfl) ?_
  refine fl_arg (k := 1) (n := n) G hVV.2.2 (by omega) (by decide +kernel) (lv_at hls 0 rfl) (lv_at hls 4 rfl) dl_1973 dl_1974 dl_1976 dl_1977 dl_1978 ?_
  rw [← e1]
  refine lv_aload_n hx hb dl_1979 rfl (lv_at hls 3 rfl) ?_
  refine fl_hlp (k := 3) (y := yh_126) (hh := hh_126) (av := [aR 4 655365 0, aI x1]) (rest := []) G hM (by decide +kernel) rfl flw_191 flw_192 flw_193 flw_37 (by decide +kernel) (by decide) (Nat.le_of_ble_eq_true rfl) hce hV hls.1 dl_1980 (fun r v1 M1 H1 hq1 hV1 => ?_)
  obtain ⟨q1, q2, q3, q4⟩ := hq r v1 M1 hq1
  refine lv_istore (lv' := (5, .int r) :: fl_L E b qo n) hx hb dl_1983 hls (by omega) rfl (fun ls1 hl1 => ?_)
  refine lv_aload_n hx hb dl_1985 rfl (lv_at hl1 3 rfl) ?_
  have hVV := hV1
  refine fl_arg (k := 1) (n := n) G hVV.2.2 (by omega) (by decide +kernel) (lv_at hl1 1 rfl) (lv_at hl1 5 rfl) dl_1986 dl_1987 dl_1989 dl_1990 dl_1991 ?_
  rw [← e1]
  refine fl_call (k := 1) (y2 := y_244) (q := (5, 819253, 0)) (ci := 6) (As := [aI x1]) (rest := []) (QE := ux_CI (fun a M' => a = r_244 x1 M1 ∧ M' = m_244 x1 M1)) G (by decide +kernel) flw_188 flw_189 flw_190 (by decide +kernel) (by decide) rfl (by decide) rfl rfl (fun v hv => by rw [List.mem_singleton.mp hv]; trivial) (Nat.le_of_ble_eq_true rfl) (sf_244 hS (d := 0) x1 M1 q1 ⟨rfl, rfl⟩) (by decide) hce hV1 hl1.1 dl_1992 (fun r2 M2 H2 hq2 hV2 => ?_)
  obtain ⟨a, rfl, rfl, rfl⟩ := hq2
  exact fl_tail (n := n) (pc := 1995) G hS hV2 q2 q4 hl1 hce dl_1995 dl_1997 dl_1998 dl_2001 dl_2003 dl_2008 dl_2010 dl_2013 dl_2014 dl_2015 dl_2016 dl_2018 dl_2019 dl_2020 dl_2025 (by decide) (fun H3 ls3 hV3 hl3 => kk H3 ls3 _ _ hV3 q3 hl3)
set_option maxRecDepth 20000 in
theorem fl_k32 {p : Program} {l : Launch} {E : ux_E} {e : Env} {s : State} {m : MethodId} {args : Array Value} {below : List Frame} {meth : Method} {c : Code} {H : Heap} {cells slots : Nat} {Q : State → Prop} {M : ux_M} {b L qo n : Nat} {xs : Nat → Int32} {ls : Array Slot} {v : Int64} (G : fl_G E p s m args c b L xs qo) (hS : ux_SpecOK l E ux_chs) (hE : ux_THok E) (hst : l.stackTraces = false) (hV : fl_V E s qo v M H) (hQ : z_Q n M) (hn : n ≤ 600) (h4 : 4 * n + 4 ≤ L) (hls : lv_has ls 7 (fl_L E b qo n)) (hce : cells + 1 ≤ 601024 ∧ slots + 6 ≤ 7293034)
    (kk : ∀ (H1 : Heap) (ls1 : Array Slot) (M1 : ux_M) (v1 : Int64), fl_V E s qo v1 M1 H1 → z_Q (n + 1) M1 → lv_has ls1 7 (fl_L E b qo n) → W p l e room_1 s m args below meth c H1 [] (cells + 1) (slots + 6) Q (F0 m 3025 ls1 [])) : W p l e room_1 s m args below meth c H [] cells slots Q (F0 m 2028 ls []) := by
  obtain ⟨hx, hb, hml, hown, hts⟩ := id G.1
  have hL := G.2.2.2.2.2.2.2
  obtain ⟨x1, e1⟩ : ∃ z, z = xs (4 * n + 1) := ⟨_, rfl⟩
  have ok : fl_ok l E yh_127 hh_127 [aR 4 655365 0, aI x1] qo v n M (fun a => a.toInt64) (p_245 x1) (r_245 x1) (m_245 x1) := by
    by_cases h0 : z_iu M x1
    rotate_left
    · exact fl_okT (z_g_245 hQ h0) (by decide) (ht_127_0 hE G.2.2.2.2.2.2.1 (tx_127_0 hS hE hst h0))
    exact fl_okN (z_f_127 hQ h0) (fun hp => hn_127 (d := 1) (by omega) G.2.2.2.2.2.2.1 (sf_127 hS (d := 0) x1 M hp ⟨rfl, rfl⟩))
  obtain ⟨QQ, hM, hq⟩ := ok
  have hVV := hV
  refine lv_aload_n hx hb dl_2028 rfl (lv_at hls 1 rfl) ?_
  refine fl_arg (k := 1) (n := n) G hVV.2.2 (by omega) (by decide +kernel) (lv_at hls 0 rfl) (lv_at hls 4 rfl) dl_2029 dl_2030 dl_2032 dl_2033 dl_2034 ?_
  rw [← e1]
  refine lv_aload_n hx hb dl_2035 rfl (lv_at hls 3 rfl) ?_
  refine fl_hlp (k := 3) (y := yh_127) (hh := hh_127) (av := [aR 4 655365 0, aI x1]) (rest := []) G hM (by decide +kernel) rfl flw_197 flw_198 flw_199 flw_37 (by decide +kernel) (by decide) (Nat.le_of_ble_eq_true rfl) hce hV hls.1 dl_2036 (fun r v1 M1 H1 hq1 hV1 => ?_)
  obtain ⟨q1, q2, q3, q4⟩ := hq r v1 M1 hq1
  refine lv_istore (lv' := (5, .int r) :: fl_L E b qo n) hx hb dl_2039 hls (by omega) rfl (fun ls1 hl1 => ?_)
  refine lv_aload_n hx hb dl_2041 rfl (lv_at hl1 3 rfl) ?_
  have hVV := hV1
  refine fl_arg (k := 1) (n := n) G hVV.2.2 (by omega) (by decide +kernel) (lv_at hl1 1 rfl) (lv_at hl1 5 rfl) dl_2042 dl_2043 dl_2045 dl_2046 dl_2047 ?_
  rw [← e1]
  refine fl_call (k := 1) (y2 := y_245) (q := (5, 819253, 0)) (ci := 6) (As := [aI x1]) (rest := []) (QE := ux_CI (fun a M' => a = r_245 x1 M1 ∧ M' = m_245 x1 M1)) G (by decide +kernel) flw_194 flw_195 flw_196 (by decide +kernel) (by decide) rfl (by decide) rfl rfl (fun v hv => by rw [List.mem_singleton.mp hv]; trivial) (Nat.le_of_ble_eq_true rfl) (sf_245 hS (d := 0) x1 M1 q1 ⟨rfl, rfl⟩) (by decide) hce hV1 hl1.1 dl_2048 (fun r2 M2 H2 hq2 hV2 => ?_)
  obtain ⟨a, rfl, rfl, rfl⟩ := hq2
  exact fl_tail (n := n) (pc := 2051) G hS hV2 q2 q4 hl1 hce dl_2051 dl_2053 dl_2054 dl_2057 dl_2059 dl_2064 dl_2066 dl_2069 dl_2070 dl_2071 dl_2072 dl_2074 dl_2075 dl_2076 dl_2081 (by decide) (fun H3 ls3 hV3 hl3 => kk H3 ls3 _ _ hV3 q3 hl3)
set_option maxRecDepth 20000 in
theorem fl_k33 {p : Program} {l : Launch} {E : ux_E} {e : Env} {s : State} {m : MethodId} {args : Array Value} {below : List Frame} {meth : Method} {c : Code} {H : Heap} {cells slots : Nat} {Q : State → Prop} {M : ux_M} {b L qo n : Nat} {xs : Nat → Int32} {ls : Array Slot} {v : Int64} (G : fl_G E p s m args c b L xs qo) (hS : ux_SpecOK l E ux_chs) (hE : ux_THok E) (hst : l.stackTraces = false) (hV : fl_V E s qo v M H) (hQ : z_Q n M) (hn : n ≤ 600) (h4 : 4 * n + 4 ≤ L) (hls : lv_has ls 7 (fl_L E b qo n)) (hce : cells + 1 ≤ 601024 ∧ slots + 6 ≤ 7293034)
    (kk : ∀ (H1 : Heap) (ls1 : Array Slot) (M1 : ux_M) (v1 : Int64), fl_V E s qo v1 M1 H1 → z_Q (n + 1) M1 → lv_has ls1 7 (fl_L E b qo n) → W p l e room_1 s m args below meth c H1 [] (cells + 1) (slots + 6) Q (F0 m 3025 ls1 [])) : W p l e room_1 s m args below meth c H [] cells slots Q (F0 m 2084 ls []) := by
  obtain ⟨hx, hb, hml, hown, hts⟩ := id G.1
  have hL := G.2.2.2.2.2.2.2
  obtain ⟨x1, e1⟩ : ∃ z, z = xs (4 * n + 1) := ⟨_, rfl⟩
  have ok : fl_ok l E yh_128 hh_128 [aR 4 655365 0, aI x1] qo v n M (fun a => a.toInt64) (p_246 x1) (r_246 x1) (m_246 x1) := by
    by_cases h0 : z_iu M x1
    rotate_left
    · exact fl_okT (z_g_246 hQ h0) (by decide) (ht_128_0 hE G.2.2.2.2.2.2.1 (tx_128_0 hS hE hst h0))
    exact fl_okN (z_f_128 hQ h0) (fun hp => hn_128 (d := 1) (by omega) G.2.2.2.2.2.2.1 (sf_128 hS (d := 0) x1 M hp ⟨rfl, rfl⟩))
  obtain ⟨QQ, hM, hq⟩ := ok
  have hVV := hV
  refine lv_aload_n hx hb dl_2084 rfl (lv_at hls 1 rfl) ?_
  refine fl_arg (k := 1) (n := n) G hVV.2.2 (by omega) (by decide +kernel) (lv_at hls 0 rfl) (lv_at hls 4 rfl) dl_2085 dl_2086 dl_2088 dl_2089 dl_2090 ?_
  rw [← e1]
  refine lv_aload_n hx hb dl_2091 rfl (lv_at hls 3 rfl) ?_
  refine fl_hlp (k := 3) (y := yh_128) (hh := hh_128) (av := [aR 4 655365 0, aI x1]) (rest := []) G hM (by decide +kernel) rfl flw_203 flw_204 flw_205 flw_37 (by decide +kernel) (by decide) (Nat.le_of_ble_eq_true rfl) hce hV hls.1 dl_2092 (fun r v1 M1 H1 hq1 hV1 => ?_)
  obtain ⟨q1, q2, q3, q4⟩ := hq r v1 M1 hq1
  refine lv_istore (lv' := (5, .int r) :: fl_L E b qo n) hx hb dl_2095 hls (by omega) rfl (fun ls1 hl1 => ?_)
  refine lv_aload_n hx hb dl_2097 rfl (lv_at hl1 3 rfl) ?_
  have hVV := hV1
  refine fl_arg (k := 1) (n := n) G hVV.2.2 (by omega) (by decide +kernel) (lv_at hl1 1 rfl) (lv_at hl1 5 rfl) dl_2098 dl_2099 dl_2101 dl_2102 dl_2103 ?_
  rw [← e1]
  refine fl_call (k := 1) (y2 := y_246) (q := (5, 819253, 0)) (ci := 6) (As := [aI x1]) (rest := []) (QE := ux_CI (fun a M' => a = r_246 x1 M1 ∧ M' = m_246 x1 M1)) G (by decide +kernel) flw_200 flw_201 flw_202 (by decide +kernel) (by decide) rfl (by decide) rfl rfl (fun v hv => by rw [List.mem_singleton.mp hv]; trivial) (Nat.le_of_ble_eq_true rfl) (sf_246 hS (d := 0) x1 M1 q1 ⟨rfl, rfl⟩) (by decide) hce hV1 hl1.1 dl_2104 (fun r2 M2 H2 hq2 hV2 => ?_)
  obtain ⟨a, rfl, rfl, rfl⟩ := hq2
  exact fl_tail (n := n) (pc := 2107) G hS hV2 q2 q4 hl1 hce dl_2107 dl_2109 dl_2110 dl_2113 dl_2115 dl_2120 dl_2122 dl_2125 dl_2126 dl_2127 dl_2128 dl_2130 dl_2131 dl_2132 dl_2137 (by decide) (fun H3 ls3 hV3 hl3 => kk H3 ls3 _ _ hV3 q3 hl3)
set_option maxRecDepth 20000 in
theorem fl_k34 {p : Program} {l : Launch} {E : ux_E} {e : Env} {s : State} {m : MethodId} {args : Array Value} {below : List Frame} {meth : Method} {c : Code} {H : Heap} {cells slots : Nat} {Q : State → Prop} {M : ux_M} {b L qo n : Nat} {xs : Nat → Int32} {ls : Array Slot} {v : Int64} (G : fl_G E p s m args c b L xs qo) (hS : ux_SpecOK l E ux_chs) (hE : ux_THok E) (hst : l.stackTraces = false) (hV : fl_V E s qo v M H) (hQ : z_Q n M) (hn : n ≤ 600) (h4 : 4 * n + 4 ≤ L) (hls : lv_has ls 7 (fl_L E b qo n)) (hce : cells + 1 ≤ 601024 ∧ slots + 6 ≤ 7293034)
    (kk : ∀ (H1 : Heap) (ls1 : Array Slot) (M1 : ux_M) (v1 : Int64), fl_V E s qo v1 M1 H1 → z_Q (n + 1) M1 → lv_has ls1 7 (fl_L E b qo n) → W p l e room_1 s m args below meth c H1 [] (cells + 1) (slots + 6) Q (F0 m 3025 ls1 [])) : W p l e room_1 s m args below meth c H [] cells slots Q (F0 m 2140 ls []) := by
  obtain ⟨hx, hb, hml, hown, hts⟩ := id G.1
  have hL := G.2.2.2.2.2.2.2
  obtain ⟨x1, e1⟩ : ∃ z, z = xs (4 * n + 1) := ⟨_, rfl⟩
  have ok : fl_ok l E yh_129 hh_129 [aR 4 655365 0, aI x1] qo v n M (fun a => a.toInt64) (p_247 x1) (r_247 x1) (m_247 x1) := by
    by_cases h0 : z_iu M x1
    rotate_left
    · exact fl_okT (z_g_247 hQ h0) (by decide) (ht_129_0 hE G.2.2.2.2.2.2.1 (tx_129_0 hS hE hst h0))
    exact fl_okN (z_f_129 hQ h0) (fun hp => hn_129 (d := 1) (by omega) G.2.2.2.2.2.2.1 (sf_129 hS (d := 0) x1 M hp ⟨rfl, rfl⟩))
  obtain ⟨QQ, hM, hq⟩ := ok
  have hVV := hV
  refine lv_aload_n hx hb dl_2140 rfl (lv_at hls 1 rfl) ?_
  refine fl_arg (k := 1) (n := n) G hVV.2.2 (by omega) (by decide +kernel) (lv_at hls 0 rfl) (lv_at hls 4 rfl) dl_2141 dl_2142 dl_2144 dl_2145 dl_2146 ?_
  rw [← e1]
  refine lv_aload_n hx hb dl_2147 rfl (lv_at hls 3 rfl) ?_
  refine fl_hlp (k := 3) (y := yh_129) (hh := hh_129) (av := [aR 4 655365 0, aI x1]) (rest := []) G hM (by decide +kernel) rfl flw_209 flw_210 flw_211 flw_37 (by decide +kernel) (by decide) (Nat.le_of_ble_eq_true rfl) hce hV hls.1 dl_2148 (fun r v1 M1 H1 hq1 hV1 => ?_)
  obtain ⟨q1, q2, q3, q4⟩ := hq r v1 M1 hq1
  refine lv_istore (lv' := (5, .int r) :: fl_L E b qo n) hx hb dl_2151 hls (by omega) rfl (fun ls1 hl1 => ?_)
  refine lv_aload_n hx hb dl_2153 rfl (lv_at hl1 3 rfl) ?_
  have hVV := hV1
  refine fl_arg (k := 1) (n := n) G hVV.2.2 (by omega) (by decide +kernel) (lv_at hl1 1 rfl) (lv_at hl1 5 rfl) dl_2154 dl_2155 dl_2157 dl_2158 dl_2159 ?_
  rw [← e1]
  refine fl_call (k := 1) (y2 := y_247) (q := (5, 819253, 0)) (ci := 6) (As := [aI x1]) (rest := []) (QE := ux_CI (fun a M' => a = r_247 x1 M1 ∧ M' = m_247 x1 M1)) G (by decide +kernel) flw_206 flw_207 flw_208 (by decide +kernel) (by decide) rfl (by decide) rfl rfl (fun v hv => by rw [List.mem_singleton.mp hv]; trivial) (Nat.le_of_ble_eq_true rfl) (sf_247 hS (d := 0) x1 M1 q1 ⟨rfl, rfl⟩) (by decide) hce hV1 hl1.1 dl_2160 (fun r2 M2 H2 hq2 hV2 => ?_)
  obtain ⟨a, rfl, rfl, rfl⟩ := hq2
  exact fl_tail (n := n) (pc := 2163) G hS hV2 q2 q4 hl1 hce dl_2163 dl_2165 dl_2166 dl_2169 dl_2171 dl_2176 dl_2178 dl_2181 dl_2182 dl_2183 dl_2184 dl_2186 dl_2187 dl_2188 dl_2193 (by decide) (fun H3 ls3 hV3 hl3 => kk H3 ls3 _ _ hV3 q3 hl3)
set_option maxRecDepth 20000 in
theorem fl_k35 {p : Program} {l : Launch} {E : ux_E} {e : Env} {s : State} {m : MethodId} {args : Array Value} {below : List Frame} {meth : Method} {c : Code} {H : Heap} {cells slots : Nat} {Q : State → Prop} {M : ux_M} {b L qo n : Nat} {xs : Nat → Int32} {ls : Array Slot} {v : Int64} (G : fl_G E p s m args c b L xs qo) (hS : ux_SpecOK l E ux_chs) (hE : ux_THok E) (hst : l.stackTraces = false) (hV : fl_V E s qo v M H) (hQ : z_Q n M) (hn : n ≤ 600) (h4 : 4 * n + 4 ≤ L) (hls : lv_has ls 7 (fl_L E b qo n)) (hce : cells + 1 ≤ 601024 ∧ slots + 6 ≤ 7293034)
    (kk : ∀ (H1 : Heap) (ls1 : Array Slot) (M1 : ux_M) (v1 : Int64), fl_V E s qo v1 M1 H1 → z_Q (n + 1) M1 → lv_has ls1 7 (fl_L E b qo n) → W p l e room_1 s m args below meth c H1 [] (cells + 1) (slots + 6) Q (F0 m 3025 ls1 [])) : W p l e room_1 s m args below meth c H [] cells slots Q (F0 m 2196 ls []) := by
  obtain ⟨hx, hb, hml, hown, hts⟩ := id G.1
  have hL := G.2.2.2.2.2.2.2
  obtain ⟨x1, e1⟩ : ∃ z, z = xs (4 * n + 1) := ⟨_, rfl⟩
  have ok : fl_ok l E yh_130 hh_130 [aR 4 655365 0, aI x1] qo v n M (fun a => a.toInt64) (p_248 x1) (r_248 x1) (m_248 x1) := by
    by_cases h0 : z_iu M x1
    rotate_left
    · exact fl_okT (z_g_248 hQ h0) (by decide) (ht_130_0 hE G.2.2.2.2.2.2.1 (tx_130_0 hS hE hst h0))
    exact fl_okN (z_f_130 hQ hn h0) (fun hp => hn_130 (d := 2) (by omega) G.2.2.2.2.2.2.1 (sf_130 hS (d := 0) x1 M hp ⟨rfl, rfl⟩))
  obtain ⟨QQ, hM, hq⟩ := ok
  have hVV := hV
  refine lv_aload_n hx hb dl_2196 rfl (lv_at hls 1 rfl) ?_
  refine fl_arg (k := 1) (n := n) G hVV.2.2 (by omega) (by decide +kernel) (lv_at hls 0 rfl) (lv_at hls 4 rfl) dl_2197 dl_2198 dl_2200 dl_2201 dl_2202 ?_
  rw [← e1]
  refine lv_aload_n hx hb dl_2203 rfl (lv_at hls 3 rfl) ?_
  refine fl_hlp (k := 3) (y := yh_130) (hh := hh_130) (av := [aR 4 655365 0, aI x1]) (rest := []) G hM (by decide +kernel) rfl flw_215 flw_216 flw_217 flw_37 (by decide +kernel) (by decide) (Nat.le_of_ble_eq_true rfl) hce hV hls.1 dl_2204 (fun r v1 M1 H1 hq1 hV1 => ?_)
  obtain ⟨q1, q2, q3, q4⟩ := hq r v1 M1 hq1
  refine lv_istore (lv' := (5, .int r) :: fl_L E b qo n) hx hb dl_2207 hls (by omega) rfl (fun ls1 hl1 => ?_)
  refine lv_aload_n hx hb dl_2209 rfl (lv_at hl1 3 rfl) ?_
  have hVV := hV1
  refine fl_arg (k := 1) (n := n) G hVV.2.2 (by omega) (by decide +kernel) (lv_at hl1 1 rfl) (lv_at hl1 5 rfl) dl_2210 dl_2211 dl_2213 dl_2214 dl_2215 ?_
  rw [← e1]
  refine fl_call (k := 1) (y2 := y_248) (q := (5, 819253, 0)) (ci := 6) (As := [aI x1]) (rest := []) (QE := ux_CI (fun a M' => a = r_248 x1 M1 ∧ M' = m_248 x1 M1)) G (by decide +kernel) flw_212 flw_213 flw_214 (by decide +kernel) (by decide) rfl (by decide) rfl rfl (fun v hv => by rw [List.mem_singleton.mp hv]; trivial) (Nat.le_of_ble_eq_true rfl) (sf_248 hS (d := 0) x1 M1 q1 ⟨rfl, rfl⟩) (by decide) hce hV1 hl1.1 dl_2216 (fun r2 M2 H2 hq2 hV2 => ?_)
  obtain ⟨a, rfl, rfl, rfl⟩ := hq2
  exact fl_tail (n := n) (pc := 2219) G hS hV2 q2 q4 hl1 hce dl_2219 dl_2221 dl_2222 dl_2225 dl_2227 dl_2232 dl_2234 dl_2237 dl_2238 dl_2239 dl_2240 dl_2242 dl_2243 dl_2244 dl_2249 (by decide) (fun H3 ls3 hV3 hl3 => kk H3 ls3 _ _ hV3 q3 hl3)
set_option maxRecDepth 20000 in
theorem fl_k36 {p : Program} {l : Launch} {E : ux_E} {e : Env} {s : State} {m : MethodId} {args : Array Value} {below : List Frame} {meth : Method} {c : Code} {H : Heap} {cells slots : Nat} {Q : State → Prop} {M : ux_M} {b L qo n : Nat} {xs : Nat → Int32} {ls : Array Slot} {v : Int64} (G : fl_G E p s m args c b L xs qo) (hS : ux_SpecOK l E ux_chs) (hE : ux_THok E) (hst : l.stackTraces = false) (hV : fl_V E s qo v M H) (hQ : z_Q n M) (hn : n ≤ 600) (h4 : 4 * n + 4 ≤ L) (hls : lv_has ls 7 (fl_L E b qo n)) (hce : cells + 1 ≤ 601024 ∧ slots + 6 ≤ 7293034)
    (kk : ∀ (H1 : Heap) (ls1 : Array Slot) (M1 : ux_M) (v1 : Int64), fl_V E s qo v1 M1 H1 → z_Q (n + 1) M1 → lv_has ls1 7 (fl_L E b qo n) → W p l e room_1 s m args below meth c H1 [] (cells + 1) (slots + 6) Q (F0 m 3025 ls1 [])) : W p l e room_1 s m args below meth c H [] cells slots Q (F0 m 2252 ls []) := by
  obtain ⟨hx, hb, hml, hown, hts⟩ := id G.1
  have hL := G.2.2.2.2.2.2.2
  obtain ⟨x1, e1⟩ : ∃ z, z = xs (4 * n + 1) := ⟨_, rfl⟩
  have ok : fl_ok l E yh_131 hh_131 [aR 4 655365 0, aI x1] qo v n M (fun a => a.toInt64) (p_249 x1) (r_249 x1) (m_249 x1) := by
    by_cases h0 : z_iu M x1
    rotate_left
    · exact fl_okT (z_g_249 hQ h0) (by decide) (ht_131_0 hE G.2.2.2.2.2.2.1 (tx_131_0 hS hE hst h0))
    exact fl_okN (z_f_131 hQ h0) (fun hp => hn_131 (d := 1) (by omega) G.2.2.2.2.2.2.1 (sf_131 hS (d := 0) x1 M hp ⟨rfl, rfl⟩))
  obtain ⟨QQ, hM, hq⟩ := ok
  have hVV := hV
  refine lv_aload_n hx hb dl_2252 rfl (lv_at hls 1 rfl) ?_
  refine fl_arg (k := 1) (n := n) G hVV.2.2 (by omega) (by decide +kernel) (lv_at hls 0 rfl) (lv_at hls 4 rfl) dl_2253 dl_2254 dl_2256 dl_2257 dl_2258 ?_
  rw [← e1]
  refine lv_aload_n hx hb dl_2259 rfl (lv_at hls 3 rfl) ?_
  refine fl_hlp (k := 3) (y := yh_131) (hh := hh_131) (av := [aR 4 655365 0, aI x1]) (rest := []) G hM (by decide +kernel) rfl flw_221 flw_222 flw_223 flw_37 (by decide +kernel) (by decide) (Nat.le_of_ble_eq_true rfl) hce hV hls.1 dl_2260 (fun r v1 M1 H1 hq1 hV1 => ?_)
  obtain ⟨q1, q2, q3, q4⟩ := hq r v1 M1 hq1
  refine lv_istore (lv' := (5, .int r) :: fl_L E b qo n) hx hb dl_2263 hls (by omega) rfl (fun ls1 hl1 => ?_)
  refine lv_aload_n hx hb dl_2265 rfl (lv_at hl1 3 rfl) ?_
  have hVV := hV1
  refine fl_arg (k := 1) (n := n) G hVV.2.2 (by omega) (by decide +kernel) (lv_at hl1 1 rfl) (lv_at hl1 5 rfl) dl_2266 dl_2267 dl_2269 dl_2270 dl_2271 ?_
  rw [← e1]
  refine fl_call (k := 1) (y2 := y_249) (q := (5, 819253, 0)) (ci := 6) (As := [aI x1]) (rest := []) (QE := ux_CI (fun a M' => a = r_249 x1 M1 ∧ M' = m_249 x1 M1)) G (by decide +kernel) flw_218 flw_219 flw_220 (by decide +kernel) (by decide) rfl (by decide) rfl rfl (fun v hv => by rw [List.mem_singleton.mp hv]; trivial) (Nat.le_of_ble_eq_true rfl) (sf_249 hS (d := 0) x1 M1 q1 ⟨rfl, rfl⟩) (by decide) hce hV1 hl1.1 dl_2272 (fun r2 M2 H2 hq2 hV2 => ?_)
  obtain ⟨a, rfl, rfl, rfl⟩ := hq2
  exact fl_tail (n := n) (pc := 2275) G hS hV2 q2 q4 hl1 hce dl_2275 dl_2277 dl_2278 dl_2281 dl_2283 dl_2288 dl_2290 dl_2293 dl_2294 dl_2295 dl_2296 dl_2298 dl_2299 dl_2300 dl_2305 (by decide) (fun H3 ls3 hV3 hl3 => kk H3 ls3 _ _ hV3 q3 hl3)
set_option maxRecDepth 20000 in
theorem fl_k37 {p : Program} {l : Launch} {E : ux_E} {e : Env} {s : State} {m : MethodId} {args : Array Value} {below : List Frame} {meth : Method} {c : Code} {H : Heap} {cells slots : Nat} {Q : State → Prop} {M : ux_M} {b L qo n : Nat} {xs : Nat → Int32} {ls : Array Slot} {v : Int64} (G : fl_G E p s m args c b L xs qo) (hS : ux_SpecOK l E ux_chs) (hE : ux_THok E) (hst : l.stackTraces = false) (hV : fl_V E s qo v M H) (hQ : z_Q n M) (hn : n ≤ 600) (h4 : 4 * n + 4 ≤ L) (hls : lv_has ls 7 (fl_L E b qo n)) (hce : cells + 1 ≤ 601024 ∧ slots + 6 ≤ 7293034)
    (kk : ∀ (H1 : Heap) (ls1 : Array Slot) (M1 : ux_M) (v1 : Int64), fl_V E s qo v1 M1 H1 → z_Q (n + 1) M1 → lv_has ls1 7 (fl_L E b qo n) → W p l e room_1 s m args below meth c H1 [] (cells + 1) (slots + 6) Q (F0 m 3025 ls1 [])) : W p l e room_1 s m args below meth c H [] cells slots Q (F0 m 2308 ls []) := by
  obtain ⟨hx, hb, hml, hown, hts⟩ := id G.1
  have hL := G.2.2.2.2.2.2.2
  obtain ⟨x1, e1⟩ : ∃ z, z = xs (4 * n + 1) := ⟨_, rfl⟩
  have ok : fl_ok l E yh_132 hh_132 [aR 4 655365 0, aI x1] qo v n M (fun a => a.toInt64) (p_250 x1) (r_250 x1) (m_250 x1) := by
    by_cases h0 : z_iu M x1
    rotate_left
    · exact fl_okT (z_g_250 hQ h0) (by decide) (ht_132_0 hE G.2.2.2.2.2.2.1 (tx_132_0 hS hE hst h0))
    exact fl_okN (z_f_132 hQ h0) (fun hp => hn_132 (d := 1) (by omega) G.2.2.2.2.2.2.1 (sf_132 hS (d := 0) x1 M hp ⟨rfl, rfl⟩))
  obtain ⟨QQ, hM, hq⟩ := ok
  have hVV := hV
  refine lv_aload_n hx hb dl_2308 rfl (lv_at hls 1 rfl) ?_
  refine fl_arg (k := 1) (n := n) G hVV.2.2 (by omega) (by decide +kernel) (lv_at hls 0 rfl) (lv_at hls 4 rfl) dl_2309 dl_2310 dl_2312 dl_2313 dl_2314 ?_
  rw [← e1]
  refine lv_aload_n hx hb dl_2315 rfl (lv_at hls 3 rfl) ?_
  refine fl_hlp (k := 3) (y := yh_132) (hh := hh_132) (av := [aR 4 655365 0, aI x1]) (rest := []) G hM (by decide +kernel) rfl flw_227 flw_228 flw_229 flw_37 (by decide +kernel) (by decide) (Nat.le_of_ble_eq_true rfl) hce hV hls.1 dl_2316 (fun r v1 M1 H1 hq1 hV1 => ?_)
  obtain ⟨q1, q2, q3, q4⟩ := hq r v1 M1 hq1
  refine lv_istore (lv' := (5, .int r) :: fl_L E b qo n) hx hb dl_2319 hls (by omega) rfl (fun ls1 hl1 => ?_)
  refine lv_aload_n hx hb dl_2321 rfl (lv_at hl1 3 rfl) ?_
  have hVV := hV1
  refine fl_arg (k := 1) (n := n) G hVV.2.2 (by omega) (by decide +kernel) (lv_at hl1 1 rfl) (lv_at hl1 5 rfl) dl_2322 dl_2323 dl_2325 dl_2326 dl_2327 ?_
  rw [← e1]
  refine fl_call (k := 1) (y2 := y_250) (q := (5, 819253, 0)) (ci := 6) (As := [aI x1]) (rest := []) (QE := ux_CI (fun a M' => a = r_250 x1 M1 ∧ M' = m_250 x1 M1)) G (by decide +kernel) flw_224 flw_225 flw_226 (by decide +kernel) (by decide) rfl (by decide) rfl rfl (fun v hv => by rw [List.mem_singleton.mp hv]; trivial) (Nat.le_of_ble_eq_true rfl) (sf_250 hS (d := 0) x1 M1 q1 ⟨rfl, rfl⟩) (by decide) hce hV1 hl1.1 dl_2328 (fun r2 M2 H2 hq2 hV2 => ?_)
  obtain ⟨a, rfl, rfl, rfl⟩ := hq2
  exact fl_tail (n := n) (pc := 2331) G hS hV2 q2 q4 hl1 hce dl_2331 dl_2333 dl_2334 dl_2337 dl_2339 dl_2344 dl_2346 dl_2349 dl_2350 dl_2351 dl_2352 dl_2354 dl_2355 dl_2356 dl_2361 (by decide) (fun H3 ls3 hV3 hl3 => kk H3 ls3 _ _ hV3 q3 hl3)
set_option maxRecDepth 20000 in
theorem fl_k38 {p : Program} {l : Launch} {E : ux_E} {e : Env} {s : State} {m : MethodId} {args : Array Value} {below : List Frame} {meth : Method} {c : Code} {H : Heap} {cells slots : Nat} {Q : State → Prop} {M : ux_M} {b L qo n : Nat} {xs : Nat → Int32} {ls : Array Slot} {v : Int64} (G : fl_G E p s m args c b L xs qo) (hS : ux_SpecOK l E ux_chs) (hE : ux_THok E) (hst : l.stackTraces = false) (hV : fl_V E s qo v M H) (hQ : z_Q n M) (hn : n ≤ 600) (h4 : 4 * n + 4 ≤ L) (hls : lv_has ls 7 (fl_L E b qo n)) (hce : cells + 1 ≤ 601024 ∧ slots + 6 ≤ 7293034)
    (kk : ∀ (H1 : Heap) (ls1 : Array Slot) (M1 : ux_M) (v1 : Int64), fl_V E s qo v1 M1 H1 → z_Q (n + 1) M1 → lv_has ls1 7 (fl_L E b qo n) → W p l e room_1 s m args below meth c H1 [] (cells + 1) (slots + 6) Q (F0 m 3025 ls1 [])) : W p l e room_1 s m args below meth c H [] cells slots Q (F0 m 2364 ls []) := by
  obtain ⟨hx, hb, hml, hown, hts⟩ := id G.1
  have hL := G.2.2.2.2.2.2.2
  obtain ⟨x1, e1⟩ : ∃ z, z = xs (4 * n + 1) := ⟨_, rfl⟩
  have ok : fl_ok l E yh_133 hh_133 [aR 4 655365 0, aI x1] qo v n M (fun a => a.toInt64) (p_251 x1) (r_251 x1) (m_251 x1) := by
    by_cases h0 : z_iu M x1
    rotate_left
    · exact fl_okT (z_g_251 hQ h0) (by decide) (ht_133_0 hE G.2.2.2.2.2.2.1 (tx_133_0 hS hE hst h0))
    exact fl_okN (z_f_133 hQ h0) (fun hp => hn_133 (d := 1) (by omega) G.2.2.2.2.2.2.1 (sf_133 hS (d := 0) x1 M hp ⟨rfl, rfl⟩))
  obtain ⟨QQ, hM, hq⟩ := ok
  have hVV := hV
  refine lv_aload_n hx hb dl_2364 rfl (lv_at hls 1 rfl) ?_
  refine fl_arg (k := 1) (n := n) G hVV.2.2 (by omega) (by decide +kernel) (lv_at hls 0 rfl) (lv_at hls 4 rfl) dl_2365 dl_2366 dl_2368 dl_2369 dl_2370 ?_
  rw [← e1]
  refine lv_aload_n hx hb dl_2371 rfl (lv_at hls 3 rfl) ?_
  refine fl_hlp (k := 3) (y := yh_133) (hh := hh_133) (av := [aR 4 655365 0, aI x1]) (rest := []) G hM (by decide +kernel) rfl flw_233 flw_234 flw_235 flw_37 (by decide +kernel) (by decide) (Nat.le_of_ble_eq_true rfl) hce hV hls.1 dl_2372 (fun r v1 M1 H1 hq1 hV1 => ?_)
  obtain ⟨q1, q2, q3, q4⟩ := hq r v1 M1 hq1
  refine lv_istore (lv' := (5, .int r) :: fl_L E b qo n) hx hb dl_2375 hls (by omega) rfl (fun ls1 hl1 => ?_)
  refine lv_aload_n hx hb dl_2377 rfl (lv_at hl1 3 rfl) ?_
  have hVV := hV1
  refine fl_arg (k := 1) (n := n) G hVV.2.2 (by omega) (by decide +kernel) (lv_at hl1 1 rfl) (lv_at hl1 5 rfl) dl_2378 dl_2379 dl_2381 dl_2382 dl_2383 ?_
  rw [← e1]
  refine fl_call (k := 1) (y2 := y_251) (q := (5, 819253, 0)) (ci := 6) (As := [aI x1]) (rest := []) (QE := ux_CI (fun a M' => a = r_251 x1 M1 ∧ M' = m_251 x1 M1)) G (by decide +kernel) flw_230 flw_231 flw_232 (by decide +kernel) (by decide) rfl (by decide) rfl rfl (fun v hv => by rw [List.mem_singleton.mp hv]; trivial) (Nat.le_of_ble_eq_true rfl) (sf_251 hS (d := 0) x1 M1 q1 ⟨rfl, rfl⟩) (by decide) hce hV1 hl1.1 dl_2384 (fun r2 M2 H2 hq2 hV2 => ?_)
  obtain ⟨a, rfl, rfl, rfl⟩ := hq2
  exact fl_tail (n := n) (pc := 2387) G hS hV2 q2 q4 hl1 hce dl_2387 dl_2389 dl_2390 dl_2393 dl_2395 dl_2400 dl_2402 dl_2405 dl_2406 dl_2407 dl_2408 dl_2410 dl_2411 dl_2412 dl_2417 (by decide) (fun H3 ls3 hV3 hl3 => kk H3 ls3 _ _ hV3 q3 hl3)
set_option maxRecDepth 20000 in
theorem fl_k39 {p : Program} {l : Launch} {E : ux_E} {e : Env} {s : State} {m : MethodId} {args : Array Value} {below : List Frame} {meth : Method} {c : Code} {H : Heap} {cells slots : Nat} {Q : State → Prop} {M : ux_M} {b L qo n : Nat} {xs : Nat → Int32} {ls : Array Slot} {v : Int64} (G : fl_G E p s m args c b L xs qo) (hS : ux_SpecOK l E ux_chs) (hE : ux_THok E) (hst : l.stackTraces = false) (hV : fl_V E s qo v M H) (hQ : z_Q n M) (hn : n ≤ 600) (h4 : 4 * n + 4 ≤ L) (hls : lv_has ls 7 (fl_L E b qo n)) (hce : cells + 1 ≤ 601024 ∧ slots + 6 ≤ 7293034)
    (kk : ∀ (H1 : Heap) (ls1 : Array Slot) (M1 : ux_M) (v1 : Int64), fl_V E s qo v1 M1 H1 → z_Q (n + 1) M1 → lv_has ls1 7 (fl_L E b qo n) → W p l e room_1 s m args below meth c H1 [] (cells + 1) (slots + 6) Q (F0 m 3025 ls1 [])) : W p l e room_1 s m args below meth c H [] cells slots Q (F0 m 2420 ls []) := by
  obtain ⟨hx, hb, hml, hown, hts⟩ := id G.1
  have hL := G.2.2.2.2.2.2.2
  have hVV := hV
  refine lv_aload_n hx hb dl_2420 rfl (lv_at hls 1 rfl) ?_
  obtain ⟨o1, o2, o3, o4, o5⟩ := z_f_37 hQ
  refine fl_call (k := 0) (y2 := y_37) (q := (4, 655365, 0)) (ci := 0) (As := []) (rest := []) (QE := ux_CI (fun a M' => a = r_37 M ∧ M = M')) G (by decide +kernel) flw_236 flw_237 flw_238 (by decide +kernel) (by decide) rfl (by decide) rfl rfl (fun v hv => by cases hv) (Nat.le_of_ble_eq_true rfl) (sf_37 hS (d := 0) M o1 ⟨rfl, rfl⟩) (by decide) ⟨by omega, by omega⟩ hV hls.1 dl_2421 (fun r1 M1 H1 hq1 hV1 => ?_)
  obtain ⟨a1, rfl, rfl, rfl⟩ := hq1
  have hVV := hV1
  refine lv_aload_n hx hb dl_2424 rfl (lv_at hls 2 rfl) ?_
  refine fl_call (k := 0) (y2 := y_260) (q := (5, 819253, 0)) (ci := 6) (As := []) (rest := [.int _]) (QE := ux_CI (fun a M' => a = r_260 M ∧ m_260 M = M')) G (by decide +kernel) flw_239 flw_240 flw_241 (by decide +kernel) (by decide) rfl (by decide) rfl rfl (fun v hv => by cases hv) (Nat.le_of_ble_eq_true rfl) (sf_260 hS (d := 0) M o2 ⟨rfl, rfl⟩) (by decide) ⟨by omega, by omega⟩ hV1 hls.1 dl_2425 (fun r2 M2 H2 hq2 hV2 => ?_)
  obtain ⟨a2, rfl, rfl, rfl⟩ := hq2
  refine lv_icmp_eq (tgt := 3025) hx hb dl_2428 (by decide) (fun _ => ?_) (fun z => absurd o3 z)
  exact W.widen (k := cells + 1) (n := slots + 6) (by omega) (by omega) (kk H2 ls _ _ hV2 o5 hls)
set_option maxRecDepth 20000 in
theorem fl_k40 {p : Program} {l : Launch} {E : ux_E} {e : Env} {s : State} {m : MethodId} {args : Array Value} {below : List Frame} {meth : Method} {c : Code} {H : Heap} {cells slots : Nat} {Q : State → Prop} {M : ux_M} {b L qo n : Nat} {xs : Nat → Int32} {ls : Array Slot} {v : Int64} (G : fl_G E p s m args c b L xs qo) (hS : ux_SpecOK l E ux_chs) (hE : ux_THok E) (hst : l.stackTraces = false) (hV : fl_V E s qo v M H) (hQ : z_Q n M) (hn : n ≤ 600) (h4 : 4 * n + 4 ≤ L) (hls : lv_has ls 7 (fl_L E b qo n)) (hce : cells + 1 ≤ 601024 ∧ slots + 6 ≤ 7293034)
    (kk : ∀ (H1 : Heap) (ls1 : Array Slot) (M1 : ux_M) (v1 : Int64), fl_V E s qo v1 M1 H1 → z_Q (n + 1) M1 → lv_has ls1 7 (fl_L E b qo n) → W p l e room_1 s m args below meth c H1 [] (cells + 1) (slots + 6) Q (F0 m 3025 ls1 [])) : W p l e room_1 s m args below meth c H [] cells slots Q (F0 m 2433 ls []) := by
  obtain ⟨hx, hb, hml, hown, hts⟩ := id G.1
  have hL := G.2.2.2.2.2.2.2
  obtain ⟨x1, e1⟩ : ∃ z, z = xs (4 * n + 1) := ⟨_, rfl⟩
  obtain ⟨x2, e2⟩ : ∃ z, z = xs (4 * n + 2) := ⟨_, rfl⟩
  have ok : fl_ok l E yh_134 hh_134 [aR 4 655365 0, aI x1, aI x2] qo v n M (fun a => a.toInt64) (p_261 x1 x2) (r_261 x1 x2) (m_261 x1 x2) := by
    by_cases h0 : z_rg x2 0 2
    rotate_left
    · exact fl_okT (z_g_261 hQ h0) (by decide) (ht_134_0 hE G.2.2.2.2.2.2.1 (tx_134_0 hS hE hst h0))
    exact fl_okN (z_f_134 hQ h0) (fun hp => hn_134 (d := 3) (by omega) G.2.2.2.2.2.2.1 (sf_134 hS (d := 0) x1 x2 M hp ⟨rfl, rfl⟩))
  obtain ⟨QQ, hM, hq⟩ := ok
  have hVV := hV
  refine lv_aload_n hx hb dl_2433 rfl (lv_at hls 1 rfl) ?_
  refine fl_arg (k := 1) (n := n) G hVV.2.2 (by omega) (by decide +kernel) (lv_at hls 0 rfl) (lv_at hls 4 rfl) dl_2434 dl_2435 dl_2437 dl_2438 dl_2439 ?_
  refine fl_arg (k := 2) (n := n) G hVV.2.2 (by omega) (by decide +kernel) (lv_at hls 0 rfl) (lv_at hls 4 rfl) dl_2440 dl_2441 dl_2443 dl_2444 dl_2445 ?_
  rw [← e1, ← e2]
  refine lv_aload_n hx hb dl_2446 rfl (lv_at hls 3 rfl) ?_
  refine fl_hlp (k := 4) (y := yh_134) (hh := hh_134) (av := [aR 4 655365 0, aI x1, aI x2]) (rest := []) G hM (by decide +kernel) rfl flw_245 flw_246 flw_247 flw_37 (by decide +kernel) (by decide) (Nat.le_of_ble_eq_true rfl) hce hV hls.1 dl_2447 (fun r v1 M1 H1 hq1 hV1 => ?_)
  obtain ⟨q1, q2, q3, q4⟩ := hq r v1 M1 hq1
  refine lv_istore (lv' := (5, .int r) :: fl_L E b qo n) hx hb dl_2450 hls (by omega) rfl (fun ls1 hl1 => ?_)
  refine lv_aload_n hx hb dl_2452 rfl (lv_at hl1 3 rfl) ?_
  have hVV := hV1
  refine fl_arg (k := 1) (n := n) G hVV.2.2 (by omega) (by decide +kernel) (lv_at hl1 1 rfl) (lv_at hl1 5 rfl) dl_2453 dl_2454 dl_2456 dl_2457 dl_2458 ?_
  refine fl_arg (k := 2) (n := n) G hVV.2.2 (by omega) (by decide +kernel) (lv_at hl1 1 rfl) (lv_at hl1 5 rfl) dl_2459 dl_2460 dl_2462 dl_2463 dl_2464 ?_
  rw [← e1, ← e2]
  refine fl_call (k := 2) (y2 := y_261) (q := (5, 819253, 0)) (ci := 6) (As := [aI x1, aI x2]) (rest := []) (QE := ux_CI (fun a M' => a = r_261 x1 x2 M1 ∧ M' = m_261 x1 x2 M1)) G (by decide +kernel) flw_242 flw_243 flw_244 (by decide +kernel) (by decide) rfl (by decide) rfl rfl (fun v hv => by
      simp only [List.mem_cons, List.not_mem_nil, or_false] at hv
      rcases hv with rfl | rfl <;> trivial) (Nat.le_of_ble_eq_true rfl) (sf_261 hS (d := 0) x1 x2 M1 q1 ⟨rfl, rfl⟩) (by decide) hce hV1 hl1.1 dl_2465 (fun r2 M2 H2 hq2 hV2 => ?_)
  obtain ⟨a, rfl, rfl, rfl⟩ := hq2
  exact fl_tail (n := n) (pc := 2468) G hS hV2 q2 q4 hl1 hce dl_2468 dl_2470 dl_2471 dl_2474 dl_2476 dl_2481 dl_2483 dl_2486 dl_2487 dl_2488 dl_2489 dl_2491 dl_2492 dl_2493 dl_2498 (by decide) (fun H3 ls3 hV3 hl3 => kk H3 ls3 _ _ hV3 q3 hl3)
set_option maxRecDepth 20000 in
theorem fl_k41 {p : Program} {l : Launch} {E : ux_E} {e : Env} {s : State} {m : MethodId} {args : Array Value} {below : List Frame} {meth : Method} {c : Code} {H : Heap} {cells slots : Nat} {Q : State → Prop} {M : ux_M} {b L qo n : Nat} {xs : Nat → Int32} {ls : Array Slot} {v : Int64} (G : fl_G E p s m args c b L xs qo) (hS : ux_SpecOK l E ux_chs) (hE : ux_THok E) (hst : l.stackTraces = false) (hV : fl_V E s qo v M H) (hQ : z_Q n M) (hn : n ≤ 600) (h4 : 4 * n + 4 ≤ L) (hls : lv_has ls 7 (fl_L E b qo n)) (hce : cells + 1 ≤ 601024 ∧ slots + 6 ≤ 7293034)
    (kk : ∀ (H1 : Heap) (ls1 : Array Slot) (M1 : ux_M) (v1 : Int64), fl_V E s qo v1 M1 H1 → z_Q (n + 1) M1 → lv_has ls1 7 (fl_L E b qo n) → W p l e room_1 s m args below meth c H1 [] (cells + 1) (slots + 6) Q (F0 m 3025 ls1 [])) : W p l e room_1 s m args below meth c H [] cells slots Q (F0 m 2501 ls []) := by
  obtain ⟨hx, hb, hml, hown, hts⟩ := id G.1
  have hL := G.2.2.2.2.2.2.2
  obtain ⟨x1, e1⟩ : ∃ z, z = xs (4 * n + 1) := ⟨_, rfl⟩
  have ok : fl_ok l E yh_136 hh_136 [aR 4 655365 0, aI x1] qo v n M (fun a => a.toInt64) (p_281 x1) (r_281 x1) (m_281 x1) := by
    by_cases h0 : z_iu M x1
    rotate_left
    · exact fl_okT (z_g_281 hQ h0) (by decide) (ht_136_0 hE G.2.2.2.2.2.2.1 (tx_136_0 hS hE hst h0))
    exact fl_okN (z_f_136 hQ h0) (fun hp => hn_136 (d := 1) (by omega) G.2.2.2.2.2.2.1 (sf_136 hS (d := 0) x1 M hp ⟨rfl, rfl⟩))
  obtain ⟨QQ, hM, hq⟩ := ok
  have hVV := hV
  refine lv_aload_n hx hb dl_2501 rfl (lv_at hls 1 rfl) ?_
  refine fl_arg (k := 1) (n := n) G hVV.2.2 (by omega) (by decide +kernel) (lv_at hls 0 rfl) (lv_at hls 4 rfl) dl_2502 dl_2503 dl_2505 dl_2506 dl_2507 ?_
  rw [← e1]
  refine lv_aload_n hx hb dl_2508 rfl (lv_at hls 3 rfl) ?_
  refine fl_hlp (k := 3) (y := yh_136) (hh := hh_136) (av := [aR 4 655365 0, aI x1]) (rest := []) G hM (by decide +kernel) rfl flw_251 flw_252 flw_253 flw_37 (by decide +kernel) (by decide) (Nat.le_of_ble_eq_true rfl) hce hV hls.1 dl_2509 (fun r v1 M1 H1 hq1 hV1 => ?_)
  obtain ⟨q1, q2, q3, q4⟩ := hq r v1 M1 hq1
  refine lv_istore (lv' := (5, .int r) :: fl_L E b qo n) hx hb dl_2512 hls (by omega) rfl (fun ls1 hl1 => ?_)
  refine lv_aload_n hx hb dl_2514 rfl (lv_at hl1 3 rfl) ?_
  have hVV := hV1
  refine fl_arg (k := 1) (n := n) G hVV.2.2 (by omega) (by decide +kernel) (lv_at hl1 1 rfl) (lv_at hl1 5 rfl) dl_2515 dl_2516 dl_2518 dl_2519 dl_2520 ?_
  rw [← e1]
  refine fl_call (k := 1) (y2 := y_281) (q := (5, 819253, 0)) (ci := 6) (As := [aI x1]) (rest := []) (QE := ux_CI (fun a M' => a = r_281 x1 M1 ∧ M' = m_281 x1 M1)) G (by decide +kernel) flw_248 flw_249 flw_250 (by decide +kernel) (by decide) rfl (by decide) rfl rfl (fun v hv => by rw [List.mem_singleton.mp hv]; trivial) (Nat.le_of_ble_eq_true rfl) (sf_281 hS (d := 0) x1 M1 q1 ⟨rfl, rfl⟩) (by decide) hce hV1 hl1.1 dl_2521 (fun r2 M2 H2 hq2 hV2 => ?_)
  obtain ⟨a, rfl, rfl, rfl⟩ := hq2
  exact fl_tail (n := n) (pc := 2524) G hS hV2 q2 q4 hl1 hce dl_2524 dl_2526 dl_2527 dl_2530 dl_2532 dl_2537 dl_2539 dl_2542 dl_2543 dl_2544 dl_2545 dl_2547 dl_2548 dl_2549 dl_2554 (by decide) (fun H3 ls3 hV3 hl3 => kk H3 ls3 _ _ hV3 q3 hl3)
