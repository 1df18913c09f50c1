/-! THE LAW, 3.1: its cases (by wip/whole/gen9f.py) -/
set_option maxRecDepth 20000 in
theorem fl_k10 {p : Program} {l : Launch} {E : ux_E} {e : Env} {s : State} {m : MethodId} {args : Array Value} {below : List Frame} {meth : Method} {c : Code} {H : Heap} {cells slots : Nat} {Q : State → Prop} {M : ux_M} {b L qo n : Nat} {xs : Nat → Int32} {ls : Array Slot} {v : Int64} (G : fl_G E p s m args c b L xs qo) (hS : ux_SpecOK l E ux_chs) (hE : ux_THok E) (hst : l.stackTraces = false) (hV : fl_V E s qo v M H) (hQ : z_Q n M) (hn : n ≤ 600) (h4 : 4 * n + 4 ≤ L) (hls : lv_has ls 7 (fl_L E b qo n)) (hce : cells + 1 ≤ 601024 ∧ slots + 6 ≤ 7293034)
    (kk : ∀ (H1 : Heap) (ls1 : Array Slot) (M1 : ux_M) (v1 : Int64), fl_V E s qo v1 M1 H1 → z_Q (n + 1) M1 → lv_has ls1 7 (fl_L E b qo n) → W p l e room_1 s m args below meth c H1 [] (cells + 1) (slots + 6) Q (F0 m 3025 ls1 [])) : W p l e room_1 s m args below meth c H [] cells slots Q (F0 m 689 ls []) := by
  obtain ⟨hx, hb, hml, hown, hts⟩ := id G.1
  have hL := G.2.2.2.2.2.2.2
  obtain ⟨x1, e1⟩ : ∃ z, z = xs (4 * n + 1) := ⟨_, rfl⟩
  obtain ⟨x2, e2⟩ : ∃ z, z = fl_b (xs (4 * n + 2)) := ⟨_, rfl⟩
  have ok : fl_ok l E yh_99 hh_99 [aR 4 655365 0, aI x1, aI x2] qo v n M (fun a => a.toInt64) (p_262 x1 x2) (r_262 x1 x2) (m_262 x1 x2) := by
    by_cases h0 : z_iu M x1
    rotate_left
    · exact fl_okT (z_g_262 hQ h0) (by decide) (ht_99_0 hE G.2.2.2.2.2.2.1 (tx_99_0 hS hE hst h0))
    exact fl_okN (z_f_99 hQ hn h0) (fun hp => hn_99 (d := 26) (by omega) G.2.2.2.2.2.2.1 (sf_99 hS (d := 0) x1 x2 M hp ⟨rfl, rfl⟩))
  obtain ⟨QQ, hM, hq⟩ := ok
  have hVV := hV
  refine lv_aload_n hx hb dl_689 rfl (lv_at hls 1 rfl) ?_
  refine fl_arg (k := 1) (n := n) G hVV.2.2 (by omega) (by decide +kernel) (lv_at hls 0 rfl) (lv_at hls 4 rfl) dl_690 dl_691 dl_693 dl_694 dl_695 ?_
  refine fl_arg (k := 2) (n := n) G hVV.2.2 (by omega) (by decide +kernel) (lv_at hls 0 rfl) (lv_at hls 4 rfl) dl_696 dl_697 dl_699 dl_700 dl_701 ?_
  refine fl_bool G dl_702 dl_705 dl_706 dl_709 ?_
  rw [← e1, ← e2]
  refine lv_aload_n hx hb dl_710 rfl (lv_at hls 3 rfl) ?_
  refine fl_hlp (k := 4) (y := yh_99) (hh := hh_99) (av := [aR 4 655365 0, aI x1, aI x2]) (rest := []) G hM (by decide +kernel) rfl flw_65 flw_66 flw_67 flw_37 (by decide +kernel) (by decide) (Nat.le_of_ble_eq_true rfl) hce hV hls.1 dl_711 (fun r v1 M1 H1 hq1 hV1 => ?_)
  obtain ⟨q1, q2, q3, q4⟩ := hq r v1 M1 hq1
  refine lv_istore (lv' := (5, .int r) :: fl_L E b qo n) hx hb dl_714 hls (by omega) rfl (fun ls1 hl1 => ?_)
  refine lv_aload_n hx hb dl_716 rfl (lv_at hl1 3 rfl) ?_
  have hVV := hV1
  refine fl_arg (k := 1) (n := n) G hVV.2.2 (by omega) (by decide +kernel) (lv_at hl1 1 rfl) (lv_at hl1 5 rfl) dl_717 dl_718 dl_720 dl_721 dl_722 ?_
  refine fl_arg (k := 2) (n := n) G hVV.2.2 (by omega) (by decide +kernel) (lv_at hl1 1 rfl) (lv_at hl1 5 rfl) dl_723 dl_724 dl_726 dl_727 dl_728 ?_
  refine fl_bool G dl_729 dl_732 dl_733 dl_736 ?_
  rw [← e1, ← e2]
  refine fl_call (k := 2) (y2 := y_262) (q := (5, 819253, 0)) (ci := 6) (As := [aI x1, aI x2]) (rest := []) (QE := ux_CI (fun a M' => a = r_262 x1 x2 M1 ∧ M' = m_262 x1 x2 M1)) G (by decide +kernel) flw_62 flw_63 flw_64 (by decide +kernel) (by decide) rfl (by decide) rfl rfl (fun v hv => by
      simp only [List.mem_cons, List.not_mem_nil, or_false] at hv
      rcases hv with rfl | rfl <;> trivial) (Nat.le_of_ble_eq_true rfl) (sf_262 hS (d := 0) x1 x2 M1 q1 ⟨rfl, rfl⟩) (by decide) hce hV1 hl1.1 dl_737 (fun r2 M2 H2 hq2 hV2 => ?_)
  obtain ⟨a, rfl, rfl, rfl⟩ := hq2
  exact fl_tail (n := n) (pc := 740) G hS hV2 q2 q4 hl1 hce dl_740 dl_742 dl_743 dl_746 dl_748 dl_753 dl_755 dl_758 dl_759 dl_760 dl_761 dl_763 dl_764 dl_765 dl_770 (by decide) (fun H3 ls3 hV3 hl3 => kk H3 ls3 _ _ hV3 q3 hl3)
set_option maxRecDepth 20000 in
theorem fl_k11 {p : Program} {l : Launch} {E : ux_E} {e : Env} {s : State} {m : MethodId} {args : Array Value} {below : List Frame} {meth : Method} {c : Code} {H : Heap} {cells slots : Nat} {Q : State → Prop} {M : ux_M} {b L qo n : Nat} {xs : Nat → Int32} {ls : Array Slot} {v : Int64} (G : fl_G E p s m args c b L xs qo) (hS : ux_SpecOK l E ux_chs) (hE : ux_THok E) (hst : l.stackTraces = false) (hV : fl_V E s qo v M H) (hQ : z_Q n M) (hn : n ≤ 600) (h4 : 4 * n + 4 ≤ L) (hls : lv_has ls 7 (fl_L E b qo n)) (hce : cells + 1 ≤ 601024 ∧ slots + 6 ≤ 7293034)
    (kk : ∀ (H1 : Heap) (ls1 : Array Slot) (M1 : ux_M) (v1 : Int64), fl_V E s qo v1 M1 H1 → z_Q (n + 1) M1 → lv_has ls1 7 (fl_L E b qo n) → W p l e room_1 s m args below meth c H1 [] (cells + 1) (slots + 6) Q (F0 m 3025 ls1 [])) : W p l e room_1 s m args below meth c H [] cells slots Q (F0 m 773 ls []) := by
  obtain ⟨hx, hb, hml, hown, hts⟩ := id G.1
  have hL := G.2.2.2.2.2.2.2
  obtain ⟨x1, e1⟩ : ∃ z, z = xs (4 * n + 1) := ⟨_, rfl⟩
  obtain ⟨x2, e2⟩ : ∃ z, z = fl_b (xs (4 * n + 2)) := ⟨_, rfl⟩
  have ok : fl_ok l E yh_100 hh_100 [aR 4 655365 0, aI x1, aI x2] qo v n M (fun a => a.toInt64) (p_264 x1 x2) (r_264 x1 x2) (m_264 x1 x2) := by
    by_cases h0 : z_iu M x1
    rotate_left
    · exact fl_okT (z_g_264 hQ h0) (by decide) (ht_100_0 hE G.2.2.2.2.2.2.1 (tx_100_0 hS hE hst h0))
    exact fl_okN (z_f_100 hQ hn h0) (fun hp => hn_100 (d := 26) (by omega) G.2.2.2.2.2.2.1 (sf_100 hS (d := 0) x1 x2 M hp ⟨rfl, rfl⟩))
  obtain ⟨QQ, hM, hq⟩ := ok
  have hVV := hV
  refine lv_aload_n hx hb dl_773 rfl (lv_at hls 1 rfl) ?_
  refine fl_arg (k := 1) (n := n) G hVV.2.2 (by omega) (by decide +kernel) (lv_at hls 0 rfl) (lv_at hls 4 rfl) dl_774 dl_775 dl_777 dl_778 dl_779 ?_
  refine fl_arg (k := 2) (n := n) G hVV.2.2 (by omega) (by decide +kernel) (lv_at hls 0 rfl) (lv_at hls 4 rfl) dl_780 dl_781 dl_783 dl_784 dl_785 ?_
  refine fl_bool G dl_786 dl_789 dl_790 dl_793 ?_
  rw [← e1, ← e2]
  refine lv_aload_n hx hb dl_794 rfl (lv_at hls 3 rfl) ?_
  refine fl_hlp (k := 4) (y := yh_100) (hh := hh_100) (av := [aR 4 655365 0, aI x1, aI x2]) (rest := []) G hM (by decide +kernel) rfl flw_71 flw_72 flw_73 flw_37 (by decide +kernel) (by decide) (Nat.le_of_ble_eq_true rfl) hce hV hls.1 dl_795 (fun r v1 M1 H1 hq1 hV1 => ?_)
  obtain ⟨q1, q2, q3, q4⟩ := hq r v1 M1 hq1
  refine lv_istore (lv' := (5, .int r) :: fl_L E b qo n) hx hb dl_798 hls (by omega) rfl (fun ls1 hl1 => ?_)
  refine lv_aload_n hx hb dl_800 rfl (lv_at hl1 3 rfl) ?_
  have hVV := hV1
  refine fl_arg (k := 1) (n := n) G hVV.2.2 (by omega) (by decide +kernel) (lv_at hl1 1 rfl) (lv_at hl1 5 rfl) dl_801 dl_802 dl_804 dl_805 dl_806 ?_
  refine fl_arg (k := 2) (n := n) G hVV.2.2 (by omega) (by decide +kernel) (lv_at hl1 1 rfl) (lv_at hl1 5 rfl) dl_807 dl_808 dl_810 dl_811 dl_812 ?_
  refine fl_bool G dl_813 dl_816 dl_817 dl_820 ?_
  rw [← e1, ← e2]
  refine fl_call (k := 2) (y2 := y_264) (q := (5, 819253, 0)) (ci := 6) (As := [aI x1, aI x2]) (rest := []) (QE := ux_CI (fun a M' => a = r_264 x1 x2 M1 ∧ M' = m_264 x1 x2 M1)) G (by decide +kernel) flw_68 flw_69 flw_70 (by decide +kernel) (by decide) rfl (by decide) rfl rfl (fun v hv => by
      simp only [List.mem_cons, List.not_mem_nil, or_false] at hv
      rcases hv with rfl | rfl <;> trivial) (Nat.le_of_ble_eq_true rfl) (sf_264 hS (d := 0) x1 x2 M1 q1 ⟨rfl, rfl⟩) (by decide) hce hV1 hl1.1 dl_821 (fun r2 M2 H2 hq2 hV2 => ?_)
  obtain ⟨a, rfl, rfl, rfl⟩ := hq2
  exact fl_tail (n := n) (pc := 824) G hS hV2 q2 q4 hl1 hce dl_824 dl_826 dl_827 dl_830 dl_832 dl_837 dl_839 dl_842 dl_843 dl_844 dl_845 dl_847 dl_848 dl_849 dl_854 (by decide) (fun H3 ls3 hV3 hl3 => kk H3 ls3 _ _ hV3 q3 hl3)
set_option maxRecDepth 20000 in
theorem fl_k12 {p : Program} {l : Launch} {E : ux_E} {e : Env} {s : State} {m : MethodId} {args : Array Value} {below : List Frame} {meth : Method} {c : Code} {H : Heap} {cells slots : Nat} {Q : State → Prop} {M : ux_M} {b L qo n : Nat} {xs : Nat → Int32} {ls : Array Slot} {v : Int64} (G : fl_G E p s m args c b L xs qo) (hS : ux_SpecOK l E ux_chs) (hE : ux_THok E) (hst : l.stackTraces = false) (hV : fl_V E s qo v M H) (hQ : z_Q n M) (hn : n ≤ 600) (h4 : 4 * n + 4 ≤ L) (hls : lv_has ls 7 (fl_L E b qo n)) (hce : cells + 1 ≤ 601024 ∧ slots + 6 ≤ 7293034)
    (kk : ∀ (H1 : Heap) (ls1 : Array Slot) (M1 : ux_M) (v1 : Int64), fl_V E s qo v1 M1 H1 → z_Q (n + 1) M1 → lv_has ls1 7 (fl_L E b qo n) → W p l e room_1 s m args below meth c H1 [] (cells + 1) (slots + 6) Q (F0 m 3025 ls1 [])) : W p l e room_1 s m args below meth c H [] cells slots Q (F0 m 857 ls []) := by
  obtain ⟨hx, hb, hml, hown, hts⟩ := id G.1
  have hL := G.2.2.2.2.2.2.2
  obtain ⟨x1, e1⟩ : ∃ z, z = xs (4 * n + 1) := ⟨_, rfl⟩
  obtain ⟨x2, e2⟩ : ∃ z, z = fl_b (xs (4 * n + 2)) := ⟨_, rfl⟩
  have ok : fl_ok l E yh_101 hh_101 [aR 4 655365 0, aI x1, aI x2] qo v n M (fun a => a.toInt64) (p_265 x1 x2) (r_265 x1 x2) (m_265 x1 x2) := by
    by_cases h0 : z_iu M x1
    rotate_left
    · exact fl_okT (z_g_265 hQ h0) (by decide) (ht_101_0 hE G.2.2.2.2.2.2.1 (tx_101_0 hS hE hst h0))
    exact fl_okN (z_f_101 hQ hn h0) (fun hp => hn_101 (d := 26) (by omega) G.2.2.2.2.2.2.1 (sf_101 hS (d := 0) x1 x2 M hp ⟨rfl, rfl⟩))
  obtain ⟨QQ, hM, hq⟩ := ok
  have hVV := hV
  refine lv_aload_n hx hb dl_857 rfl (lv_at hls 1 rfl) ?_
  refine fl_arg (k := 1) (n := n) G hVV.2.2 (by omega) (by decide +kernel) (lv_at hls 0 rfl) (lv_at hls 4 rfl) dl_858 dl_859 dl_861 dl_862 dl_863 ?_
  refine fl_arg (k := 2) (n := n) G hVV.2.2 (by omega) (by decide +kernel) (lv_at hls 0 rfl) (lv_at hls 4 rfl) dl_864 dl_865 dl_867 dl_868 dl_869 ?_
  refine fl_bool G dl_870 dl_873 dl_874 dl_877 ?_
  rw [← e1, ← e2]
  refine lv_aload_n hx hb dl_878 rfl (lv_at hls 3 rfl) ?_
  refine fl_hlp (k := 4) (y := yh_101) (hh := hh_101) (av := [aR 4 655365 0, aI x1, aI x2]) (rest := []) G hM (by decide +kernel) rfl flw_77 flw_78 flw_79 flw_37 (by decide +kernel) (by decide) (Nat.le_of_ble_eq_true rfl) hce hV hls.1 dl_879 (fun r v1 M1 H1 hq1 hV1 => ?_)
  obtain ⟨q1, q2, q3, q4⟩ := hq r v1 M1 hq1
  refine lv_istore (lv' := (5, .int r) :: fl_L E b qo n) hx hb dl_882 hls (by omega) rfl (fun ls1 hl1 => ?_)
  refine lv_aload_n hx hb dl_884 rfl (lv_at hl1 3 rfl) ?_
  have hVV := hV1
  refine fl_arg (k := 1) (n := n) G hVV.2.2 (by omega) (by decide +kernel) (lv_at hl1 1 rfl) (lv_at hl1 5 rfl) dl_885 dl_886 dl_888 dl_889 dl_890 ?_
  refine fl_arg (k := 2) (n := n) G hVV.2.2 (by omega) (by decide +kernel) (lv_at hl1 1 rfl) (lv_at hl1 5 rfl) dl_891 dl_892 dl_894 dl_895 dl_896 ?_
  refine fl_bool G dl_897 dl_900 dl_901 dl_904 ?_
  rw [← e1, ← e2]
  refine fl_call (k := 2) (y2 := y_265) (q := (5, 819253, 0)) (ci := 6) (As := [aI x1, aI x2]) (rest := []) (QE := ux_CI (fun a M' => a = r_265 x1 x2 M1 ∧ M' = m_265 x1 x2 M1)) G (by decide +kernel) flw_74 flw_75 flw_76 (by decide +kernel) (by decide) rfl (by decide) rfl rfl (fun v hv => by
      simp only [List.mem_cons, List.not_mem_nil, or_false] at hv
      rcases hv with rfl | rfl <;> trivial) (Nat.le_of_ble_eq_true rfl) (sf_265 hS (d := 0) x1 x2 M1 q1 ⟨rfl, rfl⟩) (by decide) hce hV1 hl1.1 dl_905 (fun r2 M2 H2 hq2 hV2 => ?_)
  obtain ⟨a, rfl, rfl, rfl⟩ := hq2
  exact fl_tail (n := n) (pc := 908) G hS hV2 q2 q4 hl1 hce dl_908 dl_910 dl_911 dl_914 dl_916 dl_921 dl_923 dl_926 dl_927 dl_928 dl_929 dl_931 dl_932 dl_933 dl_938 (by decide) (fun H3 ls3 hV3 hl3 => kk H3 ls3 _ _ hV3 q3 hl3)
set_option maxRecDepth 20000 in
theorem fl_k13 {p : Program} {l : Launch} {E : ux_E} {e : Env} {s : State} {m : MethodId} {args : Array Value} {below : List Frame} {meth : Method} {c : Code} {H : Heap} {cells slots : Nat} {Q : State → Prop} {M : ux_M} {b L qo n : Nat} {xs : Nat → Int32} {ls : Array Slot} {v : Int64} (G : fl_G E p s m args c b L xs qo) (hS : ux_SpecOK l E ux_chs) (hE : ux_THok E) (hst : l.stackTraces = false) (hV : fl_V E s qo v M H) (hQ : z_Q n M) (hn : n ≤ 600) (h4 : 4 * n + 4 ≤ L) (hls : lv_has ls 7 (fl_L E b qo n)) (hce : cells + 1 ≤ 601024 ∧ slots + 6 ≤ 7293034)
    (kk : ∀ (H1 : Heap) (ls1 : Array Slot) (M1 : ux_M) (v1 : Int64), fl_V E s qo v1 M1 H1 → z_Q (n + 1) M1 → lv_has ls1 7 (fl_L E b qo n) → W p l e room_1 s m args below meth c H1 [] (cells + 1) (slots + 6) Q (F0 m 3025 ls1 [])) : W p l e room_1 s m args below meth c H [] cells slots Q (F0 m 941 ls []) := by
  obtain ⟨hx, hb, hml, hown, hts⟩ := id G.1
  have hL := G.2.2.2.2.2.2.2
  obtain ⟨x1, e1⟩ : ∃ z, z = xs (4 * n + 1) := ⟨_, rfl⟩
  obtain ⟨x2, e2⟩ : ∃ z, z = xs (4 * n + 2) := ⟨_, rfl⟩
  obtain ⟨x3, e3⟩ : ∃ z, z = xs (4 * n + 3) := ⟨_, rfl⟩
  have ok : fl_ok l E yh_102 hh_102 [aR 4 655365 0, aI x1, aI x2, aI x3] qo v n M (fun a => a.toInt64) (p_274 x1 x2 x3) (r_274 x1 x2 x3) (m_274 x1 x2 x3) := by
    by_cases h0 : z_iu M x1
    rotate_left
    · exact fl_okT (z_g_274 hQ h0) (by decide) (ht_102_0 hE G.2.2.2.2.2.2.1 (tx_102_0 hS hE hst h0))
    by_cases h1 : z_rg x2 1 3
    rotate_left
    · exact fl_okT (z_g_274b hQ h0 h1) (by decide) (ht_102_1 hE G.2.2.2.2.2.2.1 (tx_102_1 hS hE hst h0 h1))
    by_cases h2 : z_rg x3 0 4
    rotate_left
    · exact fl_okT (z_g_274c hQ h0 h1 h2) (by decide) (ht_102_1 hE G.2.2.2.2.2.2.1 (tx_102_2 hS hE hst h0 h1 h2))
    exact fl_okN (z_f_102 hQ h0 h1 h2) (fun hp => hn_102 (d := 3) (by omega) G.2.2.2.2.2.2.1 (sf_102 hS (d := 0) x1 x2 x3 M hp ⟨rfl, rfl⟩))
  obtain ⟨QQ, hM, hq⟩ := ok
  have hVV := hV
  refine lv_aload_n hx hb dl_941 rfl (lv_at hls 1 rfl) ?_
  refine fl_arg (k := 1) (n := n) G hVV.2.2 (by omega) (by decide +kernel) (lv_at hls 0 rfl) (lv_at hls 4 rfl) dl_942 dl_943 dl_945 dl_946 dl_947 ?_
  refine fl_arg (k := 2) (n := n) G hVV.2.2 (by omega) (by decide +kernel) (lv_at hls 0 rfl) (lv_at hls 4 rfl) dl_948 dl_949 dl_951 dl_952 dl_953 ?_
  refine fl_arg (k := 3) (n := n) G hVV.2.2 (by omega) (by decide +kernel) (lv_at hls 0 rfl) (lv_at hls 4 rfl) dl_954 dl_955 dl_957 dl_958 dl_959 ?_
  rw [← e1, ← e2, ← e3]
  refine lv_aload_n hx hb dl_960 rfl (lv_at hls 3 rfl) ?_
  refine fl_hlp (k := 5) (y := yh_102) (hh := hh_102) (av := [aR 4 655365 0, aI x1, aI x2, aI x3]) (rest := []) G hM (by decide +kernel) rfl flw_83 flw_84 flw_85 flw_37 (by decide +kernel) (by decide) (Nat.le_of_ble_eq_true rfl) hce hV hls.1 dl_961 (fun r v1 M1 H1 hq1 hV1 => ?_)
  obtain ⟨q1, q2, q3, q4⟩ := hq r v1 M1 hq1
  refine lv_istore (lv' := (5, .int r) :: fl_L E b qo n) hx hb dl_964 hls (by omega) rfl (fun ls1 hl1 => ?_)
  refine lv_aload_n hx hb dl_966 rfl (lv_at hl1 3 rfl) ?_
  have hVV := hV1
  refine fl_arg (k := 1) (n := n) G hVV.2.2 (by omega) (by decide +kernel) (lv_at hl1 1 rfl) (lv_at hl1 5 rfl) dl_967 dl_968 dl_970 dl_971 dl_972 ?_
  refine fl_arg (k := 2) (n := n) G hVV.2.2 (by omega) (by decide +kernel) (lv_at hl1 1 rfl) (lv_at hl1 5 rfl) dl_973 dl_974 dl_976 dl_977 dl_978 ?_
  refine fl_arg (k := 3) (n := n) G hVV.2.2 (by omega) (by decide +kernel) (lv_at hl1 1 rfl) (lv_at hl1 5 rfl) dl_979 dl_980 dl_982 dl_983 dl_984 ?_
  rw [← e1, ← e2, ← e3]
  refine fl_call (k := 3) (y2 := y_274) (q := (5, 819253, 0)) (ci := 6) (As := [aI x1, aI x2, aI x3]) (rest := []) (QE := ux_CI (fun a M' => a = r_274 x1 x2 x3 M1 ∧ M' = m_274 x1 x2 x3 M1)) G (by decide +kernel) flw_80 flw_81 flw_82 (by decide +kernel) (by decide) rfl (by decide) rfl rfl (fun v hv => by
      simp only [List.mem_cons, List.not_mem_nil, or_false] at hv
      rcases hv with rfl | rfl | rfl <;> trivial) (Nat.le_of_ble_eq_true rfl) (sf_274 hS (d := 0) x1 x2 x3 M1 q1 ⟨rfl, rfl⟩) (by decide) hce hV1 hl1.1 dl_985 (fun r2 M2 H2 hq2 hV2 => ?_)
  obtain ⟨a, rfl, rfl, rfl⟩ := hq2
  exact fl_tail (n := n) (pc := 988) G hS hV2 q2 q4 hl1 hce dl_988 dl_990 dl_991 dl_994 dl_996 dl_1001 dl_1003 dl_1006 dl_1007 dl_1008 dl_1009 dl_1011 dl_1012 dl_1013 dl_1018 (by decide) (fun H3 ls3 hV3 hl3 => kk H3 ls3 _ _ hV3 q3 hl3)
set_option maxRecDepth 20000 in
theorem fl_k14 {p : Program} {l : Launch} {E : ux_E} {e : Env} {s : State} {m : MethodId} {args : Array Value} {below : List Frame} {meth : Method} {c : Code} {H : Heap} {cells slots : Nat} {Q : State → Prop} {M : ux_M} {b L qo n : Nat} {xs : Nat → Int32} {ls : Array Slot} {v : Int64} (G : fl_G E p s m args c b L xs qo) (hS : ux_SpecOK l E ux_chs) (hE : ux_THok E) (hst : l.stackTraces = false) (hV : fl_V E s qo v M H) (hQ : z_Q n M) (hn : n ≤ 600) (h4 : 4 * n + 4 ≤ L) (hls : lv_has ls 7 (fl_L E b qo n)) (hce : cells + 1 ≤ 601024 ∧ slots + 6 ≤ 7293034)
    (kk : ∀ (H1 : Heap) (ls1 : Array Slot) (M1 : ux_M) (v1 : Int64), fl_V E s qo v1 M1 H1 → z_Q (n + 1) M1 → lv_has ls1 7 (fl_L E b qo n) → W p l e room_1 s m args below meth c H1 [] (cells + 1) (slots + 6) Q (F0 m 3025 ls1 [])) : W p l e room_1 s m args below meth c H [] cells slots Q (F0 m 1021 ls []) := by
  obtain ⟨hx, hb, hml, hown, hts⟩ := id G.1
  have hL := G.2.2.2.2.2.2.2
  obtain ⟨x1, e1⟩ : ∃ z, z = xs (4 * n + 1) := ⟨_, rfl⟩
  obtain ⟨x2, e2⟩ : ∃ z, z = xs (4 * n + 2) := ⟨_, rfl⟩
  have ok : fl_ok l E yh_104 hh_104 [aR 4 655365 0, aI x1, aI x2] qo v n M (fun a => a.toInt64) (p_277 x1 x2) (r_277 x1 x2) (m_277 x1 x2) := by
    by_cases h0 : z_iu M x1
    rotate_left
    · exact fl_okT (z_g_277 hQ h0) (by decide) (ht_104_0 hE G.2.2.2.2.2.2.1 (tx_104_0 hS hE hst h0))
    by_cases h1 : z_rg x2 1 3
    rotate_left
    · exact fl_okT (z_g_277b hQ h0 h1) (by decide) (ht_104_1 hE G.2.2.2.2.2.2.1 (tx_104_1 hS hE hst h0 h1))
    exact fl_okN (z_f_104 hQ h0 h1) (fun hp => hn_104 (d := 4) (by omega) G.2.2.2.2.2.2.1 (sf_104 hS (d := 0) x1 x2 M hp ⟨rfl, rfl⟩))
  obtain ⟨QQ, hM, hq⟩ := ok
  have hVV := hV
  refine lv_aload_n hx hb dl_1021 rfl (lv_at hls 1 rfl) ?_
  refine fl_arg (k := 1) (n := n) G hVV.2.2 (by omega) (by decide +kernel) (lv_at hls 0 rfl) (lv_at hls 4 rfl) dl_1022 dl_1023 dl_1025 dl_1026 dl_1027 ?_
  refine fl_arg (k := 2) (n := n) G hVV.2.2 (by omega) (by decide +kernel) (lv_at hls 0 rfl) (lv_at hls 4 rfl) dl_1028 dl_1029 dl_1031 dl_1032 dl_1033 ?_
  rw [← e1, ← e2]
  refine lv_aload_n hx hb dl_1034 rfl (lv_at hls 3 rfl) ?_
  refine fl_hlp (k := 4) (y := yh_104) (hh := hh_104) (av := [aR 4 655365 0, aI x1, aI x2]) (rest := []) G hM (by decide +kernel) rfl flw_89 flw_90 flw_91 flw_37 (by decide +kernel) (by decide) (Nat.le_of_ble_eq_true rfl) hce hV hls.1 dl_1035 (fun r v1 M1 H1 hq1 hV1 => ?_)
  obtain ⟨q1, q2, q3, q4⟩ := hq r v1 M1 hq1
  refine lv_istore (lv' := (5, .int r) :: fl_L E b qo n) hx hb dl_1038 hls (by omega) rfl (fun ls1 hl1 => ?_)
  refine lv_aload_n hx hb dl_1040 rfl (lv_at hl1 3 rfl) ?_
  have hVV := hV1
  refine fl_arg (k := 1) (n := n) G hVV.2.2 (by omega) (by decide +kernel) (lv_at hl1 1 rfl) (lv_at hl1 5 rfl) dl_1041 dl_1042 dl_1044 dl_1045 dl_1046 ?_
  refine fl_arg (k := 2) (n := n) G hVV.2.2 (by omega) (by decide +kernel) (lv_at hl1 1 rfl) (lv_at hl1 5 rfl) dl_1047 dl_1048 dl_1050 dl_1051 dl_1052 ?_
  rw [← e1, ← e2]
  refine fl_call (k := 2) (y2 := y_277) (q := (5, 819253, 0)) (ci := 6) (As := [aI x1, aI x2]) (rest := []) (QE := ux_CI (fun a M' => a = r_277 x1 x2 M1 ∧ M' = m_277 x1 x2 M1)) G (by decide +kernel) flw_86 flw_87 flw_88 (by decide +kernel) (by decide) rfl (by decide) rfl rfl (fun v hv => by
      simp only [List.mem_cons, List.not_mem_nil, or_false] at hv
      rcases hv with rfl | rfl <;> trivial) (Nat.le_of_ble_eq_true rfl) (sf_277 hS (d := 0) x1 x2 M1 q1 ⟨rfl, rfl⟩) (by decide) hce hV1 hl1.1 dl_1053 (fun r2 M2 H2 hq2 hV2 => ?_)
  obtain ⟨a, rfl, rfl, rfl⟩ := hq2
  exact fl_tail (n := n) (pc := 1056) G hS hV2 q2 q4 hl1 hce dl_1056 dl_1058 dl_1059 dl_1062 dl_1064 dl_1069 dl_1071 dl_1074 dl_1075 dl_1076 dl_1077 dl_1079 dl_1080 dl_1081 dl_1086 (by decide) (fun H3 ls3 hV3 hl3 => kk H3 ls3 _ _ hV3 q3 hl3)
set_option maxRecDepth 20000 in
theorem fl_k15 {p : Program} {l : Launch} {E : ux_E} {e : Env} {s : State} {m : MethodId} {args : Array Value} {below : List Frame} {meth : Method} {c : Code} {H : Heap} {cells slots : Nat} {Q : State → Prop} {M : ux_M} {b L qo n : Nat} {xs : Nat → Int32} {ls : Array Slot} {v : Int64} (G : fl_G E p s m args c b L xs qo) (hS : ux_SpecOK l E ux_chs) (hE : ux_THok E) (hst : l.stackTraces = false) (hV : fl_V E s qo v M H) (hQ : z_Q n M) (hn : n ≤ 600) (h4 : 4 * n + 4 ≤ L) (hls : lv_has ls 7 (fl_L E b qo n)) (hce : cells + 1 ≤ 601024 ∧ slots + 6 ≤ 7293034)
    (kk : ∀ (H1 : Heap) (ls1 : Array Slot) (M1 : ux_M) (v1 : Int64), fl_V E s qo v1 M1 H1 → z_Q (n + 1) M1 → lv_has ls1 7 (fl_L E b qo n) → W p l e room_1 s m args below meth c H1 [] (cells + 1) (slots + 6) Q (F0 m 3025 ls1 [])) : W p l e room_1 s m args below meth c H [] cells slots Q (F0 m 1089 ls []) := by
  obtain ⟨hx, hb, hml, hown, hts⟩ := id G.1
  have hL := G.2.2.2.2.2.2.2
  obtain ⟨x1, e1⟩ : ∃ z, z = xs (4 * n + 1) := ⟨_, rfl⟩
  have ok : fl_ok l E yh_108 hh_108 [aR 4 655365 0, aI x1] qo v n M (fun a => a.toInt64) (p_266 x1) (r_266 x1) (m_266 x1) := by
    by_cases h0 : z_iu M x1
    rotate_left
    · exact fl_okT (z_g_266 hQ h0) (by decide) (ht_108_0 hE G.2.2.2.2.2.2.1 (tx_108_0 hS hE hst h0))
    exact fl_okN (z_f_108 hQ hn h0) (fun hp => hn_108 (d := 26) (by omega) G.2.2.2.2.2.2.1 (sf_108 hS (d := 0) x1 M hp ⟨rfl, rfl⟩))
  obtain ⟨QQ, hM, hq⟩ := ok
  have hVV := hV
  refine lv_aload_n hx hb dl_1089 rfl (lv_at hls 1 rfl) ?_
  refine fl_arg (k := 1) (n := n) G hVV.2.2 (by omega) (by decide +kernel) (lv_at hls 0 rfl) (lv_at hls 4 rfl) dl_1090 dl_1091 dl_1093 dl_1094 dl_1095 ?_
  rw [← e1]
  refine lv_aload_n hx hb dl_1096 rfl (lv_at hls 3 rfl) ?_
  refine fl_hlp (k := 3) (y := yh_108) (hh := hh_108) (av := [aR 4 655365 0, aI x1]) (rest := []) G hM (by decide +kernel) rfl flw_95 flw_96 flw_97 flw_37 (by decide +kernel) (by decide) (Nat.le_of_ble_eq_true rfl) hce hV hls.1 dl_1097 (fun r v1 M1 H1 hq1 hV1 => ?_)
  obtain ⟨q1, q2, q3, q4⟩ := hq r v1 M1 hq1
  refine lv_istore (lv' := (5, .int r) :: fl_L E b qo n) hx hb dl_1100 hls (by omega) rfl (fun ls1 hl1 => ?_)
  refine lv_aload_n hx hb dl_1102 rfl (lv_at hl1 3 rfl) ?_
  have hVV := hV1
  refine fl_arg (k := 1) (n := n) G hVV.2.2 (by omega) (by decide +kernel) (lv_at hl1 1 rfl) (lv_at hl1 5 rfl) dl_1103 dl_1104 dl_1106 dl_1107 dl_1108 ?_
  rw [← e1]
  refine fl_call (k := 1) (y2 := y_266) (q := (5, 819253, 0)) (ci := 6) (As := [aI x1]) (rest := []) (QE := ux_CI (fun a M' => a = r_266 x1 M1 ∧ M' = m_266 x1 M1)) G (by decide +kernel) flw_92 flw_93 flw_94 (by decide +kernel) (by decide) rfl (by decide) rfl rfl (fun v hv => by rw [List.mem_singleton.mp hv]; trivial) (Nat.le_of_ble_eq_true rfl) (sf_266 hS (d := 0) x1 M1 q1 ⟨rfl, rfl⟩) (by decide) hce hV1 hl1.1 dl_1109 (fun r2 M2 H2 hq2 hV2 => ?_)
  obtain ⟨a, rfl, rfl, rfl⟩ := hq2
  exact fl_tail (n := n) (pc := 1112) G hS hV2 q2 q4 hl1 hce dl_1112 dl_1114 dl_1115 dl_1118 dl_1120 dl_1125 dl_1127 dl_1130 dl_1131 dl_1132 dl_1133 dl_1135 dl_1136 dl_1137 dl_1142 (by decide) (fun H3 ls3 hV3 hl3 => kk H3 ls3 _ _ hV3 q3 hl3)
set_option maxRecDepth 20000 in
theorem fl_k16 {p : Program} {l : Launch} {E : ux_E} {e : Env} {s : State} {m : MethodId} {args : Array Value} {below : List Frame} {meth : Method} {c : Code} {H : Heap} {cells slots : Nat} {Q : State → Prop} {M : ux_M} {b L qo n : Nat} {xs : Nat → Int32} {ls : Array Slot} {v : Int64} (G : fl_G E p s m args c b L xs qo) (hS : ux_SpecOK l E ux_chs) (hE : ux_THok E) (hst : l.stackTraces = false) (hV : fl_V E s qo v M H) (hQ : z_Q n M) (hn : n ≤ 600) (h4 : 4 * n + 4 ≤ L) (hls : lv_has ls 7 (fl_L E b qo n)) (hce : cells + 1 ≤ 601024 ∧ slots + 6 ≤ 7293034)
    (kk : ∀ (H1 : Heap) (ls1 : Array Slot) (M1 : ux_M) (v1 : Int64), fl_V E s qo v1 M1 H1 → z_Q (n + 1) M1 → lv_has ls1 7 (fl_L E b qo n) → W p l e room_1 s m args below meth c H1 [] (cells + 1) (slots + 6) Q (F0 m 3025 ls1 [])) : W p l e room_1 s m args below meth c H [] cells slots Q (F0 m 1145 ls []) := by
  obtain ⟨hx, hb, hml, hown, hts⟩ := id G.1
  have hL := G.2.2.2.2.2.2.2
  obtain ⟨x1, e1⟩ : ∃ z, z = xs (4 * n + 1) := ⟨_, rfl⟩
  have ok : fl_ok l E yh_110 hh_110 [aR 4 655365 0, aI x1] qo v n M (fun a => a.toInt64) (p_252 x1) (r_252 x1) (m_252 x1) := by
    by_cases h0 : z_iu M x1
    rotate_left
    · exact fl_okT (z_g_252 hQ h0) (by decide) (ht_110_0 hE G.2.2.2.2.2.2.1 (tx_110_0 hS hE hst h0))
    exact fl_okN (z_f_110 hQ h0) (fun hp => hn_110 (d := 2) (by omega) G.2.2.2.2.2.2.1 (sf_110 hS (d := 0) x1 M hp ⟨rfl, rfl⟩))
  obtain ⟨QQ, hM, hq⟩ := ok
  have hVV := hV
  refine lv_aload_n hx hb dl_1145 rfl (lv_at hls 1 rfl) ?_
  refine fl_arg (k := 1) (n := n) G hVV.2.2 (by omega) (by decide +kernel) (lv_at hls 0 rfl) (lv_at hls 4 rfl) dl_1146 dl_1147 dl_1149 dl_1150 dl_1151 ?_
  rw [← e1]
  refine lv_aload_n hx hb dl_1152 rfl (lv_at hls 3 rfl) ?_
  refine fl_hlp (k := 3) (y := yh_110) (hh := hh_110) (av := [aR 4 655365 0, aI x1]) (rest := []) G hM (by decide +kernel) rfl flw_101 flw_102 flw_103 flw_37 (by decide +kernel) (by decide) (Nat.le_of_ble_eq_true rfl) hce hV hls.1 dl_1153 (fun r v1 M1 H1 hq1 hV1 => ?_)
  obtain ⟨q1, q2, q3, q4⟩ := hq r v1 M1 hq1
  refine lv_istore (lv' := (5, .int r) :: fl_L E b qo n) hx hb dl_1156 hls (by omega) rfl (fun ls1 hl1 => ?_)
  refine lv_aload_n hx hb dl_1158 rfl (lv_at hl1 3 rfl) ?_
  have hVV := hV1
  refine fl_arg (k := 1) (n := n) G hVV.2.2 (by omega) (by decide +kernel) (lv_at hl1 1 rfl) (lv_at hl1 5 rfl) dl_1159 dl_1160 dl_1162 dl_1163 dl_1164 ?_
  rw [← e1]
  refine fl_call (k := 1) (y2 := y_252) (q := (5, 819253, 0)) (ci := 6) (As := [aI x1]) (rest := []) (QE := ux_CI (fun a M' => a = r_252 x1 M1 ∧ M' = m_252 x1 M1)) G (by decide +kernel) flw_98 flw_99 flw_100 (by decide +kernel) (by decide) rfl (by decide) rfl rfl (fun v hv => by rw [List.mem_singleton.mp hv]; trivial) (Nat.le_of_ble_eq_true rfl) (sf_252 hS (d := 0) x1 M1 q1 ⟨rfl, rfl⟩) (by decide) hce hV1 hl1.1 dl_1165 (fun r2 M2 H2 hq2 hV2 => ?_)
  obtain ⟨a, rfl, rfl, rfl⟩ := hq2
  exact fl_tail (n := n) (pc := 1168) G hS hV2 q2 q4 hl1 hce dl_1168 dl_1170 dl_1171 dl_1174 dl_1176 dl_1181 dl_1183 dl_1186 dl_1187 dl_1188 dl_1189 dl_1191 dl_1192 dl_1193 dl_1198 (by decide) (fun H3 ls3 hV3 hl3 => kk H3 ls3 _ _ hV3 q3 hl3)
set_option maxRecDepth 20000 in
theorem fl_k17 {p : Program} {l : Launch} {E : ux_E} {e : Env} {s : State} {m : MethodId} {args : Array Value} {below : List Frame} {meth : Method} {c : Code} {H : Heap} {cells slots : Nat} {Q : State → Prop} {M : ux_M} {b L qo n : Nat} {xs : Nat → Int32} {ls : Array Slot} {v : Int64} (G : fl_G E p s m args c b L xs qo) (hS : ux_SpecOK l E ux_chs) (hE : ux_THok E) (hst : l.stackTraces = false) (hV : fl_V E s qo v M H) (hQ : z_Q n M) (hn : n ≤ 600) (h4 : 4 * n + 4 ≤ L) (hls : lv_has ls 7 (fl_L E b qo n)) (hce : cells + 1 ≤ 601024 ∧ slots + 6 ≤ 7293034)
    (kk : ∀ (H1 : Heap) (ls1 : Array Slot) (M1 : ux_M) (v1 : Int64), fl_V E s qo v1 M1 H1 → z_Q (n + 1) M1 → lv_has ls1 7 (fl_L E b qo n) → W p l e room_1 s m args below meth c H1 [] (cells + 1) (slots + 6) Q (F0 m 3025 ls1 [])) : W p l e room_1 s m args below meth c H [] cells slots Q (F0 m 1201 ls []) := by
  obtain ⟨hx, hb, hml, hown, hts⟩ := id G.1
  have hL := G.2.2.2.2.2.2.2
  obtain ⟨x1, e1⟩ : ∃ z, z = xs (4 * n + 1) := ⟨_, rfl⟩
  have ok : fl_ok l E yh_111 hh_111 [aR 4 655365 0, aI x1] qo v n M (fl_c) (p_253 x1) (r_253 x1) (m_253 x1) := by
    by_cases h0 : z_iu M x1
    rotate_left
    · exact fl_okT (z_g_253 hQ h0) (by decide) (ht_111_0 hE G.2.2.2.2.2.2.1 (tx_111_0 hS hE hst h0))
    exact fl_okN (z_f_111 hQ h0) (fun hp => hn_111 (d := 1) (by omega) G.2.2.2.2.2.2.1 (sf_111 hS (d := 0) x1 M hp ⟨rfl, rfl⟩))
  obtain ⟨QQ, hM, hq⟩ := ok
  have hVV := hV
  refine lv_aload_n hx hb dl_1201 rfl (lv_at hls 1 rfl) ?_
  refine fl_arg (k := 1) (n := n) G hVV.2.2 (by omega) (by decide +kernel) (lv_at hls 0 rfl) (lv_at hls 4 rfl) dl_1202 dl_1203 dl_1205 dl_1206 dl_1207 ?_
  rw [← e1]
  refine lv_aload_n hx hb dl_1208 rfl (lv_at hls 3 rfl) ?_
  refine fl_hlp (k := 3) (y := yh_111) (hh := hh_111) (av := [aR 4 655365 0, aI x1]) (rest := []) G hM (by decide +kernel) rfl flw_107 flw_108 flw_109 flw_37 (by decide +kernel) (by decide) (Nat.le_of_ble_eq_true rfl) hce hV hls.1 dl_1209 (fun r v1 M1 H1 hq1 hV1 => ?_)
  obtain ⟨q1, q2, q3, q4⟩ := hq r v1 M1 hq1
  refine lv_istore (lv' := (5, .int r) :: fl_L E b qo n) hx hb dl_1212 hls (by omega) rfl (fun ls1 hl1 => ?_)
  refine lv_aload_n hx hb dl_1214 rfl (lv_at hl1 3 rfl) ?_
  have hVV := hV1
  refine fl_arg (k := 1) (n := n) G hVV.2.2 (by omega) (by decide +kernel) (lv_at hl1 1 rfl) (lv_at hl1 5 rfl) dl_1215 dl_1216 dl_1218 dl_1219 dl_1220 ?_
  rw [← e1]
  refine fl_call (k := 1) (y2 := y_253) (q := (5, 819253, 0)) (ci := 6) (As := [aI x1]) (rest := []) (QE := ux_CI (fun a M' => a = r_253 x1 M1 ∧ M' = m_253 x1 M1)) G (by decide +kernel) flw_104 flw_105 flw_106 (by decide +kernel) (by decide) rfl (by decide) rfl rfl (fun v hv => by rw [List.mem_singleton.mp hv]; trivial) (Nat.le_of_ble_eq_true rfl) (sf_253 hS (d := 0) x1 M1 q1 ⟨rfl, rfl⟩) (by decide) hce hV1 hl1.1 dl_1221 (fun r2 M2 H2 hq2 hV2 => ?_)
  obtain ⟨a, rfl, rfl, rfl⟩ := hq2
  exact fl_tailZ (n := n) (pc := 1224) G hS hV2 q2 q4 hl1 hce dl_1224 dl_1226 dl_1227 dl_1230 dl_1232 dl_1237 dl_1239 dl_1242 dl_1243 dl_1244 dl_1245 dl_1247 dl_1250 dl_1251 dl_1254 dl_1255 dl_1256 dl_1261 (by decide) (fun H3 ls3 hV3 hl3 => kk H3 ls3 _ _ hV3 q3 hl3)
set_option maxRecDepth 20000 in
theorem fl_k18 {p : Program} {l : Launch} {E : ux_E} {e : Env} {s : State} {m : MethodId} {args : Array Value} {below : List Frame} {meth : Method} {c : Code} {H : Heap} {cells slots : Nat} {Q : State → Prop} {M : ux_M} {b L qo n : Nat} {xs : Nat → Int32} {ls : Array Slot} {v : Int64} (G : fl_G E p s m args c b L xs qo) (hS : ux_SpecOK l E ux_chs) (hE : ux_THok E) (hst : l.stackTraces = false) (hV : fl_V E s qo v M H) (hQ : z_Q n M) (hn : n ≤ 600) (h4 : 4 * n + 4 ≤ L) (hls : lv_has ls 7 (fl_L E b qo n)) (hce : cells + 1 ≤ 601024 ∧ slots + 6 ≤ 7293034)
    (kk : ∀ (H1 : Heap) (ls1 : Array Slot) (M1 : ux_M) (v1 : Int64), fl_V E s qo v1 M1 H1 → z_Q (n + 1) M1 → lv_has ls1 7 (fl_L E b qo n) → W p l e room_1 s m args below meth c H1 [] (cells + 1) (slots + 6) Q (F0 m 3025 ls1 [])) : W p l e room_1 s m args below meth c H [] cells slots Q (F0 m 1264 ls []) := by
  obtain ⟨hx, hb, hml, hown, hts⟩ := id G.1
  have hL := G.2.2.2.2.2.2.2
  obtain ⟨x1, e1⟩ : ∃ z, z = xs (4 * n + 1) := ⟨_, rfl⟩
  have ok : fl_ok l E yh_112 hh_112 [aR 4 655365 0, aI x1] qo v n M (fun a => a.toInt64) (p_255 x1) (r_255 x1) (m_255 x1) := by
    by_cases h0 : z_iu M x1
    rotate_left
    · exact fl_okT (z_g_255 hQ h0) (by decide) (ht_112_0 hE G.2.2.2.2.2.2.1 (tx_112_0 hS hE hst h0))
    exact fl_okN (z_f_112 hQ h0) (fun hp => hn_112 (d := 1) (by omega) G.2.2.2.2.2.2.1 (sf_112 hS (d := 0) x1 M hp ⟨rfl, rfl⟩))
  obtain ⟨QQ, hM, hq⟩ := ok
  have hVV := hV
  refine lv_aload_n hx hb dl_1264 rfl (lv_at hls 1 rfl) ?_
  refine fl_arg (k := 1) (n := n) G hVV.2.2 (by omega) (by decide +kernel) (lv_at hls 0 rfl) (lv_at hls 4 rfl) dl_1265 dl_1266 dl_1268 dl_1269 dl_1270 ?_
  rw [← e1]
  refine lv_aload_n hx hb dl_1271 rfl (lv_at hls 3 rfl) ?_
  refine fl_hlp (k := 3) (y := yh_112) (hh := hh_112) (av := [aR 4 655365 0, aI x1]) (rest := []) G hM (by decide +kernel) rfl flw_113 flw_114 flw_115 flw_37 (by decide +kernel) (by decide) (Nat.le_of_ble_eq_true rfl) hce hV hls.1 dl_1272 (fun r v1 M1 H1 hq1 hV1 => ?_)
  obtain ⟨q1, q2, q3, q4⟩ := hq r v1 M1 hq1
  refine lv_istore (lv' := (5, .int r) :: fl_L E b qo n) hx hb dl_1275 hls (by omega) rfl (fun ls1 hl1 => ?_)
  refine lv_aload_n hx hb dl_1277 rfl (lv_at hl1 3 rfl) ?_
  have hVV := hV1
  refine fl_arg (k := 1) (n := n) G hVV.2.2 (by omega) (by decide +kernel) (lv_at hl1 1 rfl) (lv_at hl1 5 rfl) dl_1278 dl_1279 dl_1281 dl_1282 dl_1283 ?_
  rw [← e1]
  refine fl_call (k := 1) (y2 := y_255) (q := (5, 819253, 0)) (ci := 6) (As := [aI x1]) (rest := []) (QE := ux_CI (fun a M' => a = r_255 x1 M1 ∧ M' = m_255 x1 M1)) G (by decide +kernel) flw_110 flw_111 flw_112 (by decide +kernel) (by decide) rfl (by decide) rfl rfl (fun v hv => by rw [List.mem_singleton.mp hv]; trivial) (Nat.le_of_ble_eq_true rfl) (sf_255 hS (d := 0) x1 M1 q1 ⟨rfl, rfl⟩) (by decide) hce hV1 hl1.1 dl_1284 (fun r2 M2 H2 hq2 hV2 => ?_)
  obtain ⟨a, rfl, rfl, rfl⟩ := hq2
  exact fl_tail (n := n) (pc := 1287) G hS hV2 q2 q4 hl1 hce dl_1287 dl_1289 dl_1290 dl_1293 dl_1295 dl_1300 dl_1302 dl_1305 dl_1306 dl_1307 dl_1308 dl_1310 dl_1311 dl_1312 dl_1317 (by decide) (fun H3 ls3 hV3 hl3 => kk H3 ls3 _ _ hV3 q3 hl3)
set_option maxRecDepth 20000 in
theorem fl_k19 {p : Program} {l : Launch} {E : ux_E} {e : Env} {s : State} {m : MethodId} {args : Array Value} {below : List Frame} {meth : Method} {c : Code} {H : Heap} {cells slots : Nat} {Q : State → Prop} {M : ux_M} {b L qo n : Nat} {xs : Nat → Int32} {ls : Array Slot} {v : Int64} (G : fl_G E p s m args c b L xs qo) (hS : ux_SpecOK l E ux_chs) (hE : ux_THok E) (hst : l.stackTraces = false) (hV : fl_V E s qo v M H) (hQ : z_Q n M) (hn : n ≤ 600) (h4 : 4 * n + 4 ≤ L) (hls : lv_has ls 7 (fl_L E b qo n)) (hce : cells + 1 ≤ 601024 ∧ slots + 6 ≤ 7293034)
    (kk : ∀ (H1 : Heap) (ls1 : Array Slot) (M1 : ux_M) (v1 : Int64), fl_V E s qo v1 M1 H1 → z_Q (n + 1) M1 → lv_has ls1 7 (fl_L E b qo n) → W p l e room_1 s m args below meth c H1 [] (cells + 1) (slots + 6) Q (F0 m 3025 ls1 [])) : W p l e room_1 s m args below meth c H [] cells slots Q (F0 m 1320 ls []) := by
  obtain ⟨hx, hb, hml, hown, hts⟩ := id G.1
  have hL := G.2.2.2.2.2.2.2
  have hVV := hV
  refine lv_aload_n hx hb dl_1320 rfl (lv_at hls 1 rfl) ?_
  obtain ⟨o1, o2, o3, o4, o5⟩ := z_f_34 hQ
  refine fl_call (k := 0) (y2 := y_34) (q := (4, 655365, 0)) (ci := 0) (As := []) (rest := []) (QE := ux_CI (fun a M' => a = r_34 M ∧ M = M')) G (by decide +kernel) flw_116 flw_117 flw_118 (by decide +kernel) (by decide) rfl (by decide) rfl rfl (fun v hv => by cases hv) (Nat.le_of_ble_eq_true rfl) (sf_34 hS (d := 0) M o1 ⟨rfl, rfl⟩) (by decide) ⟨by omega, by omega⟩ hV hls.1 dl_1321 (fun r1 M1 H1 hq1 hV1 => ?_)
  obtain ⟨a1, rfl, rfl, rfl⟩ := hq1
  have hVV := hV1
  refine lv_aload_n hx hb dl_1324 rfl (lv_at hls 2 rfl) ?_
  refine fl_call (k := 0) (y2 := y_256) (q := (5, 819253, 0)) (ci := 6) (As := []) (rest := [.int _]) (QE := ux_CI (fun a M' => a = r_256 M ∧ m_256 M = M')) G (by decide +kernel) flw_119 flw_120 flw_121 (by decide +kernel) (by decide) rfl (by decide) rfl rfl (fun v hv => by cases hv) (Nat.le_of_ble_eq_true rfl) (sf_256 hS (d := 0) M o2 ⟨rfl, rfl⟩) (by decide) ⟨by omega, by omega⟩ hV1 hls.1 dl_1325 (fun r2 M2 H2 hq2 hV2 => ?_)
  obtain ⟨a2, rfl, rfl, rfl⟩ := hq2
  refine lv_icmp_eq (tgt := 3025) hx hb dl_1328 (by decide) (fun _ => ?_) (fun z => absurd o3 z)
  exact W.widen (k := cells + 1) (n := slots + 6) (by omega) (by omega) (kk H2 ls _ _ hV2 o5 hls)
set_option maxRecDepth 20000 in
theorem fl_k20 {p : Program} {l : Launch} {E : ux_E} {e : Env} {s : State} {m : MethodId} {args : Array Value} {below : List Frame} {meth : Method} {c : Code} {H : Heap} {cells slots : Nat} {Q : State → Prop} {M : ux_M} {b L qo n : Nat} {xs : Nat → Int32} {ls : Array Slot} {v : Int64} (G : fl_G E p s m args c b L xs qo) (hS : ux_SpecOK l E ux_chs) (hE : ux_THok E) (hst : l.stackTraces = false) (hV : fl_V E s qo v M H) (hQ : z_Q n M) (hn : n ≤ 600) (h4 : 4 * n + 4 ≤ L) (hls : lv_has ls 7 (fl_L E b qo n)) (hce : cells + 1 ≤ 601024 ∧ slots + 6 ≤ 7293034)
    (kk : ∀ (H1 : Heap) (ls1 : Array Slot) (M1 : ux_M) (v1 : Int64), fl_V E s qo v1 M1 H1 → z_Q (n + 1) M1 → lv_has ls1 7 (fl_L E b qo n) → W p l e room_1 s m args below meth c H1 [] (cells + 1) (slots + 6) Q (F0 m 3025 ls1 [])) : W p l e room_1 s m args below meth c H [] cells slots Q (F0 m 1333 ls []) := by
  obtain ⟨hx, hb, hml, hown, hts⟩ := id G.1
  have hL := G.2.2.2.2.2.2.2
  obtain ⟨x1, e1⟩ : ∃ z, z = xs (4 * n + 1) := ⟨_, rfl⟩
  have ok : fl_ok l E yh_113 hh_113 [aR 4 655365 0, aI x1] qo v n M (fun a => a.toInt64) (p_254 x1) (r_254 x1) (m_254 x1) := by
    by_cases h0 : z_iu M x1
    rotate_left
    · exact fl_okT (z_g_254 hQ h0) (by decide) (ht_113_0 hE G.2.2.2.2.2.2.1 (tx_113_0 hS hE hst h0))
    exact fl_okN (z_f_113 hQ h0) (fun hp => hn_113 (d := 1) (by omega) G.2.2.2.2.2.2.1 (sf_113 hS (d := 0) x1 M hp ⟨rfl, rfl⟩))
  obtain ⟨QQ, hM, hq⟩ := ok
  have hVV := hV
  refine lv_aload_n hx hb dl_1333 rfl (lv_at hls 1 rfl) ?_
  refine fl_arg (k := 1) (n := n) G hVV.2.2 (by omega) (by decide +kernel) (lv_at hls 0 rfl) (lv_at hls 4 rfl) dl_1334 dl_1335 dl_1337 dl_1338 dl_1339 ?_
  rw [← e1]
  refine lv_aload_n hx hb dl_1340 rfl (lv_at hls 3 rfl) ?_
  refine fl_hlp (k := 3) (y := yh_113) (hh := hh_113) (av := [aR 4 655365 0, aI x1]) (rest := []) G hM (by decide +kernel) rfl flw_125 flw_126 flw_127 flw_37 (by decide +kernel) (by decide) (Nat.le_of_ble_eq_true rfl) hce hV hls.1 dl_1341 (fun r v1 M1 H1 hq1 hV1 => ?_)
  obtain ⟨q1, q2, q3, q4⟩ := hq r v1 M1 hq1
  refine lv_istore (lv' := (5, .int r) :: fl_L E b qo n) hx hb dl_1344 hls (by omega) rfl (fun ls1 hl1 => ?_)
  refine lv_aload_n hx hb dl_1346 rfl (lv_at hl1 3 rfl) ?_
  have hVV := hV1
  refine fl_arg (k := 1) (n := n) G hVV.2.2 (by omega) (by decide +kernel) (lv_at hl1 1 rfl) (lv_at hl1 5 rfl) dl_1347 dl_1348 dl_1350 dl_1351 dl_1352 ?_
  rw [← e1]
  refine fl_call (k := 1) (y2 := y_254) (q := (5, 819253, 0)) (ci := 6) (As := [aI x1]) (rest := []) (QE := ux_CI (fun a M' => a = r_254 x1 M1 ∧ M' = m_254 x1 M1)) G (by decide +kernel) flw_122 flw_123 flw_124 (by decide +kernel) (by decide) rfl (by decide) rfl rfl (fun v hv => by rw [List.mem_singleton.mp hv]; trivial) (Nat.le_of_ble_eq_true rfl) (sf_254 hS (d := 0) x1 M1 q1 ⟨rfl, rfl⟩) (by decide) hce hV1 hl1.1 dl_1353 (fun r2 M2 H2 hq2 hV2 => ?_)
  obtain ⟨a, rfl, rfl, rfl⟩ := hq2
  exact fl_tail (n := n) (pc := 1356) G hS hV2 q2 q4 hl1 hce dl_1356 dl_1358 dl_1359 dl_1362 dl_1364 dl_1369 dl_1371 dl_1374 dl_1375 dl_1376 dl_1377 dl_1379 dl_1380 dl_1381 dl_1386 (by decide) (fun H3 ls3 hV3 hl3 => kk H3 ls3 _ _ hV3 q3 hl3)
