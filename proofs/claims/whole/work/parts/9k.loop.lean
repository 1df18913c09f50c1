/-! THE LAW, 6: its loop (by wip/whole/gen9k.py) -/
theorem fl_63 (x : Int32) : ∃ j : Nat, j < 64 ∧ x &&& 63 = nI j := by
  refine ⟨(x &&& 63).toBitVec.toNat, ?_, ?_⟩
  · have e : (x &&& 63).toBitVec = x.toBitVec &&& 63#32 := rfl
    rw [e, BitVec.toNat_and]
    exact Nat.lt_of_le_of_lt Nat.and_le_right (by decide)
  · unfold nI
    apply Int32.toBitVec_inj.mp
    show (x &&& 63).toBitVec = BitVec.ofNat 32 (x &&& 63).toBitVec.toNat
    rw [BitVec.ofNat_toNat, BitVec.setWidth_eq]
theorem fl_gt {L n : Nat} (hL : L ≤ 2048) (hn : 4 * n ≤ L) (h : ¬ nI L - 4 < nI (4 * n)) : 4 * n + 4 ≤ L := by
  by_cases h4 : 4 ≤ L
  · obtain ⟨q, rfl⟩ : ∃ q, L = q + 4 := ⟨L - 4, by omega⟩
    have e : nI (q + 4) - 4 = nI q := by
      rw [← z_add]
      exact Int32.add_sub_cancel _ _
    rw [e] at h
    by_cases hq : q < 4 * n
    · exact absurd ((z_lt (a := q) (b := 4 * n) (by omega) (by omega)).mpr hq) h
    · omega
  · have hn0 : n = 0 := by omega
    subst hn0
    exfalso
    have : L = 0 ∨ L = 1 ∨ L = 2 ∨ L = 3 := by omega
    rcases this with rfl | rfl | rfl | rfl <;> exact h (by decide +kernel)
section FLK
variable {p : Program} {l : Launch} {E : ux_E} {e : Env} {s : State} {m : MethodId} {args : Array Value} {below : List Frame} {meth : Method} {c : Code} {H : Heap} {cells slots : Nat} {Q : State → Prop} {M : ux_M} {b L qo n j : Nat} {xs : Nat → Int32} {ls : Array Slot} {v : Int64}
/-- one call of the script -/
theorem fl_call1 (G : fl_G E p s m args c b L xs qo) (hS : ux_SpecOK l E ux_chs) (hE : ux_THok E) (hst : l.stackTraces = false) (hV : fl_V E s qo v M H) (hQ : z_Q n M) (hn : n ≤ 600) (h4 : 4 * n + 4 ≤ L) (hls : lv_has ls 7 (fl_L E b qo n)) (hce : cells + 1 ≤ 601024 ∧ slots + 6 ≤ 7293034) (hj : j < 64)
    (kk : ∀ (H1 : Heap) (ls1 : Array Slot) (M1 : ux_M) (v1 : Int64), fl_V E s qo v1 M1 H1 → z_Q (n + 1) M1 → lv_has ls1 7 (fl_L E b qo n) → W p l e room_1 s m args below meth c H1 [] (cells + 1) (slots + 6) Q (F0 m 3025 ls1 [])) : W p l e room_1 s m args below meth c H [] cells slots Q (F0 m 39 ls [.int (nI j)]) := by
  obtain ⟨hx, hb, -⟩ := id G.1
  have hd : W p l e room_1 s m args below meth c H [] cells slots Q (F0 m 3025 ls []) := W.widen (k := cells + 1) (n := slots + 6) (by omega) (by omega) (kk H ls M v hV (hQ.fr (Nat.le_succ n) z_fT.rf) hls)
  have : j = 0 ∨ j = 1 ∨ j = 2 ∨ j = 3 ∨ j = 4 ∨ j = 5 ∨ j = 6 ∨ j = 7 ∨ j = 8 ∨ j = 9 ∨ j = 10 ∨ j = 11 ∨ j = 12 ∨ j = 13 ∨ j = 14 ∨ j = 15 ∨ j = 16 ∨ j = 17 ∨ j = 18 ∨ j = 19 ∨ j = 20 ∨ j = 21 ∨ j = 22 ∨ j = 23 ∨ j = 24 ∨ j = 25 ∨ j = 26 ∨ j = 27 ∨ j = 28 ∨ j = 29 ∨ j = 30 ∨ j = 31 ∨ j = 32 ∨ j = 33 ∨ j = 34 ∨ j = 35 ∨ j = 36 ∨ j = 37 ∨ j = 38 ∨ j = 39 ∨ j = 40 ∨ j = 41 ∨ j = 42 ∨ j = 43 ∨ j = 44 ∨ j = 45 ∨ j = 46 ∨ j = 47 ∨ j = 48 ∨ j = 49 ∨ j = 50 ∨ j = 51 ∨ j = 52 ∨ j = 53 ∨ j = 54 ∨ j = 55 ∨ j = 56 ∨ j = 57 ∨ j = 58 ∨ j = 59 ∨ j = 60 ∨ j = 61 ∨ j = 62 ∨ j = 63 := by omega
  rcases this with rfl | rfl | rfl | rfl | rfl | rfl | rfl | rfl | rfl | rfl | rfl | rfl | rfl | rfl | rfl | rfl | rfl | rfl | rfl | rfl | rfl | rfl | rfl | rfl | rfl | rfl | rfl | rfl | rfl | rfl | rfl | rfl | rfl | rfl | rfl | rfl | rfl | rfl | rfl | rfl | rfl | rfl | rfl | rfl | rfl | rfl | rfl | rfl | rfl | rfl | rfl | rfl | rfl | rfl | rfl | rfl | rfl | rfl | rfl | rfl | rfl | rfl | rfl | rfl
  · exact lv_tableIn (x := nI 0) (off := 225) (tgt := 264) hx hb dl_39 (by decide +kernel) (by decide +kernel) (by decide +kernel) (by decide) (fl_k0 G hS hE hst hV hQ hn h4 hls hce kk)
  · exact lv_tableIn (x := nI 1) (off := 282) (tgt := 321) hx hb dl_39 (by decide +kernel) (by decide +kernel) (by decide +kernel) (by decide) (fl_k1 G hS hE hst hV hQ hn h4 hls hce kk)
  · exact lv_tableIn (x := nI 2) (off := 295) (tgt := 334) hx hb dl_39 (by decide +kernel) (by decide +kernel) (by decide +kernel) (by decide) (fl_k2 G hS hE hst hV hQ hn h4 hls hce kk)
  · exact lv_tableIn (x := nI 3) (off := 308) (tgt := 347) hx hb dl_39 (by decide +kernel) (by decide +kernel) (by decide +kernel) (by decide) (fl_k3 G hS hE hst hV hQ hn h4 hls hce kk)
  · exact lv_tableIn (x := nI 4) (off := 321) (tgt := 360) hx hb dl_39 (by decide +kernel) (by decide +kernel) (by decide +kernel) (by decide) (fl_k4 G hS hE hst hV hQ hn h4 hls hce kk)
  · exact lv_tableIn (x := nI 5) (off := 334) (tgt := 373) hx hb dl_39 (by decide +kernel) (by decide +kernel) (by decide +kernel) (by decide) (fl_k5 G hS hE hst hV hQ hn h4 hls hce kk)
  · exact lv_tableIn (x := nI 6) (off := 390) (tgt := 429) hx hb dl_39 (by decide +kernel) (by decide +kernel) (by decide +kernel) (by decide) (fl_k6 G hS hE hst hV hQ hn h4 hls hce kk)
  · exact lv_tableIn (x := nI 7) (off := 458) (tgt := 497) hx hb dl_39 (by decide +kernel) (by decide +kernel) (by decide +kernel) (by decide) (fl_k7 G hS hE hst hV hQ hn h4 hls hce kk)
  · exact lv_tableIn (x := nI 8) (off := 526) (tgt := 565) hx hb dl_39 (by decide +kernel) (by decide +kernel) (by decide +kernel) (by decide) (fl_k8 G hS hE hst hV hQ hn h4 hls hce kk)
  · exact lv_tableIn (x := nI 9) (off := 594) (tgt := 633) hx hb dl_39 (by decide +kernel) (by decide +kernel) (by decide +kernel) (by decide) (fl_k9 G hS hE hst hV hQ hn h4 hls hce kk)
  · exact lv_tableIn (x := nI 10) (off := 650) (tgt := 689) hx hb dl_39 (by decide +kernel) (by decide +kernel) (by decide +kernel) (by decide) (fl_k10 G hS hE hst hV hQ hn h4 hls hce kk)
  · exact lv_tableIn (x := nI 11) (off := 734) (tgt := 773) hx hb dl_39 (by decide +kernel) (by decide +kernel) (by decide +kernel) (by decide) (fl_k11 G hS hE hst hV hQ hn h4 hls hce kk)
  · exact lv_tableIn (x := nI 12) (off := 818) (tgt := 857) hx hb dl_39 (by decide +kernel) (by decide +kernel) (by decide +kernel) (by decide) (fl_k12 G hS hE hst hV hQ hn h4 hls hce kk)
  · exact lv_tableIn (x := nI 13) (off := 902) (tgt := 941) hx hb dl_39 (by decide +kernel) (by decide +kernel) (by decide +kernel) (by decide) (fl_k13 G hS hE hst hV hQ hn h4 hls hce kk)
  · exact lv_tableIn (x := nI 14) (off := 982) (tgt := 1021) hx hb dl_39 (by decide +kernel) (by decide +kernel) (by decide +kernel) (by decide) (fl_k14 G hS hE hst hV hQ hn h4 hls hce kk)
  · exact lv_tableIn (x := nI 15) (off := 1050) (tgt := 1089) hx hb dl_39 (by decide +kernel) (by decide +kernel) (by decide +kernel) (by decide) (fl_k15 G hS hE hst hV hQ hn h4 hls hce kk)
  · exact lv_tableIn (x := nI 16) (off := 1106) (tgt := 1145) hx hb dl_39 (by decide +kernel) (by decide +kernel) (by decide +kernel) (by decide) (fl_k16 G hS hE hst hV hQ hn h4 hls hce kk)
  · exact lv_tableIn (x := nI 17) (off := 1162) (tgt := 1201) hx hb dl_39 (by decide +kernel) (by decide +kernel) (by decide +kernel) (by decide) (fl_k17 G hS hE hst hV hQ hn h4 hls hce kk)
  · exact lv_tableIn (x := nI 18) (off := 1225) (tgt := 1264) hx hb dl_39 (by decide +kernel) (by decide +kernel) (by decide +kernel) (by decide) (fl_k18 G hS hE hst hV hQ hn h4 hls hce kk)
  · exact lv_tableIn (x := nI 19) (off := 1281) (tgt := 1320) hx hb dl_39 (by decide +kernel) (by decide +kernel) (by decide +kernel) (by decide) (fl_k19 G hS hE hst hV hQ hn h4 hls hce kk)
  · exact lv_tableIn (x := nI 20) (off := 1294) (tgt := 1333) hx hb dl_39 (by decide +kernel) (by decide +kernel) (by decide +kernel) (by decide) (fl_k20 G hS hE hst hV hQ hn h4 hls hce kk)
  · exact lv_tableIn (x := nI 21) (off := 1350) (tgt := 1389) hx hb dl_39 (by decide +kernel) (by decide +kernel) (by decide +kernel) (by decide) (fl_k21 G hS hE hst hV hQ hn h4 hls hce kk)
  · exact lv_tableIn (x := nI 22) (off := 1406) (tgt := 1445) hx hb dl_39 (by decide +kernel) (by decide +kernel) (by decide +kernel) (by decide) (fl_k22 G hS hE hst hV hQ hn h4 hls hce kk)
  · exact lv_tableIn (x := nI 23) (off := 1419) (tgt := 1458) hx hb dl_39 (by decide +kernel) (by decide +kernel) (by decide +kernel) (by decide) (fl_k23 G hS hE hst hV hQ hn h4 hls hce kk)
  · exact lv_tableIn (x := nI 24) (off := 1487) (tgt := 1526) hx hb dl_39 (by decide +kernel) (by decide +kernel) (by decide +kernel) (by decide) (fl_k24 G hS hE hst hV hQ hn h4 hls hce kk)
  · exact lv_tableIn (x := nI 25) (off := 1555) (tgt := 1594) hx hb dl_39 (by decide +kernel) (by decide +kernel) (by decide +kernel) (by decide) (fl_k25 G hS hE hst hV hQ hn h4 hls hce kk)
  · exact lv_tableIn (x := nI 26) (off := 1618) (tgt := 1657) hx hb dl_39 (by decide +kernel) (by decide +kernel) (by decide +kernel) (by decide) (fl_k26 G hS hE hst hV hQ hn h4 hls hce kk)
  · exact lv_tableIn (x := nI 27) (off := 1709) (tgt := 1748) hx hb dl_39 (by decide +kernel) (by decide +kernel) (by decide +kernel) (by decide) (fl_k27 G hS hE hst hV hQ hn h4 hls hce kk)
  · exact lv_tableIn (x := nI 28) (off := 1765) (tgt := 1804) hx hb dl_39 (by decide +kernel) (by decide +kernel) (by decide +kernel) (by decide) (fl_k28 G hS hE hst hV hQ hn h4 hls hce kk)
  · exact lv_tableIn (x := nI 29) (off := 1821) (tgt := 1860) hx hb dl_39 (by decide +kernel) (by decide +kernel) (by decide +kernel) (by decide) (fl_k29 G hS hE hst hV hQ hn h4 hls hce kk)
  · exact lv_tableIn (x := nI 30) (off := 1877) (tgt := 1916) hx hb dl_39 (by decide +kernel) (by decide +kernel) (by decide +kernel) (by decide) (fl_k30 G hS hE hst hV hQ hn h4 hls hce kk)
  · exact lv_tableIn (x := nI 31) (off := 1933) (tgt := 1972) hx hb dl_39 (by decide +kernel) (by decide +kernel) (by decide +kernel) (by decide) (fl_k31 G hS hE hst hV hQ hn h4 hls hce kk)
  · exact lv_tableIn (x := nI 32) (off := 1989) (tgt := 2028) hx hb dl_39 (by decide +kernel) (by decide +kernel) (by decide +kernel) (by decide) (fl_k32 G hS hE hst hV hQ hn h4 hls hce kk)
  · exact lv_tableIn (x := nI 33) (off := 2045) (tgt := 2084) hx hb dl_39 (by decide +kernel) (by decide +kernel) (by decide +kernel) (by decide) (fl_k33 G hS hE hst hV hQ hn h4 hls hce kk)
  · exact lv_tableIn (x := nI 34) (off := 2101) (tgt := 2140) hx hb dl_39 (by decide +kernel) (by decide +kernel) (by decide +kernel) (by decide) (fl_k34 G hS hE hst hV hQ hn h4 hls hce kk)
  · exact lv_tableIn (x := nI 35) (off := 2157) (tgt := 2196) hx hb dl_39 (by decide +kernel) (by decide +kernel) (by decide +kernel) (by decide) (fl_k35 G hS hE hst hV hQ hn h4 hls hce kk)
  · exact lv_tableIn (x := nI 36) (off := 2213) (tgt := 2252) hx hb dl_39 (by decide +kernel) (by decide +kernel) (by decide +kernel) (by decide) (fl_k36 G hS hE hst hV hQ hn h4 hls hce kk)
  · exact lv_tableIn (x := nI 37) (off := 2269) (tgt := 2308) hx hb dl_39 (by decide +kernel) (by decide +kernel) (by decide +kernel) (by decide) (fl_k37 G hS hE hst hV hQ hn h4 hls hce kk)
  · exact lv_tableIn (x := nI 38) (off := 2325) (tgt := 2364) hx hb dl_39 (by decide +kernel) (by decide +kernel) (by decide +kernel) (by decide) (fl_k38 G hS hE hst hV hQ hn h4 hls hce kk)
  · exact lv_tableIn (x := nI 39) (off := 2381) (tgt := 2420) hx hb dl_39 (by decide +kernel) (by decide +kernel) (by decide +kernel) (by decide) (fl_k39 G hS hE hst hV hQ hn h4 hls hce kk)
  · exact lv_tableIn (x := nI 40) (off := 2394) (tgt := 2433) hx hb dl_39 (by decide +kernel) (by decide +kernel) (by decide +kernel) (by decide) (fl_k40 G hS hE hst hV hQ hn h4 hls hce kk)
  · exact lv_tableIn (x := nI 41) (off := 2462) (tgt := 2501) hx hb dl_39 (by decide +kernel) (by decide +kernel) (by decide +kernel) (by decide) (fl_k41 G hS hE hst hV hQ hn h4 hls hce kk)
  · exact lv_tableIn (x := nI 42) (off := 2518) (tgt := 2557) hx hb dl_39 (by decide +kernel) (by decide +kernel) (by decide +kernel) (by decide) (fl_k42 G hS hE hst hV hQ hn h4 hls hce kk)
  · exact lv_tableIn (x := nI 43) (off := 2574) (tgt := 2613) hx hb dl_39 (by decide +kernel) (by decide +kernel) (by decide +kernel) (by decide) (fl_k43 G hS hE hst hV hQ hn h4 hls hce kk)
  · exact lv_tableIn (x := nI 44) (off := 2587) (tgt := 2626) hx hb dl_39 (by decide +kernel) (by decide +kernel) (by decide +kernel) (by decide) (fl_k44 G hS hE hst hV hQ hn h4 hls hce kk)
  · exact lv_tableIn (x := nI 45) (off := 2600) (tgt := 2639) hx hb dl_39 (by decide +kernel) (by decide +kernel) (by decide +kernel) (by decide) (fl_k45 G hS hE hst hV hQ hn h4 hls hce kk)
  · exact lv_tableIn (x := nI 46) (off := 2656) (tgt := 2695) hx hb dl_39 (by decide +kernel) (by decide +kernel) (by decide +kernel) (by decide) (fl_k46 G hS hE hst hV hQ hn h4 hls hce kk)
  · exact lv_tableIn (x := nI 47) (off := 2669) (tgt := 2708) hx hb dl_39 (by decide +kernel) (by decide +kernel) (by decide +kernel) (by decide) (fl_k47 G hS hE hst hV hQ hn h4 hls hce kk)
  · exact lv_tableIn (x := nI 48) (off := 2737) (tgt := 2776) hx hb dl_39 (by decide +kernel) (by decide +kernel) (by decide +kernel) (by decide) (fl_k48 G hS hE hst hV hQ hn h4 hls hce kk)
  · exact lv_tableIn (x := nI 49) (off := 2805) (tgt := 2844) hx hb dl_39 (by decide +kernel) (by decide +kernel) (by decide +kernel) (by decide) (fl_k49 G hS hE hst hV hQ hn h4 hls hce kk)
  · exact lv_tableIn (x := nI 50) (off := 2818) (tgt := 2857) hx hb dl_39 (by decide +kernel) (by decide +kernel) (by decide +kernel) (by decide) (fl_k50 G hS hE hst hV hQ hn h4 hls hce kk)
  · exact lv_tableIn (x := nI 51) (off := 2874) (tgt := 2913) hx hb dl_39 (by decide +kernel) (by decide +kernel) (by decide +kernel) (by decide) (fl_k51 G hS hE hst hV hQ hn h4 hls hce kk)
  · exact lv_tableIn (x := nI 52) (off := 2930) (tgt := 2969) hx hb dl_39 (by decide +kernel) (by decide +kernel) (by decide +kernel) (by decide) (fl_k52 G hS hE hst hV hQ hn h4 hls hce kk)
  · exact lv_tableOut (x := nI 53) (tgt := 3025) hx hb dl_39 (by decide +kernel) (by decide) hd
  · exact lv_tableOut (x := nI 54) (tgt := 3025) hx hb dl_39 (by decide +kernel) (by decide) hd
  · exact lv_tableOut (x := nI 55) (tgt := 3025) hx hb dl_39 (by decide +kernel) (by decide) hd
  · exact lv_tableOut (x := nI 56) (tgt := 3025) hx hb dl_39 (by decide +kernel) (by decide) hd
  · exact lv_tableOut (x := nI 57) (tgt := 3025) hx hb dl_39 (by decide +kernel) (by decide) hd
  · exact lv_tableOut (x := nI 58) (tgt := 3025) hx hb dl_39 (by decide +kernel) (by decide) hd
  · exact lv_tableOut (x := nI 59) (tgt := 3025) hx hb dl_39 (by decide +kernel) (by decide) hd
  · exact lv_tableOut (x := nI 60) (tgt := 3025) hx hb dl_39 (by decide +kernel) (by decide) hd
  · exact lv_tableOut (x := nI 61) (tgt := 3025) hx hb dl_39 (by decide +kernel) (by decide) hd
  · exact lv_tableOut (x := nI 62) (tgt := 3025) hx hb dl_39 (by decide +kernel) (by decide) hd
  · exact lv_tableOut (x := nI 63) (tgt := 3025) hx hb dl_39 (by decide +kernel) (by decide) hd
/-- THE LOOP -/
theorem fl_loop (G : fl_G E p s m args c b L xs qo) (hS : ux_SpecOK l E ux_chs) (hE : ux_THok E) (hst : l.stackTraces = false)
    (kend : ∀ (H1 : Heap) (ls1 : Array Slot), W p l e room_1 s m args below meth c H1 [] 601024 7293034 Q (F0 m 3031 ls1 [])) :
    ∀ (k n : Nat) (H : Heap) (M : ux_M) (v : Int64) (ls : Array Slot), L < 4 * (n + k) + 4 → 4 * n ≤ L → fl_V E s qo v M H → z_Q n M → lv_has ls 7 (fl_L E b qo n) → W p l e room_1 s m args below meth c H [] (188 + n) (12149 + 6 * n) Q (F0 m 23 ls []) := by
  obtain ⟨hx, hb, -⟩ := id G.1
  obtain ⟨-, hK, hX, hbl, hA, hqs, hqo, hL⟩ := id G
  have hbA : ¬ ux_A E b := fun z => by have := hA b z; omega
  intro k
  induction k with
  | zero =>
    intro n H M v ls hk hn hV hQ hls
    refine lv_iload hx hb dl_23 (lv_at hls 4 rfl) ?_
    refine lv_aload_n hx hb dl_25 rfl (lv_at hls 0 rfl) ?_
    refine va_slen (A := ux_A E) hx hb hX hbl hbA hV.2.2 dl_26 ?_
    refine lv_iconst (v := 4) hx hb dl_27 (by decide) ?_
    refine lv_isub hx hb dl_28 ?_
    refine lv_icmp_gt (tgt := 3031) hx hb dl_29 (by decide) (fun _ => ?_) (fun hgt => ?_)
    · exact W.widen (k := 601024) (n := 7293034) (by omega) (by omega) (kend H ls)
    · have := fl_gt hL hn hgt
      omega
  | succ k ih =>
    intro n H M v ls hk hn hV hQ hls
    refine lv_iload hx hb dl_23 (lv_at hls 4 rfl) ?_
    refine lv_aload_n hx hb dl_25 rfl (lv_at hls 0 rfl) ?_
    refine va_slen (A := ux_A E) hx hb hX hbl hbA hV.2.2 dl_26 ?_
    refine lv_iconst (v := 4) hx hb dl_27 (by decide) ?_
    refine lv_isub hx hb dl_28 ?_
    refine lv_icmp_gt (tgt := 3031) hx hb dl_29 (by decide) (fun _ => ?_) (fun hgt => ?_)
    · exact W.widen (k := 601024) (n := 7293034) (by omega) (by omega) (kend H ls)
    · have h4 := fl_gt hL hn hgt
      refine fl_arg0 (n := n) G hV.2.2 (by omega) (lv_at hls 0 rfl) (lv_at hls 4 rfl) dl_32 dl_33 dl_35 ?_
      refine lv_bipush (v := 63) hx hb dl_36 (by decide) ?_
      refine lv_iand hx hb dl_38 ?_
      obtain ⟨j, hj, ej⟩ := fl_63 (xs (4 * n))
      rw [ej]
      refine fl_call1 G hS hE hst hV hQ (by omega) h4 hls ⟨by omega, by omega⟩ hj (fun H1 ls1 M1 v1 hV1 hQ1 hl1 => ?_)
      refine lv_iinc (k := 4) (v := nI (4 * (n + 1))) (lv' := [(4, .int (nI (4 * (n + 1)))), (0, .ref b), (1, .ref (E.1 4 655365 0)), (2, .ref (E.1 5 819253 0)), (3, .ref qo)]) hx hb dl_3025 hl1 rfl (z_add (4 * n) 4) (by decide) rfl (fun ls2 hl2 => ?_)
      refine lv_goto (tgt := 23) hx hb dl_3028 (by decide) ?_
      exact W.widen (k := 188 + (n + 1)) (n := 12149 + 6 * (n + 1)) (by omega) (by omega) (ih (n + 1) H1 M1 v1 ls2 (by omega) (by omega) hV1 hQ1 (lv_sub hl2 [1, 2, 3, 4, 0] rfl))
end FLK
