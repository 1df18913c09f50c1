/-! WHAT IS THROWN, 1: checkUnit and checkRange -/
abbrev fx_IO : String := "java/lang/IndexOutOfBoundsException"
abbrev fx_IA : String := "java/lang/IllegalArgumentException"
abbrev fx_N : List String := ["java/lang/RuntimeException", "java/lang/Exception"]
def fx_dR : MethodName := ⟨"java/lang/RuntimeException", "<init>", "(Ljava/lang/String;)V"⟩
def fx_dE : MethodName := ⟨"java/lang/Exception", "<init>", "(Ljava/lang/String;)V"⟩
def fx_dT : MethodName := ⟨"java/lang/Throwable", "<init>", "(Ljava/lang/String;)V"⟩
/-- what throwing rests on -/
def ux_TH (E : ux_E) (U : State) (H : Heap) : Prop :=
  (vx_Zq Bundle.tN "UNASSIGNED_STACK" Bundle.steD (ux_A E) U H ∧ vx_Zq Bundle.tN "SUPPRESSED_SENTINEL" Bundle.listD (ux_A E) U H)
  ∧ ((∃ sa, vk_R "ServiceManager" 275 "there is no such unit" sa U) ∧ ∃ sa, vk_R "ServiceManager" 282 "an argument is out of its range" sa U)
  ∧ (va_Nw (.castable fx_IO fx_IO) U ∧ va_Nw (.castable fx_IA fx_IA) U) ∧ va_Nc fx_IA fx_IO U
  ∧ va_Nw (.declares fx_dR) U ∧ va_Nw (.declares fx_dE) U ∧ va_Nw (.declares fx_dT) U
def ux_THok (E : ux_E) : Prop := ∀ (U : State) (H : Heap), E.2.2.2 U H → ux_TH E U H
def fx_room (d : Nat) : Room := { frames := d, cells := 1, slots := 6, locals := 60 * d + 300 }
/-- thrown: this class; the memory stays -/
def fx_X (E : ux_E) (M : ux_M) (name : String) : String → State → State → Prop := fun En st t => En = name ∧ ux_Rep E M t.heap ∧ va_F (ux_A E) st t
/-- A METHOD THAT THROWS -/
def fx_Met (l : Launch) (E : ux_E) (y : ux_Y) (d : Nat) (av : List ux_V) (M : ux_M) (name : String) : Prop :=
  vx_Met l y.1 (ux_ws y) (fx_room d) (va_Pc (av.map (ux_rho E)) (fun U => ux_Rep E M U.heap ∧ ux_K E U U.heap)) (fun _ _ _ _ => False) (fx_X E M name) 1 6 (ux_A E)
theorem ux_Rep.lt {E : ux_E} {M : ux_M} {H : Heap} (h : ux_Rep E M H) {k s r : Nat} (hd : ux_dom k s r = true) : E.1 k s r < H.size := by
  have hc := h k s r hd
  unfold ux_cell at hc
  split at hc
  · exact (Array.getElem?_eq_some_iff.mp hc).1
  · split at hc
    · exact (Array.getElem?_eq_some_iff.mp hc).1
    · split at hc
      · exact (Array.getElem?_eq_some_iff.mp hc).1
      · split at hc
        · exact (Array.getElem?_eq_some_iff.mp hc).1
        · obtain ⟨cell, h1, -⟩ := hc
          exact (Array.getElem?_eq_some_iff.mp h1).1
theorem ux_Rep.keep {E : ux_E} {M : ux_M} {H H' : Heap} (h : ux_Rep E M H) (hq : ∀ q, q < H.size → H'[q]? = H[q]?) : ux_Rep E M H' := fun k s r hd => ux_cell_kept (h k s r hd) (hq _ (h.lt hd)) rfl
theorem fx_h1 : ∀ w ∈ (vx_atS "ServiceManager" 277 fx_IO fx_N).filter goodWord, w ∈ lw_tbl := by decide +kernel
theorem fx_h2 : ∀ w ∈ (vx_atS "ServiceManager" 277 fx_IO fx_N).filter (fun w => !goodWord w), w ∈ ([.castable fx_IO fx_IO, .declares fx_dR, .declares fx_dE, .declares fx_dT] : List Cond) := by decide +kernel
theorem fx_h3 : ∀ w ∈ (vx_atS "ServiceManager" 284 fx_IA fx_N).filter goodWord, w ∈ lw_tbl := by decide +kernel
theorem fx_h4 : ∀ w ∈ (vx_atS "ServiceManager" 284 fx_IA fx_N).filter (fun w => !goodWord w), w ∈ ([.castable fx_IA fx_IA, .declares fx_dR, .declares fx_dE, .declares fx_dT] : List Cond) := by decide +kernel
theorem fx_g1 : ∀ w ∈ Cond.classLink "ServiceManager" 273 fx_IO :: Cond.initialized fx_IO :: vx_atS "ServiceManager" 277 fx_IO fx_N, vx_ot w = true := by decide +kernel
theorem fx_g3 : ∀ w ∈ Cond.classLink "ServiceManager" 280 fx_IA :: Cond.initialized fx_IA :: vx_atS "ServiceManager" 284 fx_IA fx_N, vx_ot w = true := by decide +kernel
theorem fx_w953 : lw_tbl[953]? = some (.classLink "ServiceManager" 273 fx_IO) := by decide +kernel
theorem fx_w191 : lw_tbl[191]? = some (.initialized fx_IO) := by decide +kernel
theorem fx_w1037 : lw_tbl[1037]? = some (.classLink "ServiceManager" 280 fx_IA) := by decide +kernel
theorem fx_w192 : lw_tbl[192]? = some (.initialized fx_IA) := by decide +kernel
theorem fx_fit : Bundle.fit fx_IO = true ∧ Bundle.fit fx_IA = true ∧ ∀ n ∈ fx_N, Bundle.fit n = true := by decide +kernel
theorem d_93_0 : decode y_93.2.1 0 = .ok (.iload_n 1, 1) := by decide +kernel
theorem d_93_1 : decode y_93.2.1 1 = .ok (.ifCond .lt 17, 3) := by decide +kernel
theorem d_93_4 : decode y_93.2.1 4 = .ok (.iload_n 1, 1) := by decide +kernel
theorem d_93_5 : decode y_93.2.1 5 = .ok (.aload_n 0, 1) := by decide +kernel
theorem d_93_6 : decode y_93.2.1 6 = .ok (.getfield 23, 3) := by decide +kernel
theorem d_93_9 : decode y_93.2.1 9 = .ok (.getfield 63, 3) := by decide +kernel
theorem d_93_12 : decode y_93.2.1 12 = .ok (.getfield 66, 3) := by decide +kernel
theorem d_93_15 : decode y_93.2.1 15 = .ok (.if_icmp .lt 14, 3) := by decide +kernel
theorem d_93_18 : decode y_93.2.1 18 = .ok (.new 273, 3) := by decide +kernel
theorem d_93_21 : decode y_93.2.1 21 = .ok (.dup, 1) := by decide +kernel
theorem d_93_22 : decode y_93.2.1 22 = .ok (.ldc_w 275, 3) := by decide +kernel
theorem d_93_25 : decode y_93.2.1 25 = .ok (.invokespecial 277, 3) := by decide +kernel
theorem d_93_28 : decode y_93.2.1 28 = .ok (.athrow, 1) := by decide +kernel
theorem d_96_0 : decode y_96.2.1 0 = .ok (.iload_n 0, 1) := by decide +kernel
theorem d_96_1 : decode y_96.2.1 1 = .ok (.iload_n 1, 1) := by decide +kernel
theorem d_96_2 : decode y_96.2.1 2 = .ok (.if_icmp .lt 8, 3) := by decide +kernel
theorem d_96_5 : decode y_96.2.1 5 = .ok (.iload_n 0, 1) := by decide +kernel
theorem d_96_6 : decode y_96.2.1 6 = .ok (.iload_n 2, 1) := by decide +kernel
theorem d_96_7 : decode y_96.2.1 7 = .ok (.if_icmp .le 14, 3) := by decide +kernel
theorem d_96_10 : decode y_96.2.1 10 = .ok (.new 280, 3) := by decide +kernel
theorem d_96_13 : decode y_96.2.1 13 = .ok (.dup, 1) := by decide +kernel
theorem d_96_14 : decode y_96.2.1 14 = .ok (.ldc_w 282, 3) := by decide +kernel
theorem d_96_17 : decode y_96.2.1 17 = .ok (.invokespecial 284, 3) := by decide +kernel
theorem d_96_20 : decode y_96.2.1 20 = .ok (.athrow, 1) := by decide +kernel
section FXA
variable {l : Launch} {E : ux_E} {M : ux_M} {x a b : Int32}
theorem cx_93 (hE : ux_THok E) (hl : l.stackTraces = false) (hx0 : ¬ z_iu M x) : fx_Met l E y_93 8 [aR 4 655365 0, aI x] M fx_IO := by
  refine vx_ofW (cc := y_93.2.1) (maxL := y_93.2.2.1) (ret := y_93.2.2.2) (by decide +kernel) rfl ?_
  intro p e s m args below meth c s₁ B hml hno hv
  obtain ⟨rfl, hRep, hK⟩ := hv
  have hx := B.exec
  have hb : c.code = y_93.2.1 := B.bytes
  have hlocks := B.notSynchronized
  have G : ux_G l E y_93 p s m _ meth c := ⟨B.exec, B.bytes, hml, findClass_of_methodNamed B.named, atoms_spec (ws := ux_ws y_93) B.pre, hK, B.notSynchronized, B.returns⟩
  obtain ⟨⟨hU, hN⟩, ⟨⟨sa, hsa⟩, -⟩, ⟨hca, -⟩, -, dR, dE, dT⟩ := hE s s.heap hK.2.2.2.2
  have hS : va_S uy_N s.heap s.heap [] := va_S.rf
  have hl2 := lv_entry ([.ref (E.1 4 655365 0), .int x]) (n := 2) (Nat.le_of_ble_eq_true rfl)
  show W p l e (fx_room 8) s m _ below meth c s.heap [] 0 0 _ (entryFrame m ([.ref (E.1 4 655365 0), .int x] : List Value).toArray 2)
  rw [lg_entry_eq]
  generalize (lg_sl ([.ref (E.1 4 655365 0), .int x]) ++ List.replicate (2 - (lg_sl ([.ref (E.1 4 655365 0), .int x])).length) Slot.unset).toArray = ls at hl2 ⊢
  have hl2 : lv_has ls 2 [(0, .ref (E.1 4 655365 0)), (1, .int x)] := hl2
  have hat : ∀ w ∈ vx_atS "ServiceManager" 277 fx_IO fx_N, w.before _ s = true := vx_hat (fun w hw => G.2.2.2.2.1 w (List.mem_cons_of_mem _ (ux_mem_good (fx_h1 w hw) (List.mem_filter.mp hw).2))) fx_h2 (vx_c (va_Nw.use rfl hca) (vx_c (va_Nw.use rfl dR) (vx_c (va_Nw.use rfl dE) (vx_c (va_Nw.use rfl dT) vx_n))))
  have k18 : W p l e (fx_room 8) s m ([.ref (E.1 4 655365 0), .int x] : List Value).toArray below meth c s.heap [] 0 0 (vx_MQ below (fun _ _ _ _ => False) (fx_X E M fx_IO) ([.ref (E.1 4 655365 0), .int x] : List Value).toArray s 1 6 (ux_A E)) (F0 m 18 ls []) :=
    vx_throwSW hx hb hl G.2.2.2.1 fx_fit.1 fx_fit.2.2 (ux_word G (ux_at fx_w953) rfl) (ux_word G (ux_at fx_w191) rfl) hsa hat fx_g1 (hU.narrow (fun _ z => z.elim)) (hN.narrow (fun _ z => z.elim)) hS (hl2.1.trans hml.symm) d_93_18 d_93_21 d_93_22 d_93_25 d_93_28 (fun z hz => (hno z hz).elim) (Nat.le_of_ble_eq_true rfl) (Nat.le_of_ble_eq_true rfl) (Nat.le_of_ble_eq_true rfl) (Nat.le_of_ble_eq_true rfl) hlocks
      (fun t _ h1 h2 => ⟨rfl, hRep.keep h2, h1, fun q hq _ => h2 q hq⟩) (fun z h => by cases h) (Nat.le_refl _) (Nat.le_refl _)
  refine lv_iload_n hx hb d_93_0 rfl (lv_at hl2 1 rfl) ?_
  refine lv_if_lt (tgt := 18) hx hb d_93_1 (by decide) (fun _ => k18) (fun h0 => ?_)
  refine lv_iload_n hx hb d_93_4 rfl (lv_at hl2 1 rfl) ?_
  refine lv_aload_n hx hb d_93_5 rfl (lv_at hl2 0 rfl) ?_
  refine ux_getf G hRep (q := (4, 655365, 0)) (by decide +kernel) (by decide +kernel) (ci := 0) (f := 4) (b := 0) (pp := 467) rfl (by decide) (by decide) (by decide +kernel) d_93_6 ?_
  rw [ux_fv1 (m := 1) (t := 16413) rfl]
  refine ux_getf G hRep (q := (0, 16413, 0)) (by decide +kernel) (by decide +kernel) (ci := 3) (f := 0) (b := 1) (pp := 390) rfl (by decide) (by decide) (by decide +kernel) d_93_9 ?_
  rw [ux_fv1 (m := 0) (t := 344085) rfl]
  refine ux_getf G hRep (q := (0, 344085, 0)) (by decide +kernel) (by decide +kernel) (ci := 2) (f := 0) (b := 1) (pp := 217) rfl (by decide) (by decide) (by decide +kernel) d_93_12 ?_
  rw [ux_fv0 (ty := 0) (m := 0) (t := 0) rfl (by decide) (by decide)]
  exact lv_icmp_lt (tgt := 29) hx hb d_93_15 (by decide) (fun h => absurd ⟨h0, h⟩ hx0) (fun _ => k18)
theorem cx_96 (hE : ux_THok E) (hl : l.stackTraces = false) (hx0 : ¬ z_rg x a b) : fx_Met l E y_96 8 [aI x, aI a, aI b] M fx_IA := by
  refine vx_ofW (cc := y_96.2.1) (maxL := y_96.2.2.1) (ret := y_96.2.2.2) (by decide +kernel) rfl ?_
  intro p e s m args below meth c s₁ B hml hno hv
  obtain ⟨rfl, hRep, hK⟩ := hv
  have hx := B.exec
  have hb : c.code = y_96.2.1 := B.bytes
  have hlocks := B.notSynchronized
  have G : ux_G l E y_96 p s m _ meth c := ⟨B.exec, B.bytes, hml, findClass_of_methodNamed B.named, atoms_spec (ws := ux_ws y_96) B.pre, hK, B.notSynchronized, B.returns⟩
  obtain ⟨⟨hU, hN⟩, ⟨-, sa, hsa⟩, ⟨-, hca⟩, -, dR, dE, dT⟩ := hE s s.heap hK.2.2.2.2
  have hS : va_S uy_N s.heap s.heap [] := va_S.rf
  have hl2 := lv_entry ([.int x, .int a, .int b]) (n := 3) (Nat.le_of_ble_eq_true rfl)
  show W p l e (fx_room 8) s m _ below meth c s.heap [] 0 0 _ (entryFrame m ([.int x, .int a, .int b] : List Value).toArray 3)
  rw [lg_entry_eq]
  generalize (lg_sl ([.int x, .int a, .int b]) ++ List.replicate (3 - (lg_sl ([.int x, .int a, .int b])).length) Slot.unset).toArray = ls at hl2 ⊢
  have hl2 : lv_has ls 3 [(0, .int x), (1, .int a), (2, .int b)] := hl2
  have hat : ∀ w ∈ vx_atS "ServiceManager" 284 fx_IA fx_N, w.before _ s = true := vx_hat (fun w hw => G.2.2.2.2.1 w (List.mem_cons_of_mem _ (ux_mem_good (fx_h3 w hw) (List.mem_filter.mp hw).2))) fx_h4 (vx_c (va_Nw.use rfl hca) (vx_c (va_Nw.use rfl dR) (vx_c (va_Nw.use rfl dE) (vx_c (va_Nw.use rfl dT) vx_n))))
  have k10 : W p l e (fx_room 8) s m ([.int x, .int a, .int b] : List Value).toArray below meth c s.heap [] 0 0 (vx_MQ below (fun _ _ _ _ => False) (fx_X E M fx_IA) ([.int x, .int a, .int b] : List Value).toArray s 1 6 (ux_A E)) (F0 m 10 ls []) :=
    vx_throwSW hx hb hl G.2.2.2.1 fx_fit.2.1 fx_fit.2.2 (ux_word G (ux_at fx_w1037) rfl) (ux_word G (ux_at fx_w192) rfl) hsa hat fx_g3 (hU.narrow (fun _ z => z.elim)) (hN.narrow (fun _ z => z.elim)) hS (hl2.1.trans hml.symm) d_96_10 d_96_13 d_96_14 d_96_17 d_96_20 (fun z hz => (hno z hz).elim) (Nat.le_of_ble_eq_true rfl) (Nat.le_of_ble_eq_true rfl) (Nat.le_of_ble_eq_true rfl) (Nat.le_of_ble_eq_true rfl) hlocks
      (fun t _ h1 h2 => ⟨rfl, hRep.keep h2, h1, fun q hq _ => h2 q hq⟩) (fun z h => by cases h) (Nat.le_refl _) (Nat.le_refl _)
  refine lv_iload_n hx hb d_96_0 rfl (lv_at hl2 0 rfl) ?_
  refine lv_iload_n hx hb d_96_1 rfl (lv_at hl2 1 rfl) ?_
  refine lv_icmp_lt (tgt := 10) hx hb d_96_2 (by decide) (fun _ => k10) (fun h0 => ?_)
  refine lv_iload_n hx hb d_96_5 rfl (lv_at hl2 0 rfl) ?_
  refine lv_iload_n hx hb d_96_6 rfl (lv_at hl2 2 rfl) ?_
  exact lv_icmp_le (tgt := 21) hx hb d_96_7 (by decide) (fun h => absurd ⟨h0, h⟩ hx0) (fun _ => k10)
end FXA
