/-! THE LAW'S HELPERS (by wip/whole/gen9e.py): a call within try; the answer goes into out, the code comes back -/
/-- the cells that a helper may change -/
def hx_A (E : ux_E) (qo : Nat) : Nat → Prop := fun q => ux_A E q ∨ q = qo
/-- out holds v -/
def hx_o (E : ux_E) (qo : Nat) (v : Int64) (H : Heap) : Prop := H[qo]? = some (arrV (E.2.2.1 3) 1 (fun _ => .long v))
def hx_ws (y : ux_Y) (hh : List (Nat × Nat × Nat × Nat)) : List Cond := Cond.codeWith y.1 y.2.1 y.2.2.1 y.2.2.2 hh :: ux_good
def hx_Q (E : ux_E) (qo : Nat) (Q : Int32 → Int64 → ux_M → Prop) : Array Value → State → Outcome → State → Prop := fun _ st o t =>
  ∃ (r : Int32) (v : Int64) (M' : ux_M), o = .returned (some (.int r)) ∧ Q r v M' ∧ ux_Rep E M' t.heap ∧ hx_o E qo v t.heap ∧ va_F (hx_A E qo) st t
/-- A HELPER'S CONTRACT -/
def hx_Met (l : Launch) (E : ux_E) (y : ux_Y) (hh : List (Nat × Nat × Nat × Nat)) (av : List ux_V) (qo : Nat) (v0 : Int64) (M : ux_M) (Q : Int32 → Int64 → ux_M → Prop) : Prop :=
  Met l y.1 (hx_ws y hh) (fx_room 60) (va_Pc (av.map (ux_rho E) ++ [.ref qo]) (fun U => (ux_Rep E M U.heap ∧ ux_K E U U.heap) ∧ hx_o E qo v0 U.heap)) (hx_Q E qo Q) 1 6 (hx_A E qo)
theorem hx_ofW {l : Launch} {y : ux_Y} {hh : List (Nat × Nat × Nat × Nat)} {Pc : Array Value → State → Prop} {Qc : Array Value → State → Outcome → State → Prop} {free : Addr → Prop} (hy : plainName y.1.cls = true)
    (body : ∀ p e s m args below meth c s₁, BodyLoose p l y.1 (headSpec (hx_ws y hh) (fx_room 60)) y.2.1 y.2.2.1 y.2.2.2 e s m args below meth c s₁ → c.maxLocals = y.2.2.1 → Pc args s →
      W p l e (fx_room 60) s m args below meth c s.heap [] 0 0 (MQ below Qc args s 1 6 free) (entryFrame m args y.2.2.1)) : Met l y.1 (hx_ws y hh) (fx_room 60) Pc Qc 1 6 free := by
  refine MetFree.of_bodyS (code := y.2.1) (maxLocals := y.2.2.1) (ret := y.2.2.2) hy ?_ ?_
  · intro args s m h hn
    obtain ⟨m9, meth, c, hn9, h1, h2, h3, h4, -, h5, h6, -⟩ := Cond.codeWith_spec (atoms_spec (ws := hx_ws y hh) h _ List.mem_cons_self)
    cases hn.symm.trans hn9
    exact ⟨meth, c, h1, h2, h3, h4, h5, h6⟩
  · intro p e s m args below meth c s₁ B hml hP _
    have hh0 : s₁.heap = s.heap := by rw [B.state]; rfl
    obtain ⟨t, a1, o, b1, b2, b3⟩ := body p e s m args below meth c s₁ B hml hP s₁ hh0 (Stand.of_body B)
    exact ⟨t, o, a1, b1, b2, ⟨b3.1, b3.2⟩⟩
section HXA
variable {p : Program} {l : Launch} {E : ux_E} {e : Env} {R : Room} {s : State} {m : MethodId} {args : Array Value} {below : List Frame} {meth : Method} {c : Code} {H H1 : Heap} {locs : List Loc} {cells slots : Nat} {Q : State → Prop} {M : ux_M} {pc qo : Nat} {ls : Array Slot} {rest : List Value} {v v0 : Int64} {cc : ByteArray}
theorem hx_o.keep (h : hx_o E qo v H) (hqo : ¬ ux_A E qo) (hq : ∀ q, q < H.size → ¬ ux_A E q → H1[q]? = H[q]?) : hx_o E qo v H1 := (hq qo (Array.getElem?_eq_some_iff.mp h).1 hqo).trans h
theorem hx_up {locs : List Loc} {H0 : Heap} (h : va_S (ux_A E) H0 H locs) : va_S (hx_A E qo) H0 H locs := ⟨h.1, fun q h1 h2 => h.2.1 q h1 (fun z => h2 (.inl z)), fun l hl => .inl (h.2.2 l hl)⟩
theorem hx_st1 (c : ClassId) (x v : Value) : (arrV c 1 (fun _ => x)).setSlot 0 v = arrV c 1 (fun _ => v) := by
  rw [arrV_store]
  unfold arrV
  congr 1
/-- out[0] = v -/
theorem hx_last (hx : p.tables.exec = Jvm.exec) (hb : c.code = cc) (hK : ux_K E s s.heap) (hqo : ¬ ux_A E qo) (ho : hx_o E qo v0 H) (hRep : ux_Rep E M H) (hVS : va_S (hx_A E qo) s.heap H locs) (hd : decode cc pc = .ok (.lastore, 1))
    (kk : ∀ (H1 : Heap) (locs1 : List Loc), ux_Rep E M H1 → hx_o E qo v H1 → va_S (hx_A E qo) s.heap H1 locs1 → W p l e R s m args below meth c H1 locs1 cells slots Q (F0 m (pc + 1) ls rest)) :
    W p l e R s m args below meth c H locs cells slots Q (F0 m pc ls (.long v :: .int 0 :: .ref qo :: rest)) := by
  have hA := (hK.2.2.1.2 2 _ rfl).1
  have c0 : (0 : Int32).toNatClampNeg = 0 := by decide +kernel
  refine W.last hx hb ho (hA 1 _) (by simp [arrV]) (by rw [arrV_size, c0]; rintro (h | h) <;> revert h <;> decide) (g := F0 m pc ls (.long v :: .int 0 :: .ref qo :: rest)) rfl (rest := rest) rfl hd fun H' e1 e2 e3 => ?_
  rw [c0, hx_st1] at e1
  have nq : ∀ k s r, ux_dom k s r = true → E.1 k s r ≠ qo := fun k s r hd z => hqo ⟨k, s, r, hd, z.symm⟩
  exact kk H' _ (fun k s r hd => ux_cell_kept (hRep k s r hd) (e3 _ (nq k s r hd)) rfl) e1 (hVS.put e2 e3 (.inr rfl))
theorem hx_blind {av : List Value} : FrameBlind (va_Pc av (fun U => (ux_Rep E M U.heap ∧ ux_K E U U.heap) ∧ hx_o E qo v0 U.heap)) := fun a U g mk q => by
  obtain ⟨h1, h2, h3⟩ := ux_blind E av M a U g mk ⟨q.1, q.2.1⟩
  exact ⟨h1, ⟨h2, h3⟩, q.2.2⟩
theorem hx_fix {y : ux_Y} {hh : List (Nat × Nat × Nat × Nat)} {s₁ : State} (B : BodyLoose p l y.1 (headSpec (hx_ws y hh) (fx_room 60)) y.2.1 y.2.2.1 y.2.2.2 e s m args below meth c s₁) (hml : c.maxLocals = y.2.2.1) : CallFix p m c y.2.1 y.2.2.1 s args (hx_ws y hh) y.1.cls := ⟨B.exec, B.bytes, hml, findClass_of_methodNamed B.named, atoms_spec (ws := hx_ws y hh) B.pre⟩
theorem hx_sub {y : ux_Y} {hh : List (Nat × Nat × Nat × Nat)} : ∀ w ∈ ux_good, w ∈ hx_ws y hh := fun w h => List.mem_cons_of_mem _ h
theorem hx_wd {y : ux_Y} {hh : List (Nat × Nat × Nat × Nat)} (hts : ∀ w ∈ hx_ws y hh, w.before args s = true) {pp : Nat} {w : Cond} (hp : lw_tbl[pp]? = some w) (hg : goodWord w = true) : w.before args s = true := hts _ (hx_sub _ (ux_mem_good (ux_at hp) hg))
end HXA
theorem hx_c13 : lw_tbl[944]? = some (.classLink "ServiceManagerLaw" 13 fx_IO) := by decide +kernel
theorem hx_c22 : lw_tbl[1029]? = some (.classLink "ServiceManagerLaw" 22 fx_IA) := by decide +kernel
def yh_92 : ux_Y := (⟨"ServiceManagerLaw", "kindOf", "(LServiceManager;I[J)I"⟩, method_3_code, 4, some .int)
def hh_92 : List (Nat × Nat × Nat × Nat) := [(0, 9, 12, 13)]
def yh_94 : ux_Y := (⟨"ServiceManagerLaw", "nameLetter", "(LServiceManager;II[J)I"⟩, method_4_code, 5, some .int)
def hh_94 : List (Nat × Nat × Nat × Nat) := [(0, 10, 13, 13)]
def yh_95 : ux_Y := (⟨"ServiceManagerLaw", "property", "(LServiceManager;II[J)I"⟩, method_5_code, 5, some .int)
def hh_95 : List (Nat × Nat × Nat × Nat) := [(0, 10, 13, 13), (0, 10, 17, 22)]
def yh_97 : ux_Y := (⟨"ServiceManagerLaw", "related", "(LServiceManager;II[J)I"⟩, method_6_code, 5, some .int)
def hh_97 : List (Nat × Nat × Nat × Nat) := [(0, 10, 13, 13), (0, 10, 17, 22)]
def yh_98 : ux_Y := (⟨"ServiceManagerLaw", "serviceOf", "(LServiceManager;I[J)I"⟩, method_7_code, 4, some .int)
def hh_98 : List (Nat × Nat × Nat × Nat) := [(0, 9, 12, 13)]
def yh_99 : ux_Y := (⟨"ServiceManagerLaw", "start", "(LServiceManager;IZ[J)I"⟩, method_8_code, 5, some .int)
def hh_99 : List (Nat × Nat × Nat × Nat) := [(0, 10, 13, 13)]
def yh_100 : ux_Y := (⟨"ServiceManagerLaw", "stop", "(LServiceManager;IZ[J)I"⟩, method_9_code, 5, some .int)
def hh_100 : List (Nat × Nat × Nat × Nat) := [(0, 10, 13, 13)]
def yh_101 : ux_Y := (⟨"ServiceManagerLaw", "restart", "(LServiceManager;IZ[J)I"⟩, method_10_code, 5, some .int)
def hh_101 : List (Nat × Nat × Nat × Nat) := [(0, 10, 13, 13)]
def yh_102 : ux_Y := (⟨"ServiceManagerLaw", "plan", "(LServiceManager;III[J)I"⟩, method_11_code, 6, some .int)
def hh_102 : List (Nat × Nat × Nat × Nat) := [(0, 12, 15, 13), (0, 12, 19, 22)]
def yh_104 : ux_Y := (⟨"ServiceManagerLaw", "planDepth", "(LServiceManager;II[J)I"⟩, method_12_code, 5, some .int)
def hh_104 : List (Nat × Nat × Nat × Nat) := [(0, 10, 13, 13), (0, 10, 17, 22)]
def yh_108 : ux_Y := (⟨"ServiceManagerLaw", "cancel", "(LServiceManager;I[J)I"⟩, method_13_code, 4, some .int)
def hh_108 : List (Nat × Nat × Nat × Nat) := [(0, 9, 12, 13)]
def yh_110 : ux_Y := (⟨"ServiceManagerLaw", "jobOf", "(LServiceManager;I[J)I"⟩, method_14_code, 4, some .int)
def hh_110 : List (Nat × Nat × Nat × Nat) := [(0, 9, 12, 13)]
def yh_111 : ux_Y := (⟨"ServiceManagerLaw", "isRunning", "(LServiceManager;I[J)I"⟩, method_15_code, 4, some .int)
def hh_111 : List (Nat × Nat × Nat × Nat) := [(0, 16, 19, 13)]
def yh_112 : ux_Y := (⟨"ServiceManagerLaw", "precedingJobs", "(LServiceManager;I[J)I"⟩, method_16_code, 4, some .int)
def hh_112 : List (Nat × Nat × Nat × Nat) := [(0, 9, 12, 13)]
def yh_113 : ux_Y := (⟨"ServiceManagerLaw", "outcomeOf", "(LServiceManager;I[J)I"⟩, method_17_code, 4, some .int)
def hh_113 : List (Nat × Nat × Nat × Nat) := [(0, 9, 12, 13)]
def yh_114 : ux_Y := (⟨"ServiceManagerLaw", "advance", "(LServiceManager;I[J)I"⟩, method_18_code, 4, some .int)
def hh_114 : List (Nat × Nat × Nat × Nat) := [(0, 9, 12, 22)]
def yh_115 : ux_Y := (⟨"ServiceManagerLaw", "connect", "(LServiceManager;II[J)I"⟩, method_19_code, 5, some .int)
def hh_115 : List (Nat × Nat × Nat × Nat) := [(0, 10, 13, 13), (0, 10, 17, 22)]
def yh_118 : ux_Y := (⟨"ServiceManagerLaw", "kill", "(LServiceManager;II[J)I"⟩, method_20_code, 5, some .int)
def hh_118 : List (Nat × Nat × Nat × Nat) := [(0, 10, 13, 13), (0, 10, 17, 22)]
def yh_119 : ux_Y := (⟨"ServiceManagerLaw", "reset", "(LServiceManager;I[J)I"⟩, method_21_code, 4, some .int)
def hh_119 : List (Nat × Nat × Nat × Nat) := [(0, 16, 19, 13)]
def yh_121 : ux_Y := (⟨"ServiceManagerLaw", "setMasked", "(LServiceManager;IZ[J)I"⟩, method_22_code, 5, some .int)
def hh_121 : List (Nat × Nat × Nat × Nat) := [(0, 17, 20, 13)]
def yh_122 : ux_Y := (⟨"ServiceManagerLaw", "stateOf", "(LServiceManager;I[J)I"⟩, method_23_code, 4, some .int)
def hh_122 : List (Nat × Nat × Nat × Nat) := [(0, 9, 12, 13)]
def yh_123 : ux_Y := (⟨"ServiceManagerLaw", "inState", "(LServiceManager;I[J)I"⟩, method_24_code, 4, some .int)
def hh_123 : List (Nat × Nat × Nat × Nat) := [(0, 9, 12, 22)]
def yh_124 : ux_Y := (⟨"ServiceManagerLaw", "resultOf", "(LServiceManager;I[J)I"⟩, method_25_code, 4, some .int)
def hh_124 : List (Nat × Nat × Nat × Nat) := [(0, 9, 12, 13)]
def yh_125 : ux_Y := (⟨"ServiceManagerLaw", "exitCode", "(LServiceManager;I[J)I"⟩, method_26_code, 4, some .int)
def hh_125 : List (Nat × Nat × Nat × Nat) := [(0, 9, 12, 13)]
def yh_126 : ux_Y := (⟨"ServiceManagerLaw", "since", "(LServiceManager;I[J)I"⟩, method_27_code, 4, some .int)
def hh_126 : List (Nat × Nat × Nat × Nat) := [(0, 9, 12, 13)]
def yh_127 : ux_Y := (⟨"ServiceManagerLaw", "dueAt", "(LServiceManager;I[J)I"⟩, method_28_code, 4, some .int)
def hh_127 : List (Nat × Nat × Nat × Nat) := [(0, 9, 12, 13)]
def yh_128 : ux_Y := (⟨"ServiceManagerLaw", "restarts", "(LServiceManager;I[J)I"⟩, method_29_code, 4, some .int)
def hh_128 : List (Nat × Nat × Nat × Nat) := [(0, 9, 12, 13)]
def yh_129 : ux_Y := (⟨"ServiceManagerLaw", "begins", "(LServiceManager;I[J)I"⟩, method_30_code, 4, some .int)
def hh_129 : List (Nat × Nat × Nat × Nat) := [(0, 9, 12, 13)]
def yh_130 : ux_Y := (⟨"ServiceManagerLaw", "recentBegins", "(LServiceManager;I[J)I"⟩, method_31_code, 4, some .int)
def hh_130 : List (Nat × Nat × Nat × Nat) := [(0, 9, 12, 13)]
def yh_131 : ux_Y := (⟨"ServiceManagerLaw", "queued", "(LServiceManager;I[J)I"⟩, method_32_code, 4, some .int)
def hh_131 : List (Nat × Nat × Nat × Nat) := [(0, 9, 12, 13)]
def yh_132 : ux_Y := (⟨"ServiceManagerLaw", "accepted", "(LServiceManager;I[J)I"⟩, method_33_code, 4, some .int)
def hh_132 : List (Nat × Nat × Nat × Nat) := [(0, 9, 12, 13)]
def yh_133 : ux_Y := (⟨"ServiceManagerLaw", "lost", "(LServiceManager;I[J)I"⟩, method_34_code, 4, some .int)
def hh_133 : List (Nat × Nat × Nat × Nat) := [(0, 9, 12, 13)]
def yh_134 : ux_Y := (⟨"ServiceManagerLaw", "logEntry", "(LServiceManager;II[J)I"⟩, method_35_code, 5, some .int)
def hh_134 : List (Nat × Nat × Nat × Nat) := [(0, 10, 13, 22)]
def yh_136 : ux_Y := (⟨"ServiceManagerLaw", "allNeeded", "(LServiceManager;I[J)I"⟩, method_36_code, 4, some .int)
def hh_136 : List (Nat × Nat × Nat × Nat) := [(0, 9, 12, 13)]
def yh_137 : ux_Y := (⟨"ServiceManagerLaw", "allStopped", "(LServiceManager;I[J)I"⟩, method_37_code, 4, some .int)
def hh_137 : List (Nat × Nat × Nat × Nat) := [(0, 9, 12, 13)]
def yh_138 : ux_Y := (⟨"ServiceManagerLaw", "ticksUntilActive", "(LServiceManager;I[J)I"⟩, method_38_code, 4, some .int)
def hh_138 : List (Nat × Nat × Nat × Nat) := [(0, 9, 12, 13)]
def yh_139 : ux_Y := (⟨"ServiceManagerLaw", "stateAfter", "(LServiceManager;II[J)I"⟩, method_39_code, 5, some .int)
def hh_139 : List (Nat × Nat × Nat × Nat) := [(0, 10, 13, 13), (0, 10, 17, 22)]
def yh_140 : ux_Y := (⟨"ServiceManagerLaw", "damageOf", "(LServiceManager;II[J)I"⟩, method_40_code, 5, some .int)
def hh_140 : List (Nat × Nat × Nat × Nat) := [(0, 10, 13, 13), (0, 10, 17, 22)]
def yh_141 : ux_Y := (⟨"ServiceManagerLaw", "criticalTime", "(LServiceManager;I[J)I"⟩, method_41_code, 4, some .int)
def hh_141 : List (Nat × Nat × Nat × Nat) := [(0, 9, 12, 13)]
def yh_143 : ux_Y := (⟨"ServiceManagerLaw", "saveSnapshot", "(LServiceManager;I[J)I"⟩, method_42_code, 4, some .int)
def hh_143 : List (Nat × Nat × Nat × Nat) := [(0, 9, 12, 22)]
def yh_144 : ux_Y := (⟨"ServiceManagerLaw", "restoreSnapshot", "(LServiceManager;I[J)I"⟩, method_43_code, 4, some .int)
def hh_144 : List (Nat × Nat × Nat × Nat) := [(0, 9, 12, 22)]
theorem wl_92 : lw_tbl[945]? = some (.methodLink "ServiceManagerLaw" 7 y_92.1) := by decide +kernel
theorem wm_92 : lw_tbl[946]? = some (.instanceMethod y_92.1) := by decide +kernel
theorem we_92 : lw_tbl[947]? = some (.selects "ServiceManager" y_92.1 y_92.1) := by decide +kernel
theorem dh_92_0 : decode yh_92.2.1 0 = .ok (.aload_n 2, 1) := by decide +kernel
theorem dh_92_1 : decode yh_92.2.1 1 = .ok (.iconst 0, 1) := by decide +kernel
theorem dh_92_2 : decode yh_92.2.1 2 = .ok (.aload_n 0, 1) := by decide +kernel
theorem dh_92_3 : decode yh_92.2.1 3 = .ok (.iload_n 1, 1) := by decide +kernel
theorem dh_92_4 : decode yh_92.2.1 4 = .ok (.invokevirtual 7, 3) := by decide +kernel
theorem dh_92_7 : decode yh_92.2.1 7 = .ok (.i2l, 1) := by decide +kernel
theorem dh_92_8 : decode yh_92.2.1 8 = .ok (.lastore, 1) := by decide +kernel
theorem dh_92_9 : decode yh_92.2.1 9 = .ok (.goto 6, 3) := by decide +kernel
theorem dh_92_15 : decode yh_92.2.1 15 = .ok (.iconst 0, 1) := by decide +kernel
theorem dh_92_16 : decode yh_92.2.1 16 = .ok (.ireturn, 1) := by decide +kernel
theorem dh_92_12 : decode yh_92.2.1 12 = .ok (.astore_n 3, 1) := by decide +kernel
theorem dh_92_13 : decode yh_92.2.1 13 = .ok (.iconst 1, 1) := by decide +kernel
theorem dh_92_14 : decode yh_92.2.1 14 = .ok (.ireturn, 1) := by decide +kernel
theorem wl_94 : lw_tbl[1022]? = some (.methodLink "ServiceManagerLaw" 15 y_94.1) := by decide +kernel
theorem wm_94 : lw_tbl[1023]? = some (.instanceMethod y_94.1) := by decide +kernel
theorem we_94 : lw_tbl[1024]? = some (.selects "ServiceManager" y_94.1 y_94.1) := by decide +kernel
theorem dh_94_0 : decode yh_94.2.1 0 = .ok (.aload_n 3, 1) := by decide +kernel
theorem dh_94_1 : decode yh_94.2.1 1 = .ok (.iconst 0, 1) := by decide +kernel
theorem dh_94_2 : decode yh_94.2.1 2 = .ok (.aload_n 0, 1) := by decide +kernel
theorem dh_94_3 : decode yh_94.2.1 3 = .ok (.iload_n 1, 1) := by decide +kernel
theorem dh_94_4 : decode yh_94.2.1 4 = .ok (.iload_n 2, 1) := by decide +kernel
theorem dh_94_5 : decode yh_94.2.1 5 = .ok (.invokevirtual 15, 3) := by decide +kernel
theorem dh_94_8 : decode yh_94.2.1 8 = .ok (.i2l, 1) := by decide +kernel
theorem dh_94_9 : decode yh_94.2.1 9 = .ok (.lastore, 1) := by decide +kernel
theorem dh_94_10 : decode yh_94.2.1 10 = .ok (.goto 7, 3) := by decide +kernel
theorem dh_94_17 : decode yh_94.2.1 17 = .ok (.iconst 0, 1) := by decide +kernel
theorem dh_94_18 : decode yh_94.2.1 18 = .ok (.ireturn, 1) := by decide +kernel
theorem dh_94_13 : decode yh_94.2.1 13 = .ok (.astore 4, 2) := by decide +kernel
theorem dh_94_15 : decode yh_94.2.1 15 = .ok (.iconst 1, 1) := by decide +kernel
theorem dh_94_16 : decode yh_94.2.1 16 = .ok (.ireturn, 1) := by decide +kernel
theorem wl_95 : lw_tbl[1030]? = some (.methodLink "ServiceManagerLaw" 19 y_95.1) := by decide +kernel
theorem wm_95 : lw_tbl[1031]? = some (.instanceMethod y_95.1) := by decide +kernel
theorem we_95 : lw_tbl[1032]? = some (.selects "ServiceManager" y_95.1 y_95.1) := by decide +kernel
theorem dh_95_0 : decode yh_95.2.1 0 = .ok (.aload_n 3, 1) := by decide +kernel
theorem dh_95_1 : decode yh_95.2.1 1 = .ok (.iconst 0, 1) := by decide +kernel
theorem dh_95_2 : decode yh_95.2.1 2 = .ok (.aload_n 0, 1) := by decide +kernel
theorem dh_95_3 : decode yh_95.2.1 3 = .ok (.iload_n 1, 1) := by decide +kernel
theorem dh_95_4 : decode yh_95.2.1 4 = .ok (.iload_n 2, 1) := by decide +kernel
theorem dh_95_5 : decode yh_95.2.1 5 = .ok (.invokevirtual 19, 3) := by decide +kernel
theorem dh_95_8 : decode yh_95.2.1 8 = .ok (.i2l, 1) := by decide +kernel
theorem dh_95_9 : decode yh_95.2.1 9 = .ok (.lastore, 1) := by decide +kernel
theorem dh_95_10 : decode yh_95.2.1 10 = .ok (.goto 11, 3) := by decide +kernel
theorem dh_95_21 : decode yh_95.2.1 21 = .ok (.iconst 0, 1) := by decide +kernel
theorem dh_95_22 : decode yh_95.2.1 22 = .ok (.ireturn, 1) := by decide +kernel
theorem dh_95_13 : decode yh_95.2.1 13 = .ok (.astore 4, 2) := by decide +kernel
theorem dh_95_15 : decode yh_95.2.1 15 = .ok (.iconst 1, 1) := by decide +kernel
theorem dh_95_16 : decode yh_95.2.1 16 = .ok (.ireturn, 1) := by decide +kernel
theorem dh_95_17 : decode yh_95.2.1 17 = .ok (.astore 4, 2) := by decide +kernel
theorem dh_95_19 : decode yh_95.2.1 19 = .ok (.iconst 2, 1) := by decide +kernel
theorem dh_95_20 : decode yh_95.2.1 20 = .ok (.ireturn, 1) := by decide +kernel
theorem wl_97 : lw_tbl[1056]? = some (.methodLink "ServiceManagerLaw" 24 y_97.1) := by decide +kernel
theorem wm_97 : lw_tbl[1057]? = some (.instanceMethod y_97.1) := by decide +kernel
theorem we_97 : lw_tbl[1058]? = some (.selects "ServiceManager" y_97.1 y_97.1) := by decide +kernel
theorem dh_97_0 : decode yh_97.2.1 0 = .ok (.aload_n 3, 1) := by decide +kernel
theorem dh_97_1 : decode yh_97.2.1 1 = .ok (.iconst 0, 1) := by decide +kernel
theorem dh_97_2 : decode yh_97.2.1 2 = .ok (.aload_n 0, 1) := by decide +kernel
theorem dh_97_3 : decode yh_97.2.1 3 = .ok (.iload_n 1, 1) := by decide +kernel
theorem dh_97_4 : decode yh_97.2.1 4 = .ok (.iload_n 2, 1) := by decide +kernel
theorem dh_97_5 : decode yh_97.2.1 5 = .ok (.invokevirtual 24, 3) := by decide +kernel
theorem dh_97_8 : decode yh_97.2.1 8 = .ok (.i2l, 1) := by decide +kernel
theorem dh_97_9 : decode yh_97.2.1 9 = .ok (.lastore, 1) := by decide +kernel
theorem dh_97_10 : decode yh_97.2.1 10 = .ok (.goto 11, 3) := by decide +kernel
theorem dh_97_21 : decode yh_97.2.1 21 = .ok (.iconst 0, 1) := by decide +kernel
theorem dh_97_22 : decode yh_97.2.1 22 = .ok (.ireturn, 1) := by decide +kernel
theorem dh_97_13 : decode yh_97.2.1 13 = .ok (.astore 4, 2) := by decide +kernel
theorem dh_97_15 : decode yh_97.2.1 15 = .ok (.iconst 1, 1) := by decide +kernel
theorem dh_97_16 : decode yh_97.2.1 16 = .ok (.ireturn, 1) := by decide +kernel
theorem dh_97_17 : decode yh_97.2.1 17 = .ok (.astore 4, 2) := by decide +kernel
theorem dh_97_19 : decode yh_97.2.1 19 = .ok (.iconst 2, 1) := by decide +kernel
theorem dh_97_20 : decode yh_97.2.1 20 = .ok (.ireturn, 1) := by decide +kernel
theorem wl_98 : lw_tbl[1063]? = some (.methodLink "ServiceManagerLaw" 27 y_98.1) := by decide +kernel
theorem wm_98 : lw_tbl[1064]? = some (.instanceMethod y_98.1) := by decide +kernel
theorem we_98 : lw_tbl[1065]? = some (.selects "ServiceManager" y_98.1 y_98.1) := by decide +kernel
theorem dh_98_0 : decode yh_98.2.1 0 = .ok (.aload_n 2, 1) := by decide +kernel
theorem dh_98_1 : decode yh_98.2.1 1 = .ok (.iconst 0, 1) := by decide +kernel
theorem dh_98_2 : decode yh_98.2.1 2 = .ok (.aload_n 0, 1) := by decide +kernel
theorem dh_98_3 : decode yh_98.2.1 3 = .ok (.iload_n 1, 1) := by decide +kernel
theorem dh_98_4 : decode yh_98.2.1 4 = .ok (.invokevirtual 27, 3) := by decide +kernel
theorem dh_98_7 : decode yh_98.2.1 7 = .ok (.i2l, 1) := by decide +kernel
theorem dh_98_8 : decode yh_98.2.1 8 = .ok (.lastore, 1) := by decide +kernel
theorem dh_98_9 : decode yh_98.2.1 9 = .ok (.goto 6, 3) := by decide +kernel
theorem dh_98_15 : decode yh_98.2.1 15 = .ok (.iconst 0, 1) := by decide +kernel
theorem dh_98_16 : decode yh_98.2.1 16 = .ok (.ireturn, 1) := by decide +kernel
theorem dh_98_12 : decode yh_98.2.1 12 = .ok (.astore_n 3, 1) := by decide +kernel
theorem dh_98_13 : decode yh_98.2.1 13 = .ok (.iconst 1, 1) := by decide +kernel
theorem dh_98_14 : decode yh_98.2.1 14 = .ok (.ireturn, 1) := by decide +kernel
theorem wl_99 : lw_tbl[1070]? = some (.methodLink "ServiceManagerLaw" 30 y_99.1) := by decide +kernel
theorem wm_99 : lw_tbl[1071]? = some (.instanceMethod y_99.1) := by decide +kernel
theorem we_99 : lw_tbl[1072]? = some (.selects "ServiceManager" y_99.1 y_99.1) := by decide +kernel
theorem dh_99_0 : decode yh_99.2.1 0 = .ok (.aload_n 3, 1) := by decide +kernel
theorem dh_99_1 : decode yh_99.2.1 1 = .ok (.iconst 0, 1) := by decide +kernel
theorem dh_99_2 : decode yh_99.2.1 2 = .ok (.aload_n 0, 1) := by decide +kernel
theorem dh_99_3 : decode yh_99.2.1 3 = .ok (.iload_n 1, 1) := by decide +kernel
theorem dh_99_4 : decode yh_99.2.1 4 = .ok (.iload_n 2, 1) := by decide +kernel
theorem dh_99_5 : decode yh_99.2.1 5 = .ok (.invokevirtual 30, 3) := by decide +kernel
theorem dh_99_8 : decode yh_99.2.1 8 = .ok (.i2l, 1) := by decide +kernel
theorem dh_99_9 : decode yh_99.2.1 9 = .ok (.lastore, 1) := by decide +kernel
theorem dh_99_10 : decode yh_99.2.1 10 = .ok (.goto 7, 3) := by decide +kernel
theorem dh_99_17 : decode yh_99.2.1 17 = .ok (.iconst 0, 1) := by decide +kernel
theorem dh_99_18 : decode yh_99.2.1 18 = .ok (.ireturn, 1) := by decide +kernel
theorem dh_99_13 : decode yh_99.2.1 13 = .ok (.astore 4, 2) := by decide +kernel
theorem dh_99_15 : decode yh_99.2.1 15 = .ok (.iconst 1, 1) := by decide +kernel
theorem dh_99_16 : decode yh_99.2.1 16 = .ok (.ireturn, 1) := by decide +kernel
theorem wl_100 : lw_tbl[1078]? = some (.methodLink "ServiceManagerLaw" 34 y_100.1) := by decide +kernel
theorem wm_100 : lw_tbl[1079]? = some (.instanceMethod y_100.1) := by decide +kernel
theorem we_100 : lw_tbl[1080]? = some (.selects "ServiceManager" y_100.1 y_100.1) := by decide +kernel
theorem dh_100_0 : decode yh_100.2.1 0 = .ok (.aload_n 3, 1) := by decide +kernel
theorem dh_100_1 : decode yh_100.2.1 1 = .ok (.iconst 0, 1) := by decide +kernel
theorem dh_100_2 : decode yh_100.2.1 2 = .ok (.aload_n 0, 1) := by decide +kernel
theorem dh_100_3 : decode yh_100.2.1 3 = .ok (.iload_n 1, 1) := by decide +kernel
theorem dh_100_4 : decode yh_100.2.1 4 = .ok (.iload_n 2, 1) := by decide +kernel
theorem dh_100_5 : decode yh_100.2.1 5 = .ok (.invokevirtual 34, 3) := by decide +kernel
theorem dh_100_8 : decode yh_100.2.1 8 = .ok (.i2l, 1) := by decide +kernel
theorem dh_100_9 : decode yh_100.2.1 9 = .ok (.lastore, 1) := by decide +kernel
theorem dh_100_10 : decode yh_100.2.1 10 = .ok (.goto 7, 3) := by decide +kernel
theorem dh_100_17 : decode yh_100.2.1 17 = .ok (.iconst 0, 1) := by decide +kernel
theorem dh_100_18 : decode yh_100.2.1 18 = .ok (.ireturn, 1) := by decide +kernel
theorem dh_100_13 : decode yh_100.2.1 13 = .ok (.astore 4, 2) := by decide +kernel
theorem dh_100_15 : decode yh_100.2.1 15 = .ok (.iconst 1, 1) := by decide +kernel
theorem dh_100_16 : decode yh_100.2.1 16 = .ok (.ireturn, 1) := by decide +kernel
theorem wl_101 : lw_tbl[1085]? = some (.methodLink "ServiceManagerLaw" 37 y_101.1) := by decide +kernel
theorem wm_101 : lw_tbl[1086]? = some (.instanceMethod y_101.1) := by decide +kernel
theorem we_101 : lw_tbl[1087]? = some (.selects "ServiceManager" y_101.1 y_101.1) := by decide +kernel
theorem dh_101_0 : decode yh_101.2.1 0 = .ok (.aload_n 3, 1) := by decide +kernel
theorem dh_101_1 : decode yh_101.2.1 1 = .ok (.iconst 0, 1) := by decide +kernel
theorem dh_101_2 : decode yh_101.2.1 2 = .ok (.aload_n 0, 1) := by decide +kernel
theorem dh_101_3 : decode yh_101.2.1 3 = .ok (.iload_n 1, 1) := by decide +kernel
theorem dh_101_4 : decode yh_101.2.1 4 = .ok (.iload_n 2, 1) := by decide +kernel
theorem dh_101_5 : decode yh_101.2.1 5 = .ok (.invokevirtual 37, 3) := by decide +kernel
theorem dh_101_8 : decode yh_101.2.1 8 = .ok (.i2l, 1) := by decide +kernel
theorem dh_101_9 : decode yh_101.2.1 9 = .ok (.lastore, 1) := by decide +kernel
theorem dh_101_10 : decode yh_101.2.1 10 = .ok (.goto 7, 3) := by decide +kernel
theorem dh_101_17 : decode yh_101.2.1 17 = .ok (.iconst 0, 1) := by decide +kernel
theorem dh_101_18 : decode yh_101.2.1 18 = .ok (.ireturn, 1) := by decide +kernel
theorem dh_101_13 : decode yh_101.2.1 13 = .ok (.astore 4, 2) := by decide +kernel
theorem dh_101_15 : decode yh_101.2.1 15 = .ok (.iconst 1, 1) := by decide +kernel
theorem dh_101_16 : decode yh_101.2.1 16 = .ok (.ireturn, 1) := by decide +kernel
theorem wl_102 : lw_tbl[1092]? = some (.methodLink "ServiceManagerLaw" 40 y_102.1) := by decide +kernel
theorem wm_102 : lw_tbl[1093]? = some (.instanceMethod y_102.1) := by decide +kernel
theorem we_102 : lw_tbl[1094]? = some (.selects "ServiceManager" y_102.1 y_102.1) := by decide +kernel
theorem dh_102_0 : decode yh_102.2.1 0 = .ok (.aload 4, 2) := by decide +kernel
theorem dh_102_2 : decode yh_102.2.1 2 = .ok (.iconst 0, 1) := by decide +kernel
theorem dh_102_3 : decode yh_102.2.1 3 = .ok (.aload_n 0, 1) := by decide +kernel
theorem dh_102_4 : decode yh_102.2.1 4 = .ok (.iload_n 1, 1) := by decide +kernel
theorem dh_102_5 : decode yh_102.2.1 5 = .ok (.iload_n 2, 1) := by decide +kernel
theorem dh_102_6 : decode yh_102.2.1 6 = .ok (.iload_n 3, 1) := by decide +kernel
theorem dh_102_7 : decode yh_102.2.1 7 = .ok (.invokevirtual 40, 3) := by decide +kernel
theorem dh_102_10 : decode yh_102.2.1 10 = .ok (.i2l, 1) := by decide +kernel
theorem dh_102_11 : decode yh_102.2.1 11 = .ok (.lastore, 1) := by decide +kernel
theorem dh_102_12 : decode yh_102.2.1 12 = .ok (.goto 11, 3) := by decide +kernel
theorem dh_102_23 : decode yh_102.2.1 23 = .ok (.iconst 0, 1) := by decide +kernel
theorem dh_102_24 : decode yh_102.2.1 24 = .ok (.ireturn, 1) := by decide +kernel
theorem dh_102_15 : decode yh_102.2.1 15 = .ok (.astore 5, 2) := by decide +kernel
theorem dh_102_17 : decode yh_102.2.1 17 = .ok (.iconst 1, 1) := by decide +kernel
theorem dh_102_18 : decode yh_102.2.1 18 = .ok (.ireturn, 1) := by decide +kernel
theorem dh_102_19 : decode yh_102.2.1 19 = .ok (.astore 5, 2) := by decide +kernel
theorem dh_102_21 : decode yh_102.2.1 21 = .ok (.iconst 2, 1) := by decide +kernel
theorem dh_102_22 : decode yh_102.2.1 22 = .ok (.ireturn, 1) := by decide +kernel
theorem wl_104 : lw_tbl[1104]? = some (.methodLink "ServiceManagerLaw" 44 y_104.1) := by decide +kernel
theorem wm_104 : lw_tbl[1105]? = some (.instanceMethod y_104.1) := by decide +kernel
theorem we_104 : lw_tbl[1106]? = some (.selects "ServiceManager" y_104.1 y_104.1) := by decide +kernel
theorem dh_104_0 : decode yh_104.2.1 0 = .ok (.aload_n 3, 1) := by decide +kernel
theorem dh_104_1 : decode yh_104.2.1 1 = .ok (.iconst 0, 1) := by decide +kernel
theorem dh_104_2 : decode yh_104.2.1 2 = .ok (.aload_n 0, 1) := by decide +kernel
theorem dh_104_3 : decode yh_104.2.1 3 = .ok (.iload_n 1, 1) := by decide +kernel
theorem dh_104_4 : decode yh_104.2.1 4 = .ok (.iload_n 2, 1) := by decide +kernel
theorem dh_104_5 : decode yh_104.2.1 5 = .ok (.invokevirtual 44, 3) := by decide +kernel
theorem dh_104_8 : decode yh_104.2.1 8 = .ok (.i2l, 1) := by decide +kernel
theorem dh_104_9 : decode yh_104.2.1 9 = .ok (.lastore, 1) := by decide +kernel
theorem dh_104_10 : decode yh_104.2.1 10 = .ok (.goto 11, 3) := by decide +kernel
theorem dh_104_21 : decode yh_104.2.1 21 = .ok (.iconst 0, 1) := by decide +kernel
theorem dh_104_22 : decode yh_104.2.1 22 = .ok (.ireturn, 1) := by decide +kernel
theorem dh_104_13 : decode yh_104.2.1 13 = .ok (.astore 4, 2) := by decide +kernel
theorem dh_104_15 : decode yh_104.2.1 15 = .ok (.iconst 1, 1) := by decide +kernel
theorem dh_104_16 : decode yh_104.2.1 16 = .ok (.ireturn, 1) := by decide +kernel
theorem dh_104_17 : decode yh_104.2.1 17 = .ok (.astore 4, 2) := by decide +kernel
theorem dh_104_19 : decode yh_104.2.1 19 = .ok (.iconst 2, 1) := by decide +kernel
theorem dh_104_20 : decode yh_104.2.1 20 = .ok (.ireturn, 1) := by decide +kernel
theorem wl_108 : lw_tbl[1126]? = some (.methodLink "ServiceManagerLaw" 47 y_108.1) := by decide +kernel
theorem wm_108 : lw_tbl[1127]? = some (.instanceMethod y_108.1) := by decide +kernel
theorem we_108 : lw_tbl[1128]? = some (.selects "ServiceManager" y_108.1 y_108.1) := by decide +kernel
theorem dh_108_0 : decode yh_108.2.1 0 = .ok (.aload_n 2, 1) := by decide +kernel
theorem dh_108_1 : decode yh_108.2.1 1 = .ok (.iconst 0, 1) := by decide +kernel
theorem dh_108_2 : decode yh_108.2.1 2 = .ok (.aload_n 0, 1) := by decide +kernel
theorem dh_108_3 : decode yh_108.2.1 3 = .ok (.iload_n 1, 1) := by decide +kernel
theorem dh_108_4 : decode yh_108.2.1 4 = .ok (.invokevirtual 47, 3) := by decide +kernel
theorem dh_108_7 : decode yh_108.2.1 7 = .ok (.i2l, 1) := by decide +kernel
theorem dh_108_8 : decode yh_108.2.1 8 = .ok (.lastore, 1) := by decide +kernel
theorem dh_108_9 : decode yh_108.2.1 9 = .ok (.goto 6, 3) := by decide +kernel
theorem dh_108_15 : decode yh_108.2.1 15 = .ok (.iconst 0, 1) := by decide +kernel
theorem dh_108_16 : decode yh_108.2.1 16 = .ok (.ireturn, 1) := by decide +kernel
theorem dh_108_12 : decode yh_108.2.1 12 = .ok (.astore_n 3, 1) := by decide +kernel
theorem dh_108_13 : decode yh_108.2.1 13 = .ok (.iconst 1, 1) := by decide +kernel
theorem dh_108_14 : decode yh_108.2.1 14 = .ok (.ireturn, 1) := by decide +kernel
theorem wl_110 : lw_tbl[1138]? = some (.methodLink "ServiceManagerLaw" 50 y_110.1) := by decide +kernel
theorem wm_110 : lw_tbl[1139]? = some (.instanceMethod y_110.1) := by decide +kernel
theorem we_110 : lw_tbl[1140]? = some (.selects "ServiceManager" y_110.1 y_110.1) := by decide +kernel
theorem dh_110_0 : decode yh_110.2.1 0 = .ok (.aload_n 2, 1) := by decide +kernel
theorem dh_110_1 : decode yh_110.2.1 1 = .ok (.iconst 0, 1) := by decide +kernel
theorem dh_110_2 : decode yh_110.2.1 2 = .ok (.aload_n 0, 1) := by decide +kernel
theorem dh_110_3 : decode yh_110.2.1 3 = .ok (.iload_n 1, 1) := by decide +kernel
theorem dh_110_4 : decode yh_110.2.1 4 = .ok (.invokevirtual 50, 3) := by decide +kernel
theorem dh_110_7 : decode yh_110.2.1 7 = .ok (.i2l, 1) := by decide +kernel
theorem dh_110_8 : decode yh_110.2.1 8 = .ok (.lastore, 1) := by decide +kernel
theorem dh_110_9 : decode yh_110.2.1 9 = .ok (.goto 6, 3) := by decide +kernel
theorem dh_110_15 : decode yh_110.2.1 15 = .ok (.iconst 0, 1) := by decide +kernel
theorem dh_110_16 : decode yh_110.2.1 16 = .ok (.ireturn, 1) := by decide +kernel
theorem dh_110_12 : decode yh_110.2.1 12 = .ok (.astore_n 3, 1) := by decide +kernel
theorem dh_110_13 : decode yh_110.2.1 13 = .ok (.iconst 1, 1) := by decide +kernel
theorem dh_110_14 : decode yh_110.2.1 14 = .ok (.ireturn, 1) := by decide +kernel
theorem wl_111 : lw_tbl[1146]? = some (.methodLink "ServiceManagerLaw" 53 y_111.1) := by decide +kernel
theorem wm_111 : lw_tbl[1147]? = some (.instanceMethod y_111.1) := by decide +kernel
theorem we_111 : lw_tbl[1148]? = some (.selects "ServiceManager" y_111.1 y_111.1) := by decide +kernel
theorem dh_111_0 : decode yh_111.2.1 0 = .ok (.aload_n 2, 1) := by decide +kernel
theorem dh_111_1 : decode yh_111.2.1 1 = .ok (.iconst 0, 1) := by decide +kernel
theorem dh_111_2 : decode yh_111.2.1 2 = .ok (.aload_n 0, 1) := by decide +kernel
theorem dh_111_3 : decode yh_111.2.1 3 = .ok (.iload_n 1, 1) := by decide +kernel
theorem dh_111_4 : decode yh_111.2.1 4 = .ok (.invokevirtual 53, 3) := by decide +kernel
theorem dh_111_7 : decode yh_111.2.1 7 = .ok (.ifCond .eq 7, 3) := by decide +kernel
theorem dh_111_14 : decode yh_111.2.1 14 = .ok (.lconst 0, 1) := by decide +kernel
theorem dh_111_15 : decode yh_111.2.1 15 = .ok (.lastore, 1) := by decide +kernel
theorem dh_111_16 : decode yh_111.2.1 16 = .ok (.goto 6, 3) := by decide +kernel
theorem dh_111_22 : decode yh_111.2.1 22 = .ok (.iconst 0, 1) := by decide +kernel
theorem dh_111_23 : decode yh_111.2.1 23 = .ok (.ireturn, 1) := by decide +kernel
theorem dh_111_10 : decode yh_111.2.1 10 = .ok (.lconst 1, 1) := by decide +kernel
theorem dh_111_11 : decode yh_111.2.1 11 = .ok (.goto 4, 3) := by decide +kernel
theorem dh_111_19 : decode yh_111.2.1 19 = .ok (.astore_n 3, 1) := by decide +kernel
theorem dh_111_20 : decode yh_111.2.1 20 = .ok (.iconst 1, 1) := by decide +kernel
theorem dh_111_21 : decode yh_111.2.1 21 = .ok (.ireturn, 1) := by decide +kernel
theorem wl_112 : lw_tbl[1153]? = some (.methodLink "ServiceManagerLaw" 57 y_112.1) := by decide +kernel
theorem wm_112 : lw_tbl[1154]? = some (.instanceMethod y_112.1) := by decide +kernel
theorem we_112 : lw_tbl[1155]? = some (.selects "ServiceManager" y_112.1 y_112.1) := by decide +kernel
theorem dh_112_0 : decode yh_112.2.1 0 = .ok (.aload_n 2, 1) := by decide +kernel
theorem dh_112_1 : decode yh_112.2.1 1 = .ok (.iconst 0, 1) := by decide +kernel
theorem dh_112_2 : decode yh_112.2.1 2 = .ok (.aload_n 0, 1) := by decide +kernel
theorem dh_112_3 : decode yh_112.2.1 3 = .ok (.iload_n 1, 1) := by decide +kernel
theorem dh_112_4 : decode yh_112.2.1 4 = .ok (.invokevirtual 57, 3) := by decide +kernel
theorem dh_112_7 : decode yh_112.2.1 7 = .ok (.i2l, 1) := by decide +kernel
theorem dh_112_8 : decode yh_112.2.1 8 = .ok (.lastore, 1) := by decide +kernel
theorem dh_112_9 : decode yh_112.2.1 9 = .ok (.goto 6, 3) := by decide +kernel
theorem dh_112_15 : decode yh_112.2.1 15 = .ok (.iconst 0, 1) := by decide +kernel
theorem dh_112_16 : decode yh_112.2.1 16 = .ok (.ireturn, 1) := by decide +kernel
theorem dh_112_12 : decode yh_112.2.1 12 = .ok (.astore_n 3, 1) := by decide +kernel
theorem dh_112_13 : decode yh_112.2.1 13 = .ok (.iconst 1, 1) := by decide +kernel
theorem dh_112_14 : decode yh_112.2.1 14 = .ok (.ireturn, 1) := by decide +kernel
theorem wl_113 : lw_tbl[1161]? = some (.methodLink "ServiceManagerLaw" 60 y_113.1) := by decide +kernel
theorem wm_113 : lw_tbl[1162]? = some (.instanceMethod y_113.1) := by decide +kernel
theorem we_113 : lw_tbl[1163]? = some (.selects "ServiceManager" y_113.1 y_113.1) := by decide +kernel
theorem dh_113_0 : decode yh_113.2.1 0 = .ok (.aload_n 2, 1) := by decide +kernel
theorem dh_113_1 : decode yh_113.2.1 1 = .ok (.iconst 0, 1) := by decide +kernel
theorem dh_113_2 : decode yh_113.2.1 2 = .ok (.aload_n 0, 1) := by decide +kernel
theorem dh_113_3 : decode yh_113.2.1 3 = .ok (.iload_n 1, 1) := by decide +kernel
theorem dh_113_4 : decode yh_113.2.1 4 = .ok (.invokevirtual 60, 3) := by decide +kernel
theorem dh_113_7 : decode yh_113.2.1 7 = .ok (.i2l, 1) := by decide +kernel
theorem dh_113_8 : decode yh_113.2.1 8 = .ok (.lastore, 1) := by decide +kernel
theorem dh_113_9 : decode yh_113.2.1 9 = .ok (.goto 6, 3) := by decide +kernel
theorem dh_113_15 : decode yh_113.2.1 15 = .ok (.iconst 0, 1) := by decide +kernel
theorem dh_113_16 : decode yh_113.2.1 16 = .ok (.ireturn, 1) := by decide +kernel
theorem dh_113_12 : decode yh_113.2.1 12 = .ok (.astore_n 3, 1) := by decide +kernel
theorem dh_113_13 : decode yh_113.2.1 13 = .ok (.iconst 1, 1) := by decide +kernel
theorem dh_113_14 : decode yh_113.2.1 14 = .ok (.ireturn, 1) := by decide +kernel
theorem wl_114 : lw_tbl[1168]? = some (.methodLink "ServiceManagerLaw" 63 y_114.1) := by decide +kernel
theorem wm_114 : lw_tbl[1169]? = some (.instanceMethod y_114.1) := by decide +kernel
theorem we_114 : lw_tbl[1170]? = some (.selects "ServiceManager" y_114.1 y_114.1) := by decide +kernel
theorem dh_114_0 : decode yh_114.2.1 0 = .ok (.aload_n 2, 1) := by decide +kernel
theorem dh_114_1 : decode yh_114.2.1 1 = .ok (.iconst 0, 1) := by decide +kernel
theorem dh_114_2 : decode yh_114.2.1 2 = .ok (.aload_n 0, 1) := by decide +kernel
theorem dh_114_3 : decode yh_114.2.1 3 = .ok (.iload_n 1, 1) := by decide +kernel
theorem dh_114_4 : decode yh_114.2.1 4 = .ok (.invokevirtual 63, 3) := by decide +kernel
theorem dh_114_7 : decode yh_114.2.1 7 = .ok (.i2l, 1) := by decide +kernel
theorem dh_114_8 : decode yh_114.2.1 8 = .ok (.lastore, 1) := by decide +kernel
theorem dh_114_9 : decode yh_114.2.1 9 = .ok (.goto 6, 3) := by decide +kernel
theorem dh_114_15 : decode yh_114.2.1 15 = .ok (.iconst 0, 1) := by decide +kernel
theorem dh_114_16 : decode yh_114.2.1 16 = .ok (.ireturn, 1) := by decide +kernel
theorem dh_114_12 : decode yh_114.2.1 12 = .ok (.astore_n 3, 1) := by decide +kernel
theorem dh_114_13 : decode yh_114.2.1 13 = .ok (.iconst 1, 1) := by decide +kernel
theorem dh_114_14 : decode yh_114.2.1 14 = .ok (.ireturn, 1) := by decide +kernel
theorem wl_115 : lw_tbl[1176]? = some (.methodLink "ServiceManagerLaw" 66 y_115.1) := by decide +kernel
theorem wm_115 : lw_tbl[1177]? = some (.instanceMethod y_115.1) := by decide +kernel
theorem we_115 : lw_tbl[1178]? = some (.selects "ServiceManager" y_115.1 y_115.1) := by decide +kernel
theorem dh_115_0 : decode yh_115.2.1 0 = .ok (.aload_n 3, 1) := by decide +kernel
theorem dh_115_1 : decode yh_115.2.1 1 = .ok (.iconst 0, 1) := by decide +kernel
theorem dh_115_2 : decode yh_115.2.1 2 = .ok (.aload_n 0, 1) := by decide +kernel
theorem dh_115_3 : decode yh_115.2.1 3 = .ok (.iload_n 1, 1) := by decide +kernel
theorem dh_115_4 : decode yh_115.2.1 4 = .ok (.iload_n 2, 1) := by decide +kernel
theorem dh_115_5 : decode yh_115.2.1 5 = .ok (.invokevirtual 66, 3) := by decide +kernel
theorem dh_115_8 : decode yh_115.2.1 8 = .ok (.i2l, 1) := by decide +kernel
theorem dh_115_9 : decode yh_115.2.1 9 = .ok (.lastore, 1) := by decide +kernel
theorem dh_115_10 : decode yh_115.2.1 10 = .ok (.goto 11, 3) := by decide +kernel
theorem dh_115_21 : decode yh_115.2.1 21 = .ok (.iconst 0, 1) := by decide +kernel
theorem dh_115_22 : decode yh_115.2.1 22 = .ok (.ireturn, 1) := by decide +kernel
theorem dh_115_13 : decode yh_115.2.1 13 = .ok (.astore 4, 2) := by decide +kernel
theorem dh_115_15 : decode yh_115.2.1 15 = .ok (.iconst 1, 1) := by decide +kernel
theorem dh_115_16 : decode yh_115.2.1 16 = .ok (.ireturn, 1) := by decide +kernel
theorem dh_115_17 : decode yh_115.2.1 17 = .ok (.astore 4, 2) := by decide +kernel
theorem dh_115_19 : decode yh_115.2.1 19 = .ok (.iconst 2, 1) := by decide +kernel
theorem dh_115_20 : decode yh_115.2.1 20 = .ok (.ireturn, 1) := by decide +kernel
theorem wl_118 : lw_tbl[1191]? = some (.methodLink "ServiceManagerLaw" 69 y_118.1) := by decide +kernel
theorem wm_118 : lw_tbl[1192]? = some (.instanceMethod y_118.1) := by decide +kernel
theorem we_118 : lw_tbl[1193]? = some (.selects "ServiceManager" y_118.1 y_118.1) := by decide +kernel
theorem dh_118_0 : decode yh_118.2.1 0 = .ok (.aload_n 3, 1) := by decide +kernel
theorem dh_118_1 : decode yh_118.2.1 1 = .ok (.iconst 0, 1) := by decide +kernel
theorem dh_118_2 : decode yh_118.2.1 2 = .ok (.aload_n 0, 1) := by decide +kernel
theorem dh_118_3 : decode yh_118.2.1 3 = .ok (.iload_n 1, 1) := by decide +kernel
theorem dh_118_4 : decode yh_118.2.1 4 = .ok (.iload_n 2, 1) := by decide +kernel
theorem dh_118_5 : decode yh_118.2.1 5 = .ok (.invokevirtual 69, 3) := by decide +kernel
theorem dh_118_8 : decode yh_118.2.1 8 = .ok (.i2l, 1) := by decide +kernel
theorem dh_118_9 : decode yh_118.2.1 9 = .ok (.lastore, 1) := by decide +kernel
theorem dh_118_10 : decode yh_118.2.1 10 = .ok (.goto 11, 3) := by decide +kernel
theorem dh_118_21 : decode yh_118.2.1 21 = .ok (.iconst 0, 1) := by decide +kernel
theorem dh_118_22 : decode yh_118.2.1 22 = .ok (.ireturn, 1) := by decide +kernel
theorem dh_118_13 : decode yh_118.2.1 13 = .ok (.astore 4, 2) := by decide +kernel
theorem dh_118_15 : decode yh_118.2.1 15 = .ok (.iconst 1, 1) := by decide +kernel
theorem dh_118_16 : decode yh_118.2.1 16 = .ok (.ireturn, 1) := by decide +kernel
theorem dh_118_17 : decode yh_118.2.1 17 = .ok (.astore 4, 2) := by decide +kernel
theorem dh_118_19 : decode yh_118.2.1 19 = .ok (.iconst 2, 1) := by decide +kernel
theorem dh_118_20 : decode yh_118.2.1 20 = .ok (.ireturn, 1) := by decide +kernel
theorem wl_119 : lw_tbl[1198]? = some (.methodLink "ServiceManagerLaw" 72 y_119.1) := by decide +kernel
theorem wm_119 : lw_tbl[1199]? = some (.instanceMethod y_119.1) := by decide +kernel
theorem we_119 : lw_tbl[1200]? = some (.selects "ServiceManager" y_119.1 y_119.1) := by decide +kernel
theorem dh_119_0 : decode yh_119.2.1 0 = .ok (.aload_n 2, 1) := by decide +kernel
theorem dh_119_1 : decode yh_119.2.1 1 = .ok (.iconst 0, 1) := by decide +kernel
theorem dh_119_2 : decode yh_119.2.1 2 = .ok (.aload_n 0, 1) := by decide +kernel
theorem dh_119_3 : decode yh_119.2.1 3 = .ok (.iload_n 1, 1) := by decide +kernel
theorem dh_119_4 : decode yh_119.2.1 4 = .ok (.invokevirtual 72, 3) := by decide +kernel
theorem dh_119_7 : decode yh_119.2.1 7 = .ok (.ifCond .eq 7, 3) := by decide +kernel
theorem dh_119_14 : decode yh_119.2.1 14 = .ok (.lconst 0, 1) := by decide +kernel
theorem dh_119_15 : decode yh_119.2.1 15 = .ok (.lastore, 1) := by decide +kernel
theorem dh_119_16 : decode yh_119.2.1 16 = .ok (.goto 6, 3) := by decide +kernel
theorem dh_119_22 : decode yh_119.2.1 22 = .ok (.iconst 0, 1) := by decide +kernel
theorem dh_119_23 : decode yh_119.2.1 23 = .ok (.ireturn, 1) := by decide +kernel
theorem dh_119_10 : decode yh_119.2.1 10 = .ok (.lconst 1, 1) := by decide +kernel
theorem dh_119_11 : decode yh_119.2.1 11 = .ok (.goto 4, 3) := by decide +kernel
theorem dh_119_19 : decode yh_119.2.1 19 = .ok (.astore_n 3, 1) := by decide +kernel
theorem dh_119_20 : decode yh_119.2.1 20 = .ok (.iconst 1, 1) := by decide +kernel
theorem dh_119_21 : decode yh_119.2.1 21 = .ok (.ireturn, 1) := by decide +kernel
theorem wl_121 : lw_tbl[1209]? = some (.methodLink "ServiceManagerLaw" 75 y_121.1) := by decide +kernel
theorem wm_121 : lw_tbl[1210]? = some (.instanceMethod y_121.1) := by decide +kernel
theorem we_121 : lw_tbl[1211]? = some (.selects "ServiceManager" y_121.1 y_121.1) := by decide +kernel
theorem dh_121_0 : decode yh_121.2.1 0 = .ok (.aload_n 3, 1) := by decide +kernel
theorem dh_121_1 : decode yh_121.2.1 1 = .ok (.iconst 0, 1) := by decide +kernel
theorem dh_121_2 : decode yh_121.2.1 2 = .ok (.aload_n 0, 1) := by decide +kernel
theorem dh_121_3 : decode yh_121.2.1 3 = .ok (.iload_n 1, 1) := by decide +kernel
theorem dh_121_4 : decode yh_121.2.1 4 = .ok (.iload_n 2, 1) := by decide +kernel
theorem dh_121_5 : decode yh_121.2.1 5 = .ok (.invokevirtual 75, 3) := by decide +kernel
theorem dh_121_8 : decode yh_121.2.1 8 = .ok (.ifCond .eq 7, 3) := by decide +kernel
theorem dh_121_15 : decode yh_121.2.1 15 = .ok (.lconst 0, 1) := by decide +kernel
theorem dh_121_16 : decode yh_121.2.1 16 = .ok (.lastore, 1) := by decide +kernel
theorem dh_121_17 : decode yh_121.2.1 17 = .ok (.goto 7, 3) := by decide +kernel
theorem dh_121_24 : decode yh_121.2.1 24 = .ok (.iconst 0, 1) := by decide +kernel
theorem dh_121_25 : decode yh_121.2.1 25 = .ok (.ireturn, 1) := by decide +kernel
theorem dh_121_11 : decode yh_121.2.1 11 = .ok (.lconst 1, 1) := by decide +kernel
theorem dh_121_12 : decode yh_121.2.1 12 = .ok (.goto 4, 3) := by decide +kernel
theorem dh_121_20 : decode yh_121.2.1 20 = .ok (.astore 4, 2) := by decide +kernel
theorem dh_121_22 : decode yh_121.2.1 22 = .ok (.iconst 1, 1) := by decide +kernel
theorem dh_121_23 : decode yh_121.2.1 23 = .ok (.ireturn, 1) := by decide +kernel
theorem wl_122 : lw_tbl[1216]? = some (.methodLink "ServiceManagerLaw" 79 y_122.1) := by decide +kernel
theorem wm_122 : lw_tbl[1217]? = some (.instanceMethod y_122.1) := by decide +kernel
theorem we_122 : lw_tbl[1218]? = some (.selects "ServiceManager" y_122.1 y_122.1) := by decide +kernel
theorem dh_122_0 : decode yh_122.2.1 0 = .ok (.aload_n 2, 1) := by decide +kernel
theorem dh_122_1 : decode yh_122.2.1 1 = .ok (.iconst 0, 1) := by decide +kernel
theorem dh_122_2 : decode yh_122.2.1 2 = .ok (.aload_n 0, 1) := by decide +kernel
theorem dh_122_3 : decode yh_122.2.1 3 = .ok (.iload_n 1, 1) := by decide +kernel
theorem dh_122_4 : decode yh_122.2.1 4 = .ok (.invokevirtual 79, 3) := by decide +kernel
theorem dh_122_7 : decode yh_122.2.1 7 = .ok (.i2l, 1) := by decide +kernel
theorem dh_122_8 : decode yh_122.2.1 8 = .ok (.lastore, 1) := by decide +kernel
theorem dh_122_9 : decode yh_122.2.1 9 = .ok (.goto 6, 3) := by decide +kernel
theorem dh_122_15 : decode yh_122.2.1 15 = .ok (.iconst 0, 1) := by decide +kernel
theorem dh_122_16 : decode yh_122.2.1 16 = .ok (.ireturn, 1) := by decide +kernel
theorem dh_122_12 : decode yh_122.2.1 12 = .ok (.astore_n 3, 1) := by decide +kernel
theorem dh_122_13 : decode yh_122.2.1 13 = .ok (.iconst 1, 1) := by decide +kernel
theorem dh_122_14 : decode yh_122.2.1 14 = .ok (.ireturn, 1) := by decide +kernel
theorem wl_123 : lw_tbl[1223]? = some (.methodLink "ServiceManagerLaw" 82 y_123.1) := by decide +kernel
theorem wm_123 : lw_tbl[1224]? = some (.instanceMethod y_123.1) := by decide +kernel
theorem we_123 : lw_tbl[1225]? = some (.selects "ServiceManager" y_123.1 y_123.1) := by decide +kernel
theorem dh_123_0 : decode yh_123.2.1 0 = .ok (.aload_n 2, 1) := by decide +kernel
theorem dh_123_1 : decode yh_123.2.1 1 = .ok (.iconst 0, 1) := by decide +kernel
theorem dh_123_2 : decode yh_123.2.1 2 = .ok (.aload_n 0, 1) := by decide +kernel
theorem dh_123_3 : decode yh_123.2.1 3 = .ok (.iload_n 1, 1) := by decide +kernel
theorem dh_123_4 : decode yh_123.2.1 4 = .ok (.invokevirtual 82, 3) := by decide +kernel
theorem dh_123_7 : decode yh_123.2.1 7 = .ok (.i2l, 1) := by decide +kernel
theorem dh_123_8 : decode yh_123.2.1 8 = .ok (.lastore, 1) := by decide +kernel
theorem dh_123_9 : decode yh_123.2.1 9 = .ok (.goto 6, 3) := by decide +kernel
theorem dh_123_15 : decode yh_123.2.1 15 = .ok (.iconst 0, 1) := by decide +kernel
theorem dh_123_16 : decode yh_123.2.1 16 = .ok (.ireturn, 1) := by decide +kernel
theorem dh_123_12 : decode yh_123.2.1 12 = .ok (.astore_n 3, 1) := by decide +kernel
theorem dh_123_13 : decode yh_123.2.1 13 = .ok (.iconst 1, 1) := by decide +kernel
theorem dh_123_14 : decode yh_123.2.1 14 = .ok (.ireturn, 1) := by decide +kernel
theorem wl_124 : lw_tbl[1230]? = some (.methodLink "ServiceManagerLaw" 85 y_124.1) := by decide +kernel
theorem wm_124 : lw_tbl[1231]? = some (.instanceMethod y_124.1) := by decide +kernel
theorem we_124 : lw_tbl[1232]? = some (.selects "ServiceManager" y_124.1 y_124.1) := by decide +kernel
theorem dh_124_0 : decode yh_124.2.1 0 = .ok (.aload_n 2, 1) := by decide +kernel
theorem dh_124_1 : decode yh_124.2.1 1 = .ok (.iconst 0, 1) := by decide +kernel
theorem dh_124_2 : decode yh_124.2.1 2 = .ok (.aload_n 0, 1) := by decide +kernel
theorem dh_124_3 : decode yh_124.2.1 3 = .ok (.iload_n 1, 1) := by decide +kernel
theorem dh_124_4 : decode yh_124.2.1 4 = .ok (.invokevirtual 85, 3) := by decide +kernel
theorem dh_124_7 : decode yh_124.2.1 7 = .ok (.i2l, 1) := by decide +kernel
theorem dh_124_8 : decode yh_124.2.1 8 = .ok (.lastore, 1) := by decide +kernel
theorem dh_124_9 : decode yh_124.2.1 9 = .ok (.goto 6, 3) := by decide +kernel
theorem dh_124_15 : decode yh_124.2.1 15 = .ok (.iconst 0, 1) := by decide +kernel
theorem dh_124_16 : decode yh_124.2.1 16 = .ok (.ireturn, 1) := by decide +kernel
theorem dh_124_12 : decode yh_124.2.1 12 = .ok (.astore_n 3, 1) := by decide +kernel
theorem dh_124_13 : decode yh_124.2.1 13 = .ok (.iconst 1, 1) := by decide +kernel
theorem dh_124_14 : decode yh_124.2.1 14 = .ok (.ireturn, 1) := by decide +kernel
theorem wl_125 : lw_tbl[1237]? = some (.methodLink "ServiceManagerLaw" 88 y_125.1) := by decide +kernel
theorem wm_125 : lw_tbl[1238]? = some (.instanceMethod y_125.1) := by decide +kernel
theorem we_125 : lw_tbl[1239]? = some (.selects "ServiceManager" y_125.1 y_125.1) := by decide +kernel
theorem dh_125_0 : decode yh_125.2.1 0 = .ok (.aload_n 2, 1) := by decide +kernel
theorem dh_125_1 : decode yh_125.2.1 1 = .ok (.iconst 0, 1) := by decide +kernel
theorem dh_125_2 : decode yh_125.2.1 2 = .ok (.aload_n 0, 1) := by decide +kernel
theorem dh_125_3 : decode yh_125.2.1 3 = .ok (.iload_n 1, 1) := by decide +kernel
theorem dh_125_4 : decode yh_125.2.1 4 = .ok (.invokevirtual 88, 3) := by decide +kernel
theorem dh_125_7 : decode yh_125.2.1 7 = .ok (.i2l, 1) := by decide +kernel
theorem dh_125_8 : decode yh_125.2.1 8 = .ok (.lastore, 1) := by decide +kernel
theorem dh_125_9 : decode yh_125.2.1 9 = .ok (.goto 6, 3) := by decide +kernel
theorem dh_125_15 : decode yh_125.2.1 15 = .ok (.iconst 0, 1) := by decide +kernel
theorem dh_125_16 : decode yh_125.2.1 16 = .ok (.ireturn, 1) := by decide +kernel
theorem dh_125_12 : decode yh_125.2.1 12 = .ok (.astore_n 3, 1) := by decide +kernel
theorem dh_125_13 : decode yh_125.2.1 13 = .ok (.iconst 1, 1) := by decide +kernel
theorem dh_125_14 : decode yh_125.2.1 14 = .ok (.ireturn, 1) := by decide +kernel
theorem wl_126 : lw_tbl[1244]? = some (.methodLink "ServiceManagerLaw" 91 y_126.1) := by decide +kernel
theorem wm_126 : lw_tbl[1245]? = some (.instanceMethod y_126.1) := by decide +kernel
theorem we_126 : lw_tbl[1246]? = some (.selects "ServiceManager" y_126.1 y_126.1) := by decide +kernel
theorem dh_126_0 : decode yh_126.2.1 0 = .ok (.aload_n 2, 1) := by decide +kernel
theorem dh_126_1 : decode yh_126.2.1 1 = .ok (.iconst 0, 1) := by decide +kernel
theorem dh_126_2 : decode yh_126.2.1 2 = .ok (.aload_n 0, 1) := by decide +kernel
theorem dh_126_3 : decode yh_126.2.1 3 = .ok (.iload_n 1, 1) := by decide +kernel
theorem dh_126_4 : decode yh_126.2.1 4 = .ok (.invokevirtual 91, 3) := by decide +kernel
theorem dh_126_7 : decode yh_126.2.1 7 = .ok (.i2l, 1) := by decide +kernel
theorem dh_126_8 : decode yh_126.2.1 8 = .ok (.lastore, 1) := by decide +kernel
theorem dh_126_9 : decode yh_126.2.1 9 = .ok (.goto 6, 3) := by decide +kernel
theorem dh_126_15 : decode yh_126.2.1 15 = .ok (.iconst 0, 1) := by decide +kernel
theorem dh_126_16 : decode yh_126.2.1 16 = .ok (.ireturn, 1) := by decide +kernel
theorem dh_126_12 : decode yh_126.2.1 12 = .ok (.astore_n 3, 1) := by decide +kernel
theorem dh_126_13 : decode yh_126.2.1 13 = .ok (.iconst 1, 1) := by decide +kernel
theorem dh_126_14 : decode yh_126.2.1 14 = .ok (.ireturn, 1) := by decide +kernel
theorem wl_127 : lw_tbl[1251]? = some (.methodLink "ServiceManagerLaw" 94 y_127.1) := by decide +kernel
theorem wm_127 : lw_tbl[1252]? = some (.instanceMethod y_127.1) := by decide +kernel
theorem we_127 : lw_tbl[1253]? = some (.selects "ServiceManager" y_127.1 y_127.1) := by decide +kernel
theorem dh_127_0 : decode yh_127.2.1 0 = .ok (.aload_n 2, 1) := by decide +kernel
theorem dh_127_1 : decode yh_127.2.1 1 = .ok (.iconst 0, 1) := by decide +kernel
theorem dh_127_2 : decode yh_127.2.1 2 = .ok (.aload_n 0, 1) := by decide +kernel
theorem dh_127_3 : decode yh_127.2.1 3 = .ok (.iload_n 1, 1) := by decide +kernel
theorem dh_127_4 : decode yh_127.2.1 4 = .ok (.invokevirtual 94, 3) := by decide +kernel
theorem dh_127_7 : decode yh_127.2.1 7 = .ok (.i2l, 1) := by decide +kernel
theorem dh_127_8 : decode yh_127.2.1 8 = .ok (.lastore, 1) := by decide +kernel
theorem dh_127_9 : decode yh_127.2.1 9 = .ok (.goto 6, 3) := by decide +kernel
theorem dh_127_15 : decode yh_127.2.1 15 = .ok (.iconst 0, 1) := by decide +kernel
theorem dh_127_16 : decode yh_127.2.1 16 = .ok (.ireturn, 1) := by decide +kernel
theorem dh_127_12 : decode yh_127.2.1 12 = .ok (.astore_n 3, 1) := by decide +kernel
theorem dh_127_13 : decode yh_127.2.1 13 = .ok (.iconst 1, 1) := by decide +kernel
theorem dh_127_14 : decode yh_127.2.1 14 = .ok (.ireturn, 1) := by decide +kernel
theorem wl_128 : lw_tbl[1259]? = some (.methodLink "ServiceManagerLaw" 97 y_128.1) := by decide +kernel
theorem wm_128 : lw_tbl[1260]? = some (.instanceMethod y_128.1) := by decide +kernel
theorem we_128 : lw_tbl[1261]? = some (.selects "ServiceManager" y_128.1 y_128.1) := by decide +kernel
theorem dh_128_0 : decode yh_128.2.1 0 = .ok (.aload_n 2, 1) := by decide +kernel
theorem dh_128_1 : decode yh_128.2.1 1 = .ok (.iconst 0, 1) := by decide +kernel
theorem dh_128_2 : decode yh_128.2.1 2 = .ok (.aload_n 0, 1) := by decide +kernel
theorem dh_128_3 : decode yh_128.2.1 3 = .ok (.iload_n 1, 1) := by decide +kernel
theorem dh_128_4 : decode yh_128.2.1 4 = .ok (.invokevirtual 97, 3) := by decide +kernel
theorem dh_128_7 : decode yh_128.2.1 7 = .ok (.i2l, 1) := by decide +kernel
theorem dh_128_8 : decode yh_128.2.1 8 = .ok (.lastore, 1) := by decide +kernel
theorem dh_128_9 : decode yh_128.2.1 9 = .ok (.goto 6, 3) := by decide +kernel
theorem dh_128_15 : decode yh_128.2.1 15 = .ok (.iconst 0, 1) := by decide +kernel
theorem dh_128_16 : decode yh_128.2.1 16 = .ok (.ireturn, 1) := by decide +kernel
theorem dh_128_12 : decode yh_128.2.1 12 = .ok (.astore_n 3, 1) := by decide +kernel
theorem dh_128_13 : decode yh_128.2.1 13 = .ok (.iconst 1, 1) := by decide +kernel
theorem dh_128_14 : decode yh_128.2.1 14 = .ok (.ireturn, 1) := by decide +kernel
theorem wl_129 : lw_tbl[1266]? = some (.methodLink "ServiceManagerLaw" 100 y_129.1) := by decide +kernel
theorem wm_129 : lw_tbl[1267]? = some (.instanceMethod y_129.1) := by decide +kernel
theorem we_129 : lw_tbl[1268]? = some (.selects "ServiceManager" y_129.1 y_129.1) := by decide +kernel
theorem dh_129_0 : decode yh_129.2.1 0 = .ok (.aload_n 2, 1) := by decide +kernel
theorem dh_129_1 : decode yh_129.2.1 1 = .ok (.iconst 0, 1) := by decide +kernel
theorem dh_129_2 : decode yh_129.2.1 2 = .ok (.aload_n 0, 1) := by decide +kernel
theorem dh_129_3 : decode yh_129.2.1 3 = .ok (.iload_n 1, 1) := by decide +kernel
theorem dh_129_4 : decode yh_129.2.1 4 = .ok (.invokevirtual 100, 3) := by decide +kernel
theorem dh_129_7 : decode yh_129.2.1 7 = .ok (.i2l, 1) := by decide +kernel
theorem dh_129_8 : decode yh_129.2.1 8 = .ok (.lastore, 1) := by decide +kernel
theorem dh_129_9 : decode yh_129.2.1 9 = .ok (.goto 6, 3) := by decide +kernel
theorem dh_129_15 : decode yh_129.2.1 15 = .ok (.iconst 0, 1) := by decide +kernel
theorem dh_129_16 : decode yh_129.2.1 16 = .ok (.ireturn, 1) := by decide +kernel
theorem dh_129_12 : decode yh_129.2.1 12 = .ok (.astore_n 3, 1) := by decide +kernel
theorem dh_129_13 : decode yh_129.2.1 13 = .ok (.iconst 1, 1) := by decide +kernel
theorem dh_129_14 : decode yh_129.2.1 14 = .ok (.ireturn, 1) := by decide +kernel
theorem wl_130 : lw_tbl[1273]? = some (.methodLink "ServiceManagerLaw" 103 y_130.1) := by decide +kernel
theorem wm_130 : lw_tbl[1274]? = some (.instanceMethod y_130.1) := by decide +kernel
theorem we_130 : lw_tbl[1275]? = some (.selects "ServiceManager" y_130.1 y_130.1) := by decide +kernel
theorem dh_130_0 : decode yh_130.2.1 0 = .ok (.aload_n 2, 1) := by decide +kernel
theorem dh_130_1 : decode yh_130.2.1 1 = .ok (.iconst 0, 1) := by decide +kernel
theorem dh_130_2 : decode yh_130.2.1 2 = .ok (.aload_n 0, 1) := by decide +kernel
theorem dh_130_3 : decode yh_130.2.1 3 = .ok (.iload_n 1, 1) := by decide +kernel
theorem dh_130_4 : decode yh_130.2.1 4 = .ok (.invokevirtual 103, 3) := by decide +kernel
theorem dh_130_7 : decode yh_130.2.1 7 = .ok (.i2l, 1) := by decide +kernel
theorem dh_130_8 : decode yh_130.2.1 8 = .ok (.lastore, 1) := by decide +kernel
theorem dh_130_9 : decode yh_130.2.1 9 = .ok (.goto 6, 3) := by decide +kernel
theorem dh_130_15 : decode yh_130.2.1 15 = .ok (.iconst 0, 1) := by decide +kernel
theorem dh_130_16 : decode yh_130.2.1 16 = .ok (.ireturn, 1) := by decide +kernel
theorem dh_130_12 : decode yh_130.2.1 12 = .ok (.astore_n 3, 1) := by decide +kernel
theorem dh_130_13 : decode yh_130.2.1 13 = .ok (.iconst 1, 1) := by decide +kernel
theorem dh_130_14 : decode yh_130.2.1 14 = .ok (.ireturn, 1) := by decide +kernel
theorem wl_131 : lw_tbl[1281]? = some (.methodLink "ServiceManagerLaw" 106 y_131.1) := by decide +kernel
theorem wm_131 : lw_tbl[1282]? = some (.instanceMethod y_131.1) := by decide +kernel
theorem we_131 : lw_tbl[1283]? = some (.selects "ServiceManager" y_131.1 y_131.1) := by decide +kernel
theorem dh_131_0 : decode yh_131.2.1 0 = .ok (.aload_n 2, 1) := by decide +kernel
theorem dh_131_1 : decode yh_131.2.1 1 = .ok (.iconst 0, 1) := by decide +kernel
theorem dh_131_2 : decode yh_131.2.1 2 = .ok (.aload_n 0, 1) := by decide +kernel
theorem dh_131_3 : decode yh_131.2.1 3 = .ok (.iload_n 1, 1) := by decide +kernel
theorem dh_131_4 : decode yh_131.2.1 4 = .ok (.invokevirtual 106, 3) := by decide +kernel
theorem dh_131_7 : decode yh_131.2.1 7 = .ok (.i2l, 1) := by decide +kernel
theorem dh_131_8 : decode yh_131.2.1 8 = .ok (.lastore, 1) := by decide +kernel
theorem dh_131_9 : decode yh_131.2.1 9 = .ok (.goto 6, 3) := by decide +kernel
theorem dh_131_15 : decode yh_131.2.1 15 = .ok (.iconst 0, 1) := by decide +kernel
theorem dh_131_16 : decode yh_131.2.1 16 = .ok (.ireturn, 1) := by decide +kernel
theorem dh_131_12 : decode yh_131.2.1 12 = .ok (.astore_n 3, 1) := by decide +kernel
theorem dh_131_13 : decode yh_131.2.1 13 = .ok (.iconst 1, 1) := by decide +kernel
theorem dh_131_14 : decode yh_131.2.1 14 = .ok (.ireturn, 1) := by decide +kernel
theorem wl_132 : lw_tbl[1288]? = some (.methodLink "ServiceManagerLaw" 109 y_132.1) := by decide +kernel
theorem wm_132 : lw_tbl[1289]? = some (.instanceMethod y_132.1) := by decide +kernel
theorem we_132 : lw_tbl[1290]? = some (.selects "ServiceManager" y_132.1 y_132.1) := by decide +kernel
theorem dh_132_0 : decode yh_132.2.1 0 = .ok (.aload_n 2, 1) := by decide +kernel
theorem dh_132_1 : decode yh_132.2.1 1 = .ok (.iconst 0, 1) := by decide +kernel
theorem dh_132_2 : decode yh_132.2.1 2 = .ok (.aload_n 0, 1) := by decide +kernel
theorem dh_132_3 : decode yh_132.2.1 3 = .ok (.iload_n 1, 1) := by decide +kernel
theorem dh_132_4 : decode yh_132.2.1 4 = .ok (.invokevirtual 109, 3) := by decide +kernel
theorem dh_132_7 : decode yh_132.2.1 7 = .ok (.i2l, 1) := by decide +kernel
theorem dh_132_8 : decode yh_132.2.1 8 = .ok (.lastore, 1) := by decide +kernel
theorem dh_132_9 : decode yh_132.2.1 9 = .ok (.goto 6, 3) := by decide +kernel
theorem dh_132_15 : decode yh_132.2.1 15 = .ok (.iconst 0, 1) := by decide +kernel
theorem dh_132_16 : decode yh_132.2.1 16 = .ok (.ireturn, 1) := by decide +kernel
theorem dh_132_12 : decode yh_132.2.1 12 = .ok (.astore_n 3, 1) := by decide +kernel
theorem dh_132_13 : decode yh_132.2.1 13 = .ok (.iconst 1, 1) := by decide +kernel
theorem dh_132_14 : decode yh_132.2.1 14 = .ok (.ireturn, 1) := by decide +kernel
theorem wl_133 : lw_tbl[1295]? = some (.methodLink "ServiceManagerLaw" 112 y_133.1) := by decide +kernel
theorem wm_133 : lw_tbl[1296]? = some (.instanceMethod y_133.1) := by decide +kernel
theorem we_133 : lw_tbl[1297]? = some (.selects "ServiceManager" y_133.1 y_133.1) := by decide +kernel
theorem dh_133_0 : decode yh_133.2.1 0 = .ok (.aload_n 2, 1) := by decide +kernel
theorem dh_133_1 : decode yh_133.2.1 1 = .ok (.iconst 0, 1) := by decide +kernel
theorem dh_133_2 : decode yh_133.2.1 2 = .ok (.aload_n 0, 1) := by decide +kernel
theorem dh_133_3 : decode yh_133.2.1 3 = .ok (.iload_n 1, 1) := by decide +kernel
theorem dh_133_4 : decode yh_133.2.1 4 = .ok (.invokevirtual 112, 3) := by decide +kernel
theorem dh_133_7 : decode yh_133.2.1 7 = .ok (.i2l, 1) := by decide +kernel
theorem dh_133_8 : decode yh_133.2.1 8 = .ok (.lastore, 1) := by decide +kernel
theorem dh_133_9 : decode yh_133.2.1 9 = .ok (.goto 6, 3) := by decide +kernel
theorem dh_133_15 : decode yh_133.2.1 15 = .ok (.iconst 0, 1) := by decide +kernel
theorem dh_133_16 : decode yh_133.2.1 16 = .ok (.ireturn, 1) := by decide +kernel
theorem dh_133_12 : decode yh_133.2.1 12 = .ok (.astore_n 3, 1) := by decide +kernel
theorem dh_133_13 : decode yh_133.2.1 13 = .ok (.iconst 1, 1) := by decide +kernel
theorem dh_133_14 : decode yh_133.2.1 14 = .ok (.ireturn, 1) := by decide +kernel
theorem wl_134 : lw_tbl[1302]? = some (.methodLink "ServiceManagerLaw" 115 y_134.1) := by decide +kernel
theorem wm_134 : lw_tbl[1303]? = some (.instanceMethod y_134.1) := by decide +kernel
theorem we_134 : lw_tbl[1304]? = some (.selects "ServiceManager" y_134.1 y_134.1) := by decide +kernel
theorem dh_134_0 : decode yh_134.2.1 0 = .ok (.aload_n 3, 1) := by decide +kernel
theorem dh_134_1 : decode yh_134.2.1 1 = .ok (.iconst 0, 1) := by decide +kernel
theorem dh_134_2 : decode yh_134.2.1 2 = .ok (.aload_n 0, 1) := by decide +kernel
theorem dh_134_3 : decode yh_134.2.1 3 = .ok (.iload_n 1, 1) := by decide +kernel
theorem dh_134_4 : decode yh_134.2.1 4 = .ok (.iload_n 2, 1) := by decide +kernel
theorem dh_134_5 : decode yh_134.2.1 5 = .ok (.invokevirtual 115, 3) := by decide +kernel
theorem dh_134_8 : decode yh_134.2.1 8 = .ok (.i2l, 1) := by decide +kernel
theorem dh_134_9 : decode yh_134.2.1 9 = .ok (.lastore, 1) := by decide +kernel
theorem dh_134_10 : decode yh_134.2.1 10 = .ok (.goto 7, 3) := by decide +kernel
theorem dh_134_17 : decode yh_134.2.1 17 = .ok (.iconst 0, 1) := by decide +kernel
theorem dh_134_18 : decode yh_134.2.1 18 = .ok (.ireturn, 1) := by decide +kernel
theorem dh_134_13 : decode yh_134.2.1 13 = .ok (.astore 4, 2) := by decide +kernel
theorem dh_134_15 : decode yh_134.2.1 15 = .ok (.iconst 1, 1) := by decide +kernel
theorem dh_134_16 : decode yh_134.2.1 16 = .ok (.ireturn, 1) := by decide +kernel
theorem wl_136 : lw_tbl[1314]? = some (.methodLink "ServiceManagerLaw" 118 y_136.1) := by decide +kernel
theorem wm_136 : lw_tbl[1315]? = some (.instanceMethod y_136.1) := by decide +kernel
theorem we_136 : lw_tbl[1316]? = some (.selects "ServiceManager" y_136.1 y_136.1) := by decide +kernel
theorem dh_136_0 : decode yh_136.2.1 0 = .ok (.aload_n 2, 1) := by decide +kernel
theorem dh_136_1 : decode yh_136.2.1 1 = .ok (.iconst 0, 1) := by decide +kernel
theorem dh_136_2 : decode yh_136.2.1 2 = .ok (.aload_n 0, 1) := by decide +kernel
theorem dh_136_3 : decode yh_136.2.1 3 = .ok (.iload_n 1, 1) := by decide +kernel
theorem dh_136_4 : decode yh_136.2.1 4 = .ok (.invokevirtual 118, 3) := by decide +kernel
theorem dh_136_7 : decode yh_136.2.1 7 = .ok (.i2l, 1) := by decide +kernel
theorem dh_136_8 : decode yh_136.2.1 8 = .ok (.lastore, 1) := by decide +kernel
theorem dh_136_9 : decode yh_136.2.1 9 = .ok (.goto 6, 3) := by decide +kernel
theorem dh_136_15 : decode yh_136.2.1 15 = .ok (.iconst 0, 1) := by decide +kernel
theorem dh_136_16 : decode yh_136.2.1 16 = .ok (.ireturn, 1) := by decide +kernel
theorem dh_136_12 : decode yh_136.2.1 12 = .ok (.astore_n 3, 1) := by decide +kernel
theorem dh_136_13 : decode yh_136.2.1 13 = .ok (.iconst 1, 1) := by decide +kernel
theorem dh_136_14 : decode yh_136.2.1 14 = .ok (.ireturn, 1) := by decide +kernel
theorem wl_137 : lw_tbl[1321]? = some (.methodLink "ServiceManagerLaw" 121 y_137.1) := by decide +kernel
theorem wm_137 : lw_tbl[1322]? = some (.instanceMethod y_137.1) := by decide +kernel
theorem we_137 : lw_tbl[1323]? = some (.selects "ServiceManager" y_137.1 y_137.1) := by decide +kernel
theorem dh_137_0 : decode yh_137.2.1 0 = .ok (.aload_n 2, 1) := by decide +kernel
theorem dh_137_1 : decode yh_137.2.1 1 = .ok (.iconst 0, 1) := by decide +kernel
theorem dh_137_2 : decode yh_137.2.1 2 = .ok (.aload_n 0, 1) := by decide +kernel
theorem dh_137_3 : decode yh_137.2.1 3 = .ok (.iload_n 1, 1) := by decide +kernel
theorem dh_137_4 : decode yh_137.2.1 4 = .ok (.invokevirtual 121, 3) := by decide +kernel
theorem dh_137_7 : decode yh_137.2.1 7 = .ok (.i2l, 1) := by decide +kernel
theorem dh_137_8 : decode yh_137.2.1 8 = .ok (.lastore, 1) := by decide +kernel
theorem dh_137_9 : decode yh_137.2.1 9 = .ok (.goto 6, 3) := by decide +kernel
theorem dh_137_15 : decode yh_137.2.1 15 = .ok (.iconst 0, 1) := by decide +kernel
theorem dh_137_16 : decode yh_137.2.1 16 = .ok (.ireturn, 1) := by decide +kernel
theorem dh_137_12 : decode yh_137.2.1 12 = .ok (.astore_n 3, 1) := by decide +kernel
theorem dh_137_13 : decode yh_137.2.1 13 = .ok (.iconst 1, 1) := by decide +kernel
theorem dh_137_14 : decode yh_137.2.1 14 = .ok (.ireturn, 1) := by decide +kernel
theorem wl_138 : lw_tbl[1328]? = some (.methodLink "ServiceManagerLaw" 124 y_138.1) := by decide +kernel
theorem wm_138 : lw_tbl[1329]? = some (.instanceMethod y_138.1) := by decide +kernel
theorem we_138 : lw_tbl[1330]? = some (.selects "ServiceManager" y_138.1 y_138.1) := by decide +kernel
theorem dh_138_0 : decode yh_138.2.1 0 = .ok (.aload_n 2, 1) := by decide +kernel
theorem dh_138_1 : decode yh_138.2.1 1 = .ok (.iconst 0, 1) := by decide +kernel
theorem dh_138_2 : decode yh_138.2.1 2 = .ok (.aload_n 0, 1) := by decide +kernel
theorem dh_138_3 : decode yh_138.2.1 3 = .ok (.iload_n 1, 1) := by decide +kernel
theorem dh_138_4 : decode yh_138.2.1 4 = .ok (.invokevirtual 124, 3) := by decide +kernel
theorem dh_138_7 : decode yh_138.2.1 7 = .ok (.i2l, 1) := by decide +kernel
theorem dh_138_8 : decode yh_138.2.1 8 = .ok (.lastore, 1) := by decide +kernel
theorem dh_138_9 : decode yh_138.2.1 9 = .ok (.goto 6, 3) := by decide +kernel
theorem dh_138_15 : decode yh_138.2.1 15 = .ok (.iconst 0, 1) := by decide +kernel
theorem dh_138_16 : decode yh_138.2.1 16 = .ok (.ireturn, 1) := by decide +kernel
theorem dh_138_12 : decode yh_138.2.1 12 = .ok (.astore_n 3, 1) := by decide +kernel
theorem dh_138_13 : decode yh_138.2.1 13 = .ok (.iconst 1, 1) := by decide +kernel
theorem dh_138_14 : decode yh_138.2.1 14 = .ok (.ireturn, 1) := by decide +kernel
theorem wl_139 : lw_tbl[1335]? = some (.methodLink "ServiceManagerLaw" 127 y_139.1) := by decide +kernel
theorem wm_139 : lw_tbl[1336]? = some (.instanceMethod y_139.1) := by decide +kernel
theorem we_139 : lw_tbl[1337]? = some (.selects "ServiceManager" y_139.1 y_139.1) := by decide +kernel
theorem dh_139_0 : decode yh_139.2.1 0 = .ok (.aload_n 3, 1) := by decide +kernel
theorem dh_139_1 : decode yh_139.2.1 1 = .ok (.iconst 0, 1) := by decide +kernel
theorem dh_139_2 : decode yh_139.2.1 2 = .ok (.aload_n 0, 1) := by decide +kernel
theorem dh_139_3 : decode yh_139.2.1 3 = .ok (.iload_n 1, 1) := by decide +kernel
theorem dh_139_4 : decode yh_139.2.1 4 = .ok (.iload_n 2, 1) := by decide +kernel
theorem dh_139_5 : decode yh_139.2.1 5 = .ok (.invokevirtual 127, 3) := by decide +kernel
theorem dh_139_8 : decode yh_139.2.1 8 = .ok (.i2l, 1) := by decide +kernel
theorem dh_139_9 : decode yh_139.2.1 9 = .ok (.lastore, 1) := by decide +kernel
theorem dh_139_10 : decode yh_139.2.1 10 = .ok (.goto 11, 3) := by decide +kernel
theorem dh_139_21 : decode yh_139.2.1 21 = .ok (.iconst 0, 1) := by decide +kernel
theorem dh_139_22 : decode yh_139.2.1 22 = .ok (.ireturn, 1) := by decide +kernel
theorem dh_139_13 : decode yh_139.2.1 13 = .ok (.astore 4, 2) := by decide +kernel
theorem dh_139_15 : decode yh_139.2.1 15 = .ok (.iconst 1, 1) := by decide +kernel
theorem dh_139_16 : decode yh_139.2.1 16 = .ok (.ireturn, 1) := by decide +kernel
theorem dh_139_17 : decode yh_139.2.1 17 = .ok (.astore 4, 2) := by decide +kernel
theorem dh_139_19 : decode yh_139.2.1 19 = .ok (.iconst 2, 1) := by decide +kernel
theorem dh_139_20 : decode yh_139.2.1 20 = .ok (.ireturn, 1) := by decide +kernel
theorem wl_140 : lw_tbl[1342]? = some (.methodLink "ServiceManagerLaw" 130 y_140.1) := by decide +kernel
theorem wm_140 : lw_tbl[1343]? = some (.instanceMethod y_140.1) := by decide +kernel
theorem we_140 : lw_tbl[1344]? = some (.selects "ServiceManager" y_140.1 y_140.1) := by decide +kernel
theorem dh_140_0 : decode yh_140.2.1 0 = .ok (.aload_n 3, 1) := by decide +kernel
theorem dh_140_1 : decode yh_140.2.1 1 = .ok (.iconst 0, 1) := by decide +kernel
theorem dh_140_2 : decode yh_140.2.1 2 = .ok (.aload_n 0, 1) := by decide +kernel
theorem dh_140_3 : decode yh_140.2.1 3 = .ok (.iload_n 1, 1) := by decide +kernel
theorem dh_140_4 : decode yh_140.2.1 4 = .ok (.iload_n 2, 1) := by decide +kernel
theorem dh_140_5 : decode yh_140.2.1 5 = .ok (.invokevirtual 130, 3) := by decide +kernel
theorem dh_140_8 : decode yh_140.2.1 8 = .ok (.i2l, 1) := by decide +kernel
theorem dh_140_9 : decode yh_140.2.1 9 = .ok (.lastore, 1) := by decide +kernel
theorem dh_140_10 : decode yh_140.2.1 10 = .ok (.goto 11, 3) := by decide +kernel
theorem dh_140_21 : decode yh_140.2.1 21 = .ok (.iconst 0, 1) := by decide +kernel
theorem dh_140_22 : decode yh_140.2.1 22 = .ok (.ireturn, 1) := by decide +kernel
theorem dh_140_13 : decode yh_140.2.1 13 = .ok (.astore 4, 2) := by decide +kernel
theorem dh_140_15 : decode yh_140.2.1 15 = .ok (.iconst 1, 1) := by decide +kernel
theorem dh_140_16 : decode yh_140.2.1 16 = .ok (.ireturn, 1) := by decide +kernel
theorem dh_140_17 : decode yh_140.2.1 17 = .ok (.astore 4, 2) := by decide +kernel
theorem dh_140_19 : decode yh_140.2.1 19 = .ok (.iconst 2, 1) := by decide +kernel
theorem dh_140_20 : decode yh_140.2.1 20 = .ok (.ireturn, 1) := by decide +kernel
theorem wl_141 : lw_tbl[1349]? = some (.methodLink "ServiceManagerLaw" 133 y_141.1) := by decide +kernel
theorem wm_141 : lw_tbl[1350]? = some (.instanceMethod y_141.1) := by decide +kernel
theorem we_141 : lw_tbl[1351]? = some (.selects "ServiceManager" y_141.1 y_141.1) := by decide +kernel
theorem dh_141_0 : decode yh_141.2.1 0 = .ok (.aload_n 2, 1) := by decide +kernel
theorem dh_141_1 : decode yh_141.2.1 1 = .ok (.iconst 0, 1) := by decide +kernel
theorem dh_141_2 : decode yh_141.2.1 2 = .ok (.aload_n 0, 1) := by decide +kernel
theorem dh_141_3 : decode yh_141.2.1 3 = .ok (.iload_n 1, 1) := by decide +kernel
theorem dh_141_4 : decode yh_141.2.1 4 = .ok (.invokevirtual 133, 3) := by decide +kernel
theorem dh_141_7 : decode yh_141.2.1 7 = .ok (.i2l, 1) := by decide +kernel
theorem dh_141_8 : decode yh_141.2.1 8 = .ok (.lastore, 1) := by decide +kernel
theorem dh_141_9 : decode yh_141.2.1 9 = .ok (.goto 6, 3) := by decide +kernel
theorem dh_141_15 : decode yh_141.2.1 15 = .ok (.iconst 0, 1) := by decide +kernel
theorem dh_141_16 : decode yh_141.2.1 16 = .ok (.ireturn, 1) := by decide +kernel
theorem dh_141_12 : decode yh_141.2.1 12 = .ok (.astore_n 3, 1) := by decide +kernel
theorem dh_141_13 : decode yh_141.2.1 13 = .ok (.iconst 1, 1) := by decide +kernel
theorem dh_141_14 : decode yh_141.2.1 14 = .ok (.ireturn, 1) := by decide +kernel
theorem wl_143 : lw_tbl[1360]? = some (.methodLink "ServiceManagerLaw" 136 y_143.1) := by decide +kernel
theorem wm_143 : lw_tbl[1361]? = some (.instanceMethod y_143.1) := by decide +kernel
theorem we_143 : lw_tbl[1362]? = some (.selects "ServiceManager" y_143.1 y_143.1) := by decide +kernel
theorem dh_143_0 : decode yh_143.2.1 0 = .ok (.aload_n 2, 1) := by decide +kernel
theorem dh_143_1 : decode yh_143.2.1 1 = .ok (.iconst 0, 1) := by decide +kernel
theorem dh_143_2 : decode yh_143.2.1 2 = .ok (.aload_n 0, 1) := by decide +kernel
theorem dh_143_3 : decode yh_143.2.1 3 = .ok (.iload_n 1, 1) := by decide +kernel
theorem dh_143_4 : decode yh_143.2.1 4 = .ok (.invokevirtual 136, 3) := by decide +kernel
theorem dh_143_7 : decode yh_143.2.1 7 = .ok (.i2l, 1) := by decide +kernel
theorem dh_143_8 : decode yh_143.2.1 8 = .ok (.lastore, 1) := by decide +kernel
theorem dh_143_9 : decode yh_143.2.1 9 = .ok (.goto 6, 3) := by decide +kernel
theorem dh_143_15 : decode yh_143.2.1 15 = .ok (.iconst 0, 1) := by decide +kernel
theorem dh_143_16 : decode yh_143.2.1 16 = .ok (.ireturn, 1) := by decide +kernel
theorem dh_143_12 : decode yh_143.2.1 12 = .ok (.astore_n 3, 1) := by decide +kernel
theorem dh_143_13 : decode yh_143.2.1 13 = .ok (.iconst 1, 1) := by decide +kernel
theorem dh_143_14 : decode yh_143.2.1 14 = .ok (.ireturn, 1) := by decide +kernel
theorem wl_144 : lw_tbl[1367]? = some (.methodLink "ServiceManagerLaw" 139 y_144.1) := by decide +kernel
theorem wm_144 : lw_tbl[1368]? = some (.instanceMethod y_144.1) := by decide +kernel
theorem we_144 : lw_tbl[1369]? = some (.selects "ServiceManager" y_144.1 y_144.1) := by decide +kernel
theorem dh_144_0 : decode yh_144.2.1 0 = .ok (.aload_n 2, 1) := by decide +kernel
theorem dh_144_1 : decode yh_144.2.1 1 = .ok (.iconst 0, 1) := by decide +kernel
theorem dh_144_2 : decode yh_144.2.1 2 = .ok (.aload_n 0, 1) := by decide +kernel
theorem dh_144_3 : decode yh_144.2.1 3 = .ok (.iload_n 1, 1) := by decide +kernel
theorem dh_144_4 : decode yh_144.2.1 4 = .ok (.invokevirtual 139, 3) := by decide +kernel
theorem dh_144_7 : decode yh_144.2.1 7 = .ok (.i2l, 1) := by decide +kernel
theorem dh_144_8 : decode yh_144.2.1 8 = .ok (.lastore, 1) := by decide +kernel
theorem dh_144_9 : decode yh_144.2.1 9 = .ok (.goto 6, 3) := by decide +kernel
theorem dh_144_15 : decode yh_144.2.1 15 = .ok (.iconst 0, 1) := by decide +kernel
theorem dh_144_16 : decode yh_144.2.1 16 = .ok (.ireturn, 1) := by decide +kernel
theorem dh_144_12 : decode yh_144.2.1 12 = .ok (.astore_n 3, 1) := by decide +kernel
theorem dh_144_13 : decode yh_144.2.1 13 = .ok (.iconst 1, 1) := by decide +kernel
theorem dh_144_14 : decode yh_144.2.1 14 = .ok (.ireturn, 1) := by decide +kernel
theorem hn_92 {l : Launch} {E : ux_E} {M : ux_M} {x1 : Int32} {qo : Nat} {v0 : Int64} {d : Nat} (hd37 : d ≤ 40) (hqo : ¬ ux_A E qo) {QQ : Int32 → ux_M → Prop} (hcall : ux_Call l E d y_92 [aR 4 655365 0, aI x1] M (ux_CI QQ)) : hx_Met l E yh_92 hh_92 [aR 4 655365 0, aI x1] qo v0 M (fun r v M1 => r = 0 ∧ ∃ a, QQ a M1 ∧ v = a.toInt64) := by
  refine hx_ofW (by decide +kernel) ?_
  intro p e s m args below meth c s₁ B hml hv
  obtain ⟨rfl, ⟨hRep, hK⟩, ho⟩ := hv
  have hx := B.exec
  have hb : c.code = yh_92.2.1 := B.bytes
  have hr := B.returns
  have hlocks := B.notSynchronized
  have S := hx_fix B hml
  have hts := atoms_spec (ws := hx_ws yh_92 hh_92) B.pre
  have htab : c.exceptionTable.toList = tableOf hh_92 := vx_table (x := yh_92.1) B (hts _ List.mem_cons_self)
  have hl2 := lv_entry ([.ref (E.1 4 655365 0), .int x1, .ref qo]) (n := 4) (Nat.le_of_ble_eq_true rfl)
  show W p l e (fx_room 60) s m _ below meth c s.heap [] 0 0 _ (entryFrame m ([.ref (E.1 4 655365 0), .int x1, .ref qo] : List Value).toArray 4)
  rw [lg_entry_eq]
  generalize (lg_sl ([.ref (E.1 4 655365 0), .int x1, .ref qo]) ++ List.replicate (4 - (lg_sl ([.ref (E.1 4 655365 0), .int x1, .ref qo])).length) Slot.unset).toArray = ls at hl2 ⊢
  have hl2 : lv_has ls 4 [(0, .ref (E.1 4 655365 0)), (1, .int x1), (2, .ref qo)] := hl2
  have hVS : va_S (ux_A E) s.heap s.heap [] := va_S.rf
  refine lv_aload_n hx hb dh_92_0 rfl (lv_at hl2 2 rfl) ?_
  refine lv_iconst (v := 0) hx hb dh_92_1 (by decide) ?_
  refine lv_aload_n hx hb dh_92_2 rfl (lv_at hl2 0 rfl) ?_
  refine lv_iload_n hx hb dh_92_3 rfl (lv_at hl2 1 rfl) ?_
  refine fx_callv (d := d) (y2 := y_92) (q := (4, 655365, 0)) (ci := 0) (As := [.inl x1]) (rest := [.int 0, .ref qo]) (k := 1) S hx_sub hts hK (by decide +kernel) wl_92 wm_92 we_92 (by decide +kernel) (by decide) rfl (by decide) rfl rfl (fun v hv => by rw [List.mem_singleton.mp hv]; trivial) (Nat.le_of_ble_eq_true rfl) hcall ⟨by show d + 5 ≤ 60; omega, by show 60 * d + 360 ≤ 60 * 60 + 300; omega⟩ ⟨Nat.zero_le _, Nat.zero_le _⟩ hRep hVS hl2.1 dh_92_4 (fun r0 M1 H1 locs1 hq hR1 hS1 _ hk1 => ?_)
  obtain ⟨a, rfl, hq⟩ := hq
  have ho1 := ho.keep hqo hk1
  refine lv_i2l hx hb dh_92_7 rfl ?_
  refine hx_last hx hb hK hqo ho1 hR1 (hx_up hS1) dh_92_8 (fun H2 locs2 hR2 ho2 hS2 => ?_)
  refine lv_goto (tgt := 15) hx hb dh_92_9 (by decide) ?_
  refine lv_iconst (v := 0) hx hb dh_92_15 (by decide) ?_
  refine W.widen (k := 1) (n := 6) (Nat.zero_le _) (Nat.zero_le _) ?_
  exact W.iret (hlocks := hlocks) hx hb hr (fun t ht hW => ⟨0, _, M1, rfl, ⟨rfl, a, hq, rfl⟩, by rw [ht]; exact hR2, by rw [ht]; exact ho2, hS2.F ht⟩) hS2.2.2 dh_92_16
theorem ht_92_0 {l : Launch} {E : ux_E} {M : ux_M} {x1 : Int32} {qo : Nat} {v0 : Int64} (hE : ux_THok E) (hqo : ¬ ux_A E qo) (hM : fx_Met l E y_92 10 [aR 4 655365 0, aI x1] M fx_IO) : hx_Met l E yh_92 hh_92 [aR 4 655365 0, aI x1] qo v0 M (fun r v M1 => r = 1 ∧ v = v0 ∧ M1 = M) := by
  refine hx_ofW (by decide +kernel) ?_
  intro p e s m args below meth c s₁ B hml hv
  obtain ⟨rfl, ⟨hRep, hK⟩, ho⟩ := hv
  have hx := B.exec
  have hb : c.code = yh_92.2.1 := B.bytes
  have hr := B.returns
  have hlocks := B.notSynchronized
  have S := hx_fix B hml
  have hts := atoms_spec (ws := hx_ws yh_92 hh_92) B.pre
  have htab : c.exceptionTable.toList = tableOf hh_92 := vx_table (x := yh_92.1) B (hts _ List.mem_cons_self)
  have hl2 := lv_entry ([.ref (E.1 4 655365 0), .int x1, .ref qo]) (n := 4) (Nat.le_of_ble_eq_true rfl)
  show W p l e (fx_room 60) s m _ below meth c s.heap [] 0 0 _ (entryFrame m ([.ref (E.1 4 655365 0), .int x1, .ref qo] : List Value).toArray 4)
  rw [lg_entry_eq]
  generalize (lg_sl ([.ref (E.1 4 655365 0), .int x1, .ref qo]) ++ List.replicate (4 - (lg_sl ([.ref (E.1 4 655365 0), .int x1, .ref qo])).length) Slot.unset).toArray = ls at hl2 ⊢
  have hl2 : lv_has ls 4 [(0, .ref (E.1 4 655365 0)), (1, .int x1), (2, .ref qo)] := hl2
  have hVS : va_S (ux_A E) s.heap s.heap [] := va_S.rf
  refine lv_aload_n hx hb dh_92_0 rfl (lv_at hl2 2 rfl) ?_
  refine lv_iconst (v := 0) hx hb dh_92_1 (by decide) ?_
  refine lv_aload_n hx hb dh_92_2 rfl (lv_at hl2 0 rfl) ?_
  refine lv_iload_n hx hb dh_92_3 rfl (lv_at hl2 1 rfl) ?_
  obtain ⟨-, -, ⟨hc1, hc2⟩, hnc, -⟩ := hE s s.heap hK.2.2.2.2
  refine fx_thrv (d := 10) (y2 := y_92) (q := (4, 655365, 0)) (ci := 0) (As := [.inl x1]) (rest := [.int 0, .ref qo]) (k := 1) S hx_sub hts hK (by decide +kernel) wl_92 wm_92 we_92 mo_92 (by decide +kernel) (by decide) rfl (by decide) rfl rfl (Nat.le_of_ble_eq_true rfl) hM ⟨Nat.le_of_ble_eq_true rfl, Nat.le_of_ble_eq_true rfl⟩ ⟨Nat.le_of_ble_eq_true rfl, Nat.le_of_ble_eq_true rfl⟩ hRep hVS hl2.1 dh_92_4 (fun ce q9 H1 locs1 hR1 hS1 _ hk1 g1 g2 g3 => ?_)
  have ho1 := ho.keep hqo hk1
  refine vx_catch (name := fx_IO) (E := fx_IO) S.2.2.2.1 [] ⟨0, 9, 12, 13⟩ [] (by rw [htab]; rfl) (fun z hz => by cases hz) (by decide) (by decide) (hx_wd hts hx_c13 rfl) (va_Nw.use rfl hc1) g1 g2 g3 ?_
  refine lv_astore_n (lv' := [(3, .ref q9), (0, .ref (E.1 4 655365 0)), (1, .int x1), (2, .ref qo)]) hx hb dh_92_12 rfl hl2 (by decide) rfl (fun ls hl2 => ?_)
  refine lv_iconst (v := 1) hx hb dh_92_13 (by decide) ?_
  exact W.iret (hlocks := hlocks) hx hb hr (fun t ht hW => ⟨1, v0, M, rfl, ⟨rfl, rfl, rfl⟩, by rw [ht]; exact hR1, by rw [ht]; exact ho1, (hx_up hS1).F ht⟩) (hx_up hS1).2.2 dh_92_14
theorem hn_94 {l : Launch} {E : ux_E} {M : ux_M} {x1 x2 : Int32} {qo : Nat} {v0 : Int64} {d : Nat} (hd37 : d ≤ 40) (hqo : ¬ ux_A E qo) {QQ : Int32 → ux_M → Prop} (hcall : ux_Call l E d y_94 [aR 4 655365 0, aI x1, aI x2] M (ux_CI QQ)) : hx_Met l E yh_94 hh_94 [aR 4 655365 0, aI x1, aI x2] qo v0 M (fun r v M1 => r = 0 ∧ ∃ a, QQ a M1 ∧ v = a.toInt64) := by
  refine hx_ofW (by decide +kernel) ?_
  intro p e s m args below meth c s₁ B hml hv
  obtain ⟨rfl, ⟨hRep, hK⟩, ho⟩ := hv
  have hx := B.exec
  have hb : c.code = yh_94.2.1 := B.bytes
  have hr := B.returns
  have hlocks := B.notSynchronized
  have S := hx_fix B hml
  have hts := atoms_spec (ws := hx_ws yh_94 hh_94) B.pre
  have htab : c.exceptionTable.toList = tableOf hh_94 := vx_table (x := yh_94.1) B (hts _ List.mem_cons_self)
  have hl2 := lv_entry ([.ref (E.1 4 655365 0), .int x1, .int x2, .ref qo]) (n := 5) (Nat.le_of_ble_eq_true rfl)
  show W p l e (fx_room 60) s m _ below meth c s.heap [] 0 0 _ (entryFrame m ([.ref (E.1 4 655365 0), .int x1, .int x2, .ref qo] : List Value).toArray 5)
  rw [lg_entry_eq]
  generalize (lg_sl ([.ref (E.1 4 655365 0), .int x1, .int x2, .ref qo]) ++ List.replicate (5 - (lg_sl ([.ref (E.1 4 655365 0), .int x1, .int x2, .ref qo])).length) Slot.unset).toArray = ls at hl2 ⊢
  have hl2 : lv_has ls 5 [(0, .ref (E.1 4 655365 0)), (1, .int x1), (2, .int x2), (3, .ref qo)] := hl2
  have hVS : va_S (ux_A E) s.heap s.heap [] := va_S.rf
  refine lv_aload_n hx hb dh_94_0 rfl (lv_at hl2 3 rfl) ?_
  refine lv_iconst (v := 0) hx hb dh_94_1 (by decide) ?_
  refine lv_aload_n hx hb dh_94_2 rfl (lv_at hl2 0 rfl) ?_
  refine lv_iload_n hx hb dh_94_3 rfl (lv_at hl2 1 rfl) ?_
  refine lv_iload_n hx hb dh_94_4 rfl (lv_at hl2 2 rfl) ?_
  refine fx_callv (d := d) (y2 := y_94) (q := (4, 655365, 0)) (ci := 0) (As := [.inl x1, .inl x2]) (rest := [.int 0, .ref qo]) (k := 2) S hx_sub hts hK (by decide +kernel) wl_94 wm_94 we_94 (by decide +kernel) (by decide) rfl (by decide) rfl rfl (fun v hv => by
      simp only [List.mem_cons, List.not_mem_nil, or_false] at hv
      rcases hv with rfl | rfl <;> trivial) (Nat.le_of_ble_eq_true rfl) hcall ⟨by show d + 5 ≤ 60; omega, by show 60 * d + 360 ≤ 60 * 60 + 300; omega⟩ ⟨Nat.zero_le _, Nat.zero_le _⟩ hRep hVS hl2.1 dh_94_5 (fun r0 M1 H1 locs1 hq hR1 hS1 _ hk1 => ?_)
  obtain ⟨a, rfl, hq⟩ := hq
  have ho1 := ho.keep hqo hk1
  refine lv_i2l hx hb dh_94_8 rfl ?_
  refine hx_last hx hb hK hqo ho1 hR1 (hx_up hS1) dh_94_9 (fun H2 locs2 hR2 ho2 hS2 => ?_)
  refine lv_goto (tgt := 17) hx hb dh_94_10 (by decide) ?_
  refine lv_iconst (v := 0) hx hb dh_94_17 (by decide) ?_
  refine W.widen (k := 1) (n := 6) (Nat.zero_le _) (Nat.zero_le _) ?_
  exact W.iret (hlocks := hlocks) hx hb hr (fun t ht hW => ⟨0, _, M1, rfl, ⟨rfl, a, hq, rfl⟩, by rw [ht]; exact hR2, by rw [ht]; exact ho2, hS2.F ht⟩) hS2.2.2 dh_94_18
theorem ht_94_0 {l : Launch} {E : ux_E} {M : ux_M} {x1 x2 : Int32} {qo : Nat} {v0 : Int64} (hE : ux_THok E) (hqo : ¬ ux_A E qo) (hM : fx_Met l E y_94 10 [aR 4 655365 0, aI x1, aI x2] M fx_IO) : hx_Met l E yh_94 hh_94 [aR 4 655365 0, aI x1, aI x2] qo v0 M (fun r v M1 => r = 1 ∧ v = v0 ∧ M1 = M) := by
  refine hx_ofW (by decide +kernel) ?_
  intro p e s m args below meth c s₁ B hml hv
  obtain ⟨rfl, ⟨hRep, hK⟩, ho⟩ := hv
  have hx := B.exec
  have hb : c.code = yh_94.2.1 := B.bytes
  have hr := B.returns
  have hlocks := B.notSynchronized
  have S := hx_fix B hml
  have hts := atoms_spec (ws := hx_ws yh_94 hh_94) B.pre
  have htab : c.exceptionTable.toList = tableOf hh_94 := vx_table (x := yh_94.1) B (hts _ List.mem_cons_self)
  have hl2 := lv_entry ([.ref (E.1 4 655365 0), .int x1, .int x2, .ref qo]) (n := 5) (Nat.le_of_ble_eq_true rfl)
  show W p l e (fx_room 60) s m _ below meth c s.heap [] 0 0 _ (entryFrame m ([.ref (E.1 4 655365 0), .int x1, .int x2, .ref qo] : List Value).toArray 5)
  rw [lg_entry_eq]
  generalize (lg_sl ([.ref (E.1 4 655365 0), .int x1, .int x2, .ref qo]) ++ List.replicate (5 - (lg_sl ([.ref (E.1 4 655365 0), .int x1, .int x2, .ref qo])).length) Slot.unset).toArray = ls at hl2 ⊢
  have hl2 : lv_has ls 5 [(0, .ref (E.1 4 655365 0)), (1, .int x1), (2, .int x2), (3, .ref qo)] := hl2
  have hVS : va_S (ux_A E) s.heap s.heap [] := va_S.rf
  refine lv_aload_n hx hb dh_94_0 rfl (lv_at hl2 3 rfl) ?_
  refine lv_iconst (v := 0) hx hb dh_94_1 (by decide) ?_
  refine lv_aload_n hx hb dh_94_2 rfl (lv_at hl2 0 rfl) ?_
  refine lv_iload_n hx hb dh_94_3 rfl (lv_at hl2 1 rfl) ?_
  refine lv_iload_n hx hb dh_94_4 rfl (lv_at hl2 2 rfl) ?_
  obtain ⟨-, -, ⟨hc1, hc2⟩, hnc, -⟩ := hE s s.heap hK.2.2.2.2
  refine fx_thrv (d := 10) (y2 := y_94) (q := (4, 655365, 0)) (ci := 0) (As := [.inl x1, .inl x2]) (rest := [.int 0, .ref qo]) (k := 2) S hx_sub hts hK (by decide +kernel) wl_94 wm_94 we_94 mo_94 (by decide +kernel) (by decide) rfl (by decide) rfl rfl (Nat.le_of_ble_eq_true rfl) hM ⟨Nat.le_of_ble_eq_true rfl, Nat.le_of_ble_eq_true rfl⟩ ⟨Nat.le_of_ble_eq_true rfl, Nat.le_of_ble_eq_true rfl⟩ hRep hVS hl2.1 dh_94_5 (fun ce q9 H1 locs1 hR1 hS1 _ hk1 g1 g2 g3 => ?_)
  have ho1 := ho.keep hqo hk1
  refine vx_catch (name := fx_IO) (E := fx_IO) S.2.2.2.1 [] ⟨0, 10, 13, 13⟩ [] (by rw [htab]; rfl) (fun z hz => by cases hz) (by decide) (by decide) (hx_wd hts hx_c13 rfl) (va_Nw.use rfl hc1) g1 g2 g3 ?_
  refine lv_astore (lv' := [(4, .ref q9), (0, .ref (E.1 4 655365 0)), (1, .int x1), (2, .int x2), (3, .ref qo)]) hx hb dh_94_13 hl2 (by decide) rfl (fun ls hl2 => ?_)
  refine lv_iconst (v := 1) hx hb dh_94_15 (by decide) ?_
  exact W.iret (hlocks := hlocks) hx hb hr (fun t ht hW => ⟨1, v0, M, rfl, ⟨rfl, rfl, rfl⟩, by rw [ht]; exact hR1, by rw [ht]; exact ho1, (hx_up hS1).F ht⟩) (hx_up hS1).2.2 dh_94_16
theorem hn_95 {l : Launch} {E : ux_E} {M : ux_M} {x1 x2 : Int32} {qo : Nat} {v0 : Int64} {d : Nat} (hd37 : d ≤ 40) (hqo : ¬ ux_A E qo) {QQ : Int32 → ux_M → Prop} (hcall : ux_Call l E d y_95 [aR 4 655365 0, aI x1, aI x2] M (ux_CI QQ)) : hx_Met l E yh_95 hh_95 [aR 4 655365 0, aI x1, aI x2] qo v0 M (fun r v M1 => r = 0 ∧ ∃ a, QQ a M1 ∧ v = a.toInt64) := by
  refine hx_ofW (by decide +kernel) ?_
  intro p e s m args below meth c s₁ B hml hv
  obtain ⟨rfl, ⟨hRep, hK⟩, ho⟩ := hv
  have hx := B.exec
  have hb : c.code = yh_95.2.1 := B.bytes
  have hr := B.returns
  have hlocks := B.notSynchronized
  have S := hx_fix B hml
  have hts := atoms_spec (ws := hx_ws yh_95 hh_95) B.pre
  have htab : c.exceptionTable.toList = tableOf hh_95 := vx_table (x := yh_95.1) B (hts _ List.mem_cons_self)
  have hl2 := lv_entry ([.ref (E.1 4 655365 0), .int x1, .int x2, .ref qo]) (n := 5) (Nat.le_of_ble_eq_true rfl)
  show W p l e (fx_room 60) s m _ below meth c s.heap [] 0 0 _ (entryFrame m ([.ref (E.1 4 655365 0), .int x1, .int x2, .ref qo] : List Value).toArray 5)
  rw [lg_entry_eq]
  generalize (lg_sl ([.ref (E.1 4 655365 0), .int x1, .int x2, .ref qo]) ++ List.replicate (5 - (lg_sl ([.ref (E.1 4 655365 0), .int x1, .int x2, .ref qo])).length) Slot.unset).toArray = ls at hl2 ⊢
  have hl2 : lv_has ls 5 [(0, .ref (E.1 4 655365 0)), (1, .int x1), (2, .int x2), (3, .ref qo)] := hl2
  have hVS : va_S (ux_A E) s.heap s.heap [] := va_S.rf
  refine lv_aload_n hx hb dh_95_0 rfl (lv_at hl2 3 rfl) ?_
  refine lv_iconst (v := 0) hx hb dh_95_1 (by decide) ?_
  refine lv_aload_n hx hb dh_95_2 rfl (lv_at hl2 0 rfl) ?_
  refine lv_iload_n hx hb dh_95_3 rfl (lv_at hl2 1 rfl) ?_
  refine lv_iload_n hx hb dh_95_4 rfl (lv_at hl2 2 rfl) ?_
  refine fx_callv (d := d) (y2 := y_95) (q := (4, 655365, 0)) (ci := 0) (As := [.inl x1, .inl x2]) (rest := [.int 0, .ref qo]) (k := 2) S hx_sub hts hK (by decide +kernel) wl_95 wm_95 we_95 (by decide +kernel) (by decide) rfl (by decide) rfl rfl (fun v hv => by
      simp only [List.mem_cons, List.not_mem_nil, or_false] at hv
      rcases hv with rfl | rfl <;> trivial) (Nat.le_of_ble_eq_true rfl) hcall ⟨by show d + 5 ≤ 60; omega, by show 60 * d + 360 ≤ 60 * 60 + 300; omega⟩ ⟨Nat.zero_le _, Nat.zero_le _⟩ hRep hVS hl2.1 dh_95_5 (fun r0 M1 H1 locs1 hq hR1 hS1 _ hk1 => ?_)
  obtain ⟨a, rfl, hq⟩ := hq
  have ho1 := ho.keep hqo hk1
  refine lv_i2l hx hb dh_95_8 rfl ?_
  refine hx_last hx hb hK hqo ho1 hR1 (hx_up hS1) dh_95_9 (fun H2 locs2 hR2 ho2 hS2 => ?_)
  refine lv_goto (tgt := 21) hx hb dh_95_10 (by decide) ?_
  refine lv_iconst (v := 0) hx hb dh_95_21 (by decide) ?_
  refine W.widen (k := 1) (n := 6) (Nat.zero_le _) (Nat.zero_le _) ?_
  exact W.iret (hlocks := hlocks) hx hb hr (fun t ht hW => ⟨0, _, M1, rfl, ⟨rfl, a, hq, rfl⟩, by rw [ht]; exact hR2, by rw [ht]; exact ho2, hS2.F ht⟩) hS2.2.2 dh_95_22
theorem ht_95_0 {l : Launch} {E : ux_E} {M : ux_M} {x1 x2 : Int32} {qo : Nat} {v0 : Int64} (hE : ux_THok E) (hqo : ¬ ux_A E qo) (hM : fx_Met l E y_95 10 [aR 4 655365 0, aI x1, aI x2] M fx_IO) : hx_Met l E yh_95 hh_95 [aR 4 655365 0, aI x1, aI x2] qo v0 M (fun r v M1 => r = 1 ∧ v = v0 ∧ M1 = M) := by
  refine hx_ofW (by decide +kernel) ?_
  intro p e s m args below meth c s₁ B hml hv
  obtain ⟨rfl, ⟨hRep, hK⟩, ho⟩ := hv
  have hx := B.exec
  have hb : c.code = yh_95.2.1 := B.bytes
  have hr := B.returns
  have hlocks := B.notSynchronized
  have S := hx_fix B hml
  have hts := atoms_spec (ws := hx_ws yh_95 hh_95) B.pre
  have htab : c.exceptionTable.toList = tableOf hh_95 := vx_table (x := yh_95.1) B (hts _ List.mem_cons_self)
  have hl2 := lv_entry ([.ref (E.1 4 655365 0), .int x1, .int x2, .ref qo]) (n := 5) (Nat.le_of_ble_eq_true rfl)
  show W p l e (fx_room 60) s m _ below meth c s.heap [] 0 0 _ (entryFrame m ([.ref (E.1 4 655365 0), .int x1, .int x2, .ref qo] : List Value).toArray 5)
  rw [lg_entry_eq]
  generalize (lg_sl ([.ref (E.1 4 655365 0), .int x1, .int x2, .ref qo]) ++ List.replicate (5 - (lg_sl ([.ref (E.1 4 655365 0), .int x1, .int x2, .ref qo])).length) Slot.unset).toArray = ls at hl2 ⊢
  have hl2 : lv_has ls 5 [(0, .ref (E.1 4 655365 0)), (1, .int x1), (2, .int x2), (3, .ref qo)] := hl2
  have hVS : va_S (ux_A E) s.heap s.heap [] := va_S.rf
  refine lv_aload_n hx hb dh_95_0 rfl (lv_at hl2 3 rfl) ?_
  refine lv_iconst (v := 0) hx hb dh_95_1 (by decide) ?_
  refine lv_aload_n hx hb dh_95_2 rfl (lv_at hl2 0 rfl) ?_
  refine lv_iload_n hx hb dh_95_3 rfl (lv_at hl2 1 rfl) ?_
  refine lv_iload_n hx hb dh_95_4 rfl (lv_at hl2 2 rfl) ?_
  obtain ⟨-, -, ⟨hc1, hc2⟩, hnc, -⟩ := hE s s.heap hK.2.2.2.2
  refine fx_thrv (d := 10) (y2 := y_95) (q := (4, 655365, 0)) (ci := 0) (As := [.inl x1, .inl x2]) (rest := [.int 0, .ref qo]) (k := 2) S hx_sub hts hK (by decide +kernel) wl_95 wm_95 we_95 mo_95 (by decide +kernel) (by decide) rfl (by decide) rfl rfl (Nat.le_of_ble_eq_true rfl) hM ⟨Nat.le_of_ble_eq_true rfl, Nat.le_of_ble_eq_true rfl⟩ ⟨Nat.le_of_ble_eq_true rfl, Nat.le_of_ble_eq_true rfl⟩ hRep hVS hl2.1 dh_95_5 (fun ce q9 H1 locs1 hR1 hS1 _ hk1 g1 g2 g3 => ?_)
  have ho1 := ho.keep hqo hk1
  refine vx_catch (name := fx_IO) (E := fx_IO) S.2.2.2.1 [] ⟨0, 10, 13, 13⟩ [⟨0, 10, 17, 22⟩] (by rw [htab]; rfl) (fun z hz => by cases hz) (by decide) (by decide) (hx_wd hts hx_c13 rfl) (va_Nw.use rfl hc1) g1 g2 g3 ?_
  refine lv_astore (lv' := [(4, .ref q9), (0, .ref (E.1 4 655365 0)), (1, .int x1), (2, .int x2), (3, .ref qo)]) hx hb dh_95_13 hl2 (by decide) rfl (fun ls hl2 => ?_)
  refine lv_iconst (v := 1) hx hb dh_95_15 (by decide) ?_
  exact W.iret (hlocks := hlocks) hx hb hr (fun t ht hW => ⟨1, v0, M, rfl, ⟨rfl, rfl, rfl⟩, by rw [ht]; exact hR1, by rw [ht]; exact ho1, (hx_up hS1).F ht⟩) (hx_up hS1).2.2 dh_95_16
theorem ht_95_1 {l : Launch} {E : ux_E} {M : ux_M} {x1 x2 : Int32} {qo : Nat} {v0 : Int64} (hE : ux_THok E) (hqo : ¬ ux_A E qo) (hM : fx_Met l E y_95 10 [aR 4 655365 0, aI x1, aI x2] M fx_IA) : hx_Met l E yh_95 hh_95 [aR 4 655365 0, aI x1, aI x2] qo v0 M (fun r v M1 => r = 2 ∧ v = v0 ∧ M1 = M) := by
  refine hx_ofW (by decide +kernel) ?_
  intro p e s m args below meth c s₁ B hml hv
  obtain ⟨rfl, ⟨hRep, hK⟩, ho⟩ := hv
  have hx := B.exec
  have hb : c.code = yh_95.2.1 := B.bytes
  have hr := B.returns
  have hlocks := B.notSynchronized
  have S := hx_fix B hml
  have hts := atoms_spec (ws := hx_ws yh_95 hh_95) B.pre
  have htab : c.exceptionTable.toList = tableOf hh_95 := vx_table (x := yh_95.1) B (hts _ List.mem_cons_self)
  have hl2 := lv_entry ([.ref (E.1 4 655365 0), .int x1, .int x2, .ref qo]) (n := 5) (Nat.le_of_ble_eq_true rfl)
  show W p l e (fx_room 60) s m _ below meth c s.heap [] 0 0 _ (entryFrame m ([.ref (E.1 4 655365 0), .int x1, .int x2, .ref qo] : List Value).toArray 5)
  rw [lg_entry_eq]
  generalize (lg_sl ([.ref (E.1 4 655365 0), .int x1, .int x2, .ref qo]) ++ List.replicate (5 - (lg_sl ([.ref (E.1 4 655365 0), .int x1, .int x2, .ref qo])).length) Slot.unset).toArray = ls at hl2 ⊢
  have hl2 : lv_has ls 5 [(0, .ref (E.1 4 655365 0)), (1, .int x1), (2, .int x2), (3, .ref qo)] := hl2
  have hVS : va_S (ux_A E) s.heap s.heap [] := va_S.rf
  refine lv_aload_n hx hb dh_95_0 rfl (lv_at hl2 3 rfl) ?_
  refine lv_iconst (v := 0) hx hb dh_95_1 (by decide) ?_
  refine lv_aload_n hx hb dh_95_2 rfl (lv_at hl2 0 rfl) ?_
  refine lv_iload_n hx hb dh_95_3 rfl (lv_at hl2 1 rfl) ?_
  refine lv_iload_n hx hb dh_95_4 rfl (lv_at hl2 2 rfl) ?_
  obtain ⟨-, -, ⟨hc1, hc2⟩, hnc, -⟩ := hE s s.heap hK.2.2.2.2
  refine fx_thrv (d := 10) (y2 := y_95) (q := (4, 655365, 0)) (ci := 0) (As := [.inl x1, .inl x2]) (rest := [.int 0, .ref qo]) (k := 2) S hx_sub hts hK (by decide +kernel) wl_95 wm_95 we_95 mo_95 (by decide +kernel) (by decide) rfl (by decide) rfl rfl (Nat.le_of_ble_eq_true rfl) hM ⟨Nat.le_of_ble_eq_true rfl, Nat.le_of_ble_eq_true rfl⟩ ⟨Nat.le_of_ble_eq_true rfl, Nat.le_of_ble_eq_true rfl⟩ hRep hVS hl2.1 dh_95_5 (fun ce q9 H1 locs1 hR1 hS1 _ hk1 g1 g2 g3 => ?_)
  have ho1 := ho.keep hqo hk1
  refine vx_catch (name := fx_IA) (E := fx_IA) S.2.2.2.1 [⟨0, 10, 13, 13⟩] ⟨0, 10, 17, 22⟩ [] (by rw [htab]; rfl) (fun z hz => by rw [List.mem_singleton.mp hz]; exact .inr ⟨by decide, fx_IO, hx_wd hts hx_c13 rfl, hnc⟩) (by decide) (by decide) (hx_wd hts hx_c22 rfl) (va_Nw.use rfl hc2) g1 g2 g3 ?_
  refine lv_astore (lv' := [(4, .ref q9), (0, .ref (E.1 4 655365 0)), (1, .int x1), (2, .int x2), (3, .ref qo)]) hx hb dh_95_17 hl2 (by decide) rfl (fun ls hl2 => ?_)
  refine lv_iconst (v := 2) hx hb dh_95_19 (by decide) ?_
  exact W.iret (hlocks := hlocks) hx hb hr (fun t ht hW => ⟨2, v0, M, rfl, ⟨rfl, rfl, rfl⟩, by rw [ht]; exact hR1, by rw [ht]; exact ho1, (hx_up hS1).F ht⟩) (hx_up hS1).2.2 dh_95_20
theorem hn_97 {l : Launch} {E : ux_E} {M : ux_M} {x1 x2 : Int32} {qo : Nat} {v0 : Int64} {d : Nat} (hd37 : d ≤ 40) (hqo : ¬ ux_A E qo) {QQ : Int32 → ux_M → Prop} (hcall : ux_Call l E d y_97 [aR 4 655365 0, aI x1, aI x2] M (ux_CI QQ)) : hx_Met l E yh_97 hh_97 [aR 4 655365 0, aI x1, aI x2] qo v0 M (fun r v M1 => r = 0 ∧ ∃ a, QQ a M1 ∧ v = a.toInt64) := by
  refine hx_ofW (by decide +kernel) ?_
  intro p e s m args below meth c s₁ B hml hv
  obtain ⟨rfl, ⟨hRep, hK⟩, ho⟩ := hv
  have hx := B.exec
  have hb : c.code = yh_97.2.1 := B.bytes
  have hr := B.returns
  have hlocks := B.notSynchronized
  have S := hx_fix B hml
  have hts := atoms_spec (ws := hx_ws yh_97 hh_97) B.pre
  have htab : c.exceptionTable.toList = tableOf hh_97 := vx_table (x := yh_97.1) B (hts _ List.mem_cons_self)
  have hl2 := lv_entry ([.ref (E.1 4 655365 0), .int x1, .int x2, .ref qo]) (n := 5) (Nat.le_of_ble_eq_true rfl)
  show W p l e (fx_room 60) s m _ below meth c s.heap [] 0 0 _ (entryFrame m ([.ref (E.1 4 655365 0), .int x1, .int x2, .ref qo] : List Value).toArray 5)
  rw [lg_entry_eq]
  generalize (lg_sl ([.ref (E.1 4 655365 0), .int x1, .int x2, .ref qo]) ++ List.replicate (5 - (lg_sl ([.ref (E.1 4 655365 0), .int x1, .int x2, .ref qo])).length) Slot.unset).toArray = ls at hl2 ⊢
  have hl2 : lv_has ls 5 [(0, .ref (E.1 4 655365 0)), (1, .int x1), (2, .int x2), (3, .ref qo)] := hl2
  have hVS : va_S (ux_A E) s.heap s.heap [] := va_S.rf
  refine lv_aload_n hx hb dh_97_0 rfl (lv_at hl2 3 rfl) ?_
  refine lv_iconst (v := 0) hx hb dh_97_1 (by decide) ?_
  refine lv_aload_n hx hb dh_97_2 rfl (lv_at hl2 0 rfl) ?_
  refine lv_iload_n hx hb dh_97_3 rfl (lv_at hl2 1 rfl) ?_
  refine lv_iload_n hx hb dh_97_4 rfl (lv_at hl2 2 rfl) ?_
  refine fx_callv (d := d) (y2 := y_97) (q := (4, 655365, 0)) (ci := 0) (As := [.inl x1, .inl x2]) (rest := [.int 0, .ref qo]) (k := 2) S hx_sub hts hK (by decide +kernel) wl_97 wm_97 we_97 (by decide +kernel) (by decide) rfl (by decide) rfl rfl (fun v hv => by
      simp only [List.mem_cons, List.not_mem_nil, or_false] at hv
      rcases hv with rfl | rfl <;> trivial) (Nat.le_of_ble_eq_true rfl) hcall ⟨by show d + 5 ≤ 60; omega, by show 60 * d + 360 ≤ 60 * 60 + 300; omega⟩ ⟨Nat.zero_le _, Nat.zero_le _⟩ hRep hVS hl2.1 dh_97_5 (fun r0 M1 H1 locs1 hq hR1 hS1 _ hk1 => ?_)
  obtain ⟨a, rfl, hq⟩ := hq
  have ho1 := ho.keep hqo hk1
  refine lv_i2l hx hb dh_97_8 rfl ?_
  refine hx_last hx hb hK hqo ho1 hR1 (hx_up hS1) dh_97_9 (fun H2 locs2 hR2 ho2 hS2 => ?_)
  refine lv_goto (tgt := 21) hx hb dh_97_10 (by decide) ?_
  refine lv_iconst (v := 0) hx hb dh_97_21 (by decide) ?_
  refine W.widen (k := 1) (n := 6) (Nat.zero_le _) (Nat.zero_le _) ?_
  exact W.iret (hlocks := hlocks) hx hb hr (fun t ht hW => ⟨0, _, M1, rfl, ⟨rfl, a, hq, rfl⟩, by rw [ht]; exact hR2, by rw [ht]; exact ho2, hS2.F ht⟩) hS2.2.2 dh_97_22
theorem ht_97_0 {l : Launch} {E : ux_E} {M : ux_M} {x1 x2 : Int32} {qo : Nat} {v0 : Int64} (hE : ux_THok E) (hqo : ¬ ux_A E qo) (hM : fx_Met l E y_97 10 [aR 4 655365 0, aI x1, aI x2] M fx_IO) : hx_Met l E yh_97 hh_97 [aR 4 655365 0, aI x1, aI x2] qo v0 M (fun r v M1 => r = 1 ∧ v = v0 ∧ M1 = M) := by
  refine hx_ofW (by decide +kernel) ?_
  intro p e s m args below meth c s₁ B hml hv
  obtain ⟨rfl, ⟨hRep, hK⟩, ho⟩ := hv
  have hx := B.exec
  have hb : c.code = yh_97.2.1 := B.bytes
  have hr := B.returns
  have hlocks := B.notSynchronized
  have S := hx_fix B hml
  have hts := atoms_spec (ws := hx_ws yh_97 hh_97) B.pre
  have htab : c.exceptionTable.toList = tableOf hh_97 := vx_table (x := yh_97.1) B (hts _ List.mem_cons_self)
  have hl2 := lv_entry ([.ref (E.1 4 655365 0), .int x1, .int x2, .ref qo]) (n := 5) (Nat.le_of_ble_eq_true rfl)
  show W p l e (fx_room 60) s m _ below meth c s.heap [] 0 0 _ (entryFrame m ([.ref (E.1 4 655365 0), .int x1, .int x2, .ref qo] : List Value).toArray 5)
  rw [lg_entry_eq]
  generalize (lg_sl ([.ref (E.1 4 655365 0), .int x1, .int x2, .ref qo]) ++ List.replicate (5 - (lg_sl ([.ref (E.1 4 655365 0), .int x1, .int x2, .ref qo])).length) Slot.unset).toArray = ls at hl2 ⊢
  have hl2 : lv_has ls 5 [(0, .ref (E.1 4 655365 0)), (1, .int x1), (2, .int x2), (3, .ref qo)] := hl2
  have hVS : va_S (ux_A E) s.heap s.heap [] := va_S.rf
  refine lv_aload_n hx hb dh_97_0 rfl (lv_at hl2 3 rfl) ?_
  refine lv_iconst (v := 0) hx hb dh_97_1 (by decide) ?_
  refine lv_aload_n hx hb dh_97_2 rfl (lv_at hl2 0 rfl) ?_
  refine lv_iload_n hx hb dh_97_3 rfl (lv_at hl2 1 rfl) ?_
  refine lv_iload_n hx hb dh_97_4 rfl (lv_at hl2 2 rfl) ?_
  obtain ⟨-, -, ⟨hc1, hc2⟩, hnc, -⟩ := hE s s.heap hK.2.2.2.2
  refine fx_thrv (d := 10) (y2 := y_97) (q := (4, 655365, 0)) (ci := 0) (As := [.inl x1, .inl x2]) (rest := [.int 0, .ref qo]) (k := 2) S hx_sub hts hK (by decide +kernel) wl_97 wm_97 we_97 mo_97 (by decide +kernel) (by decide) rfl (by decide) rfl rfl (Nat.le_of_ble_eq_true rfl) hM ⟨Nat.le_of_ble_eq_true rfl, Nat.le_of_ble_eq_true rfl⟩ ⟨Nat.le_of_ble_eq_true rfl, Nat.le_of_ble_eq_true rfl⟩ hRep hVS hl2.1 dh_97_5 (fun ce q9 H1 locs1 hR1 hS1 _ hk1 g1 g2 g3 => ?_)
  have ho1 := ho.keep hqo hk1
  refine vx_catch (name := fx_IO) (E := fx_IO) S.2.2.2.1 [] ⟨0, 10, 13, 13⟩ [⟨0, 10, 17, 22⟩] (by rw [htab]; rfl) (fun z hz => by cases hz) (by decide) (by decide) (hx_wd hts hx_c13 rfl) (va_Nw.use rfl hc1) g1 g2 g3 ?_
  refine lv_astore (lv' := [(4, .ref q9), (0, .ref (E.1 4 655365 0)), (1, .int x1), (2, .int x2), (3, .ref qo)]) hx hb dh_97_13 hl2 (by decide) rfl (fun ls hl2 => ?_)
  refine lv_iconst (v := 1) hx hb dh_97_15 (by decide) ?_
  exact W.iret (hlocks := hlocks) hx hb hr (fun t ht hW => ⟨1, v0, M, rfl, ⟨rfl, rfl, rfl⟩, by rw [ht]; exact hR1, by rw [ht]; exact ho1, (hx_up hS1).F ht⟩) (hx_up hS1).2.2 dh_97_16
theorem ht_97_1 {l : Launch} {E : ux_E} {M : ux_M} {x1 x2 : Int32} {qo : Nat} {v0 : Int64} (hE : ux_THok E) (hqo : ¬ ux_A E qo) (hM : fx_Met l E y_97 10 [aR 4 655365 0, aI x1, aI x2] M fx_IA) : hx_Met l E yh_97 hh_97 [aR 4 655365 0, aI x1, aI x2] qo v0 M (fun r v M1 => r = 2 ∧ v = v0 ∧ M1 = M) := by
  refine hx_ofW (by decide +kernel) ?_
  intro p e s m args below meth c s₁ B hml hv
  obtain ⟨rfl, ⟨hRep, hK⟩, ho⟩ := hv
  have hx := B.exec
  have hb : c.code = yh_97.2.1 := B.bytes
  have hr := B.returns
  have hlocks := B.notSynchronized
  have S := hx_fix B hml
  have hts := atoms_spec (ws := hx_ws yh_97 hh_97) B.pre
  have htab : c.exceptionTable.toList = tableOf hh_97 := vx_table (x := yh_97.1) B (hts _ List.mem_cons_self)
  have hl2 := lv_entry ([.ref (E.1 4 655365 0), .int x1, .int x2, .ref qo]) (n := 5) (Nat.le_of_ble_eq_true rfl)
  show W p l e (fx_room 60) s m _ below meth c s.heap [] 0 0 _ (entryFrame m ([.ref (E.1 4 655365 0), .int x1, .int x2, .ref qo] : List Value).toArray 5)
  rw [lg_entry_eq]
  generalize (lg_sl ([.ref (E.1 4 655365 0), .int x1, .int x2, .ref qo]) ++ List.replicate (5 - (lg_sl ([.ref (E.1 4 655365 0), .int x1, .int x2, .ref qo])).length) Slot.unset).toArray = ls at hl2 ⊢
  have hl2 : lv_has ls 5 [(0, .ref (E.1 4 655365 0)), (1, .int x1), (2, .int x2), (3, .ref qo)] := hl2
  have hVS : va_S (ux_A E) s.heap s.heap [] := va_S.rf
  refine lv_aload_n hx hb dh_97_0 rfl (lv_at hl2 3 rfl) ?_
  refine lv_iconst (v := 0) hx hb dh_97_1 (by decide) ?_
  refine lv_aload_n hx hb dh_97_2 rfl (lv_at hl2 0 rfl) ?_
  refine lv_iload_n hx hb dh_97_3 rfl (lv_at hl2 1 rfl) ?_
  refine lv_iload_n hx hb dh_97_4 rfl (lv_at hl2 2 rfl) ?_
  obtain ⟨-, -, ⟨hc1, hc2⟩, hnc, -⟩ := hE s s.heap hK.2.2.2.2
  refine fx_thrv (d := 10) (y2 := y_97) (q := (4, 655365, 0)) (ci := 0) (As := [.inl x1, .inl x2]) (rest := [.int 0, .ref qo]) (k := 2) S hx_sub hts hK (by decide +kernel) wl_97 wm_97 we_97 mo_97 (by decide +kernel) (by decide) rfl (by decide) rfl rfl (Nat.le_of_ble_eq_true rfl) hM ⟨Nat.le_of_ble_eq_true rfl, Nat.le_of_ble_eq_true rfl⟩ ⟨Nat.le_of_ble_eq_true rfl, Nat.le_of_ble_eq_true rfl⟩ hRep hVS hl2.1 dh_97_5 (fun ce q9 H1 locs1 hR1 hS1 _ hk1 g1 g2 g3 => ?_)
  have ho1 := ho.keep hqo hk1
  refine vx_catch (name := fx_IA) (E := fx_IA) S.2.2.2.1 [⟨0, 10, 13, 13⟩] ⟨0, 10, 17, 22⟩ [] (by rw [htab]; rfl) (fun z hz => by rw [List.mem_singleton.mp hz]; exact .inr ⟨by decide, fx_IO, hx_wd hts hx_c13 rfl, hnc⟩) (by decide) (by decide) (hx_wd hts hx_c22 rfl) (va_Nw.use rfl hc2) g1 g2 g3 ?_
  refine lv_astore (lv' := [(4, .ref q9), (0, .ref (E.1 4 655365 0)), (1, .int x1), (2, .int x2), (3, .ref qo)]) hx hb dh_97_17 hl2 (by decide) rfl (fun ls hl2 => ?_)
  refine lv_iconst (v := 2) hx hb dh_97_19 (by decide) ?_
  exact W.iret (hlocks := hlocks) hx hb hr (fun t ht hW => ⟨2, v0, M, rfl, ⟨rfl, rfl, rfl⟩, by rw [ht]; exact hR1, by rw [ht]; exact ho1, (hx_up hS1).F ht⟩) (hx_up hS1).2.2 dh_97_20
theorem hn_98 {l : Launch} {E : ux_E} {M : ux_M} {x1 : Int32} {qo : Nat} {v0 : Int64} {d : Nat} (hd37 : d ≤ 40) (hqo : ¬ ux_A E qo) {QQ : Int32 → ux_M → Prop} (hcall : ux_Call l E d y_98 [aR 4 655365 0, aI x1] M (ux_CI QQ)) : hx_Met l E yh_98 hh_98 [aR 4 655365 0, aI x1] qo v0 M (fun r v M1 => r = 0 ∧ ∃ a, QQ a M1 ∧ v = a.toInt64) := by
  refine hx_ofW (by decide +kernel) ?_
  intro p e s m args below meth c s₁ B hml hv
  obtain ⟨rfl, ⟨hRep, hK⟩, ho⟩ := hv
  have hx := B.exec
  have hb : c.code = yh_98.2.1 := B.bytes
  have hr := B.returns
  have hlocks := B.notSynchronized
  have S := hx_fix B hml
  have hts := atoms_spec (ws := hx_ws yh_98 hh_98) B.pre
  have htab : c.exceptionTable.toList = tableOf hh_98 := vx_table (x := yh_98.1) B (hts _ List.mem_cons_self)
  have hl2 := lv_entry ([.ref (E.1 4 655365 0), .int x1, .ref qo]) (n := 4) (Nat.le_of_ble_eq_true rfl)
  show W p l e (fx_room 60) s m _ below meth c s.heap [] 0 0 _ (entryFrame m ([.ref (E.1 4 655365 0), .int x1, .ref qo] : List Value).toArray 4)
  rw [lg_entry_eq]
  generalize (lg_sl ([.ref (E.1 4 655365 0), .int x1, .ref qo]) ++ List.replicate (4 - (lg_sl ([.ref (E.1 4 655365 0), .int x1, .ref qo])).length) Slot.unset).toArray = ls at hl2 ⊢
  have hl2 : lv_has ls 4 [(0, .ref (E.1 4 655365 0)), (1, .int x1), (2, .ref qo)] := hl2
  have hVS : va_S (ux_A E) s.heap s.heap [] := va_S.rf
  refine lv_aload_n hx hb dh_98_0 rfl (lv_at hl2 2 rfl) ?_
  refine lv_iconst (v := 0) hx hb dh_98_1 (by decide) ?_
  refine lv_aload_n hx hb dh_98_2 rfl (lv_at hl2 0 rfl) ?_
  refine lv_iload_n hx hb dh_98_3 rfl (lv_at hl2 1 rfl) ?_
  refine fx_callv (d := d) (y2 := y_98) (q := (4, 655365, 0)) (ci := 0) (As := [.inl x1]) (rest := [.int 0, .ref qo]) (k := 1) S hx_sub hts hK (by decide +kernel) wl_98 wm_98 we_98 (by decide +kernel) (by decide) rfl (by decide) rfl rfl (fun v hv => by rw [List.mem_singleton.mp hv]; trivial) (Nat.le_of_ble_eq_true rfl) hcall ⟨by show d + 5 ≤ 60; omega, by show 60 * d + 360 ≤ 60 * 60 + 300; omega⟩ ⟨Nat.zero_le _, Nat.zero_le _⟩ hRep hVS hl2.1 dh_98_4 (fun r0 M1 H1 locs1 hq hR1 hS1 _ hk1 => ?_)
  obtain ⟨a, rfl, hq⟩ := hq
  have ho1 := ho.keep hqo hk1
  refine lv_i2l hx hb dh_98_7 rfl ?_
  refine hx_last hx hb hK hqo ho1 hR1 (hx_up hS1) dh_98_8 (fun H2 locs2 hR2 ho2 hS2 => ?_)
  refine lv_goto (tgt := 15) hx hb dh_98_9 (by decide) ?_
  refine lv_iconst (v := 0) hx hb dh_98_15 (by decide) ?_
  refine W.widen (k := 1) (n := 6) (Nat.zero_le _) (Nat.zero_le _) ?_
  exact W.iret (hlocks := hlocks) hx hb hr (fun t ht hW => ⟨0, _, M1, rfl, ⟨rfl, a, hq, rfl⟩, by rw [ht]; exact hR2, by rw [ht]; exact ho2, hS2.F ht⟩) hS2.2.2 dh_98_16
theorem ht_98_0 {l : Launch} {E : ux_E} {M : ux_M} {x1 : Int32} {qo : Nat} {v0 : Int64} (hE : ux_THok E) (hqo : ¬ ux_A E qo) (hM : fx_Met l E y_98 10 [aR 4 655365 0, aI x1] M fx_IO) : hx_Met l E yh_98 hh_98 [aR 4 655365 0, aI x1] qo v0 M (fun r v M1 => r = 1 ∧ v = v0 ∧ M1 = M) := by
  refine hx_ofW (by decide +kernel) ?_
  intro p e s m args below meth c s₁ B hml hv
  obtain ⟨rfl, ⟨hRep, hK⟩, ho⟩ := hv
  have hx := B.exec
  have hb : c.code = yh_98.2.1 := B.bytes
  have hr := B.returns
  have hlocks := B.notSynchronized
  have S := hx_fix B hml
  have hts := atoms_spec (ws := hx_ws yh_98 hh_98) B.pre
  have htab : c.exceptionTable.toList = tableOf hh_98 := vx_table (x := yh_98.1) B (hts _ List.mem_cons_self)
  have hl2 := lv_entry ([.ref (E.1 4 655365 0), .int x1, .ref qo]) (n := 4) (Nat.le_of_ble_eq_true rfl)
  show W p l e (fx_room 60) s m _ below meth c s.heap [] 0 0 _ (entryFrame m ([.ref (E.1 4 655365 0), .int x1, .ref qo] : List Value).toArray 4)
  rw [lg_entry_eq]
  generalize (lg_sl ([.ref (E.1 4 655365 0), .int x1, .ref qo]) ++ List.replicate (4 - (lg_sl ([.ref (E.1 4 655365 0), .int x1, .ref qo])).length) Slot.unset).toArray = ls at hl2 ⊢
  have hl2 : lv_has ls 4 [(0, .ref (E.1 4 655365 0)), (1, .int x1), (2, .ref qo)] := hl2
  have hVS : va_S (ux_A E) s.heap s.heap [] := va_S.rf
  refine lv_aload_n hx hb dh_98_0 rfl (lv_at hl2 2 rfl) ?_
  refine lv_iconst (v := 0) hx hb dh_98_1 (by decide) ?_
  refine lv_aload_n hx hb dh_98_2 rfl (lv_at hl2 0 rfl) ?_
  refine lv_iload_n hx hb dh_98_3 rfl (lv_at hl2 1 rfl) ?_
  obtain ⟨-, -, ⟨hc1, hc2⟩, hnc, -⟩ := hE s s.heap hK.2.2.2.2
  refine fx_thrv (d := 10) (y2 := y_98) (q := (4, 655365, 0)) (ci := 0) (As := [.inl x1]) (rest := [.int 0, .ref qo]) (k := 1) S hx_sub hts hK (by decide +kernel) wl_98 wm_98 we_98 mo_98 (by decide +kernel) (by decide) rfl (by decide) rfl rfl (Nat.le_of_ble_eq_true rfl) hM ⟨Nat.le_of_ble_eq_true rfl, Nat.le_of_ble_eq_true rfl⟩ ⟨Nat.le_of_ble_eq_true rfl, Nat.le_of_ble_eq_true rfl⟩ hRep hVS hl2.1 dh_98_4 (fun ce q9 H1 locs1 hR1 hS1 _ hk1 g1 g2 g3 => ?_)
  have ho1 := ho.keep hqo hk1
  refine vx_catch (name := fx_IO) (E := fx_IO) S.2.2.2.1 [] ⟨0, 9, 12, 13⟩ [] (by rw [htab]; rfl) (fun z hz => by cases hz) (by decide) (by decide) (hx_wd hts hx_c13 rfl) (va_Nw.use rfl hc1) g1 g2 g3 ?_
  refine lv_astore_n (lv' := [(3, .ref q9), (0, .ref (E.1 4 655365 0)), (1, .int x1), (2, .ref qo)]) hx hb dh_98_12 rfl hl2 (by decide) rfl (fun ls hl2 => ?_)
  refine lv_iconst (v := 1) hx hb dh_98_13 (by decide) ?_
  exact W.iret (hlocks := hlocks) hx hb hr (fun t ht hW => ⟨1, v0, M, rfl, ⟨rfl, rfl, rfl⟩, by rw [ht]; exact hR1, by rw [ht]; exact ho1, (hx_up hS1).F ht⟩) (hx_up hS1).2.2 dh_98_14
theorem hn_99 {l : Launch} {E : ux_E} {M : ux_M} {x1 x2 : Int32} {qo : Nat} {v0 : Int64} {d : Nat} (hd37 : d ≤ 40) (hqo : ¬ ux_A E qo) {QQ : Int32 → ux_M → Prop} (hcall : ux_Call l E d y_99 [aR 4 655365 0, aI x1, aI x2] M (ux_CI QQ)) : hx_Met l E yh_99 hh_99 [aR 4 655365 0, aI x1, aI x2] qo v0 M (fun r v M1 => r = 0 ∧ ∃ a, QQ a M1 ∧ v = a.toInt64) := by
  refine hx_ofW (by decide +kernel) ?_
  intro p e s m args below meth c s₁ B hml hv
  obtain ⟨rfl, ⟨hRep, hK⟩, ho⟩ := hv
  have hx := B.exec
  have hb : c.code = yh_99.2.1 := B.bytes
  have hr := B.returns
  have hlocks := B.notSynchronized
  have S := hx_fix B hml
  have hts := atoms_spec (ws := hx_ws yh_99 hh_99) B.pre
  have htab : c.exceptionTable.toList = tableOf hh_99 := vx_table (x := yh_99.1) B (hts _ List.mem_cons_self)
  have hl2 := lv_entry ([.ref (E.1 4 655365 0), .int x1, .int x2, .ref qo]) (n := 5) (Nat.le_of_ble_eq_true rfl)
  show W p l e (fx_room 60) s m _ below meth c s.heap [] 0 0 _ (entryFrame m ([.ref (E.1 4 655365 0), .int x1, .int x2, .ref qo] : List Value).toArray 5)
  rw [lg_entry_eq]
  generalize (lg_sl ([.ref (E.1 4 655365 0), .int x1, .int x2, .ref qo]) ++ List.replicate (5 - (lg_sl ([.ref (E.1 4 655365 0), .int x1, .int x2, .ref qo])).length) Slot.unset).toArray = ls at hl2 ⊢
  have hl2 : lv_has ls 5 [(0, .ref (E.1 4 655365 0)), (1, .int x1), (2, .int x2), (3, .ref qo)] := hl2
  have hVS : va_S (ux_A E) s.heap s.heap [] := va_S.rf
  refine lv_aload_n hx hb dh_99_0 rfl (lv_at hl2 3 rfl) ?_
  refine lv_iconst (v := 0) hx hb dh_99_1 (by decide) ?_
  refine lv_aload_n hx hb dh_99_2 rfl (lv_at hl2 0 rfl) ?_
  refine lv_iload_n hx hb dh_99_3 rfl (lv_at hl2 1 rfl) ?_
  refine lv_iload_n hx hb dh_99_4 rfl (lv_at hl2 2 rfl) ?_
  refine fx_callv (d := d) (y2 := y_99) (q := (4, 655365, 0)) (ci := 0) (As := [.inl x1, .inl x2]) (rest := [.int 0, .ref qo]) (k := 2) S hx_sub hts hK (by decide +kernel) wl_99 wm_99 we_99 (by decide +kernel) (by decide) rfl (by decide) rfl rfl (fun v hv => by
      simp only [List.mem_cons, List.not_mem_nil, or_false] at hv
      rcases hv with rfl | rfl <;> trivial) (Nat.le_of_ble_eq_true rfl) hcall ⟨by show d + 5 ≤ 60; omega, by show 60 * d + 360 ≤ 60 * 60 + 300; omega⟩ ⟨Nat.zero_le _, Nat.zero_le _⟩ hRep hVS hl2.1 dh_99_5 (fun r0 M1 H1 locs1 hq hR1 hS1 _ hk1 => ?_)
  obtain ⟨a, rfl, hq⟩ := hq
  have ho1 := ho.keep hqo hk1
  refine lv_i2l hx hb dh_99_8 rfl ?_
  refine hx_last hx hb hK hqo ho1 hR1 (hx_up hS1) dh_99_9 (fun H2 locs2 hR2 ho2 hS2 => ?_)
  refine lv_goto (tgt := 17) hx hb dh_99_10 (by decide) ?_
  refine lv_iconst (v := 0) hx hb dh_99_17 (by decide) ?_
  refine W.widen (k := 1) (n := 6) (Nat.zero_le _) (Nat.zero_le _) ?_
  exact W.iret (hlocks := hlocks) hx hb hr (fun t ht hW => ⟨0, _, M1, rfl, ⟨rfl, a, hq, rfl⟩, by rw [ht]; exact hR2, by rw [ht]; exact ho2, hS2.F ht⟩) hS2.2.2 dh_99_18
theorem ht_99_0 {l : Launch} {E : ux_E} {M : ux_M} {x1 x2 : Int32} {qo : Nat} {v0 : Int64} (hE : ux_THok E) (hqo : ¬ ux_A E qo) (hM : fx_Met l E y_99 10 [aR 4 655365 0, aI x1, aI x2] M fx_IO) : hx_Met l E yh_99 hh_99 [aR 4 655365 0, aI x1, aI x2] qo v0 M (fun r v M1 => r = 1 ∧ v = v0 ∧ M1 = M) := by
  refine hx_ofW (by decide +kernel) ?_
  intro p e s m args below meth c s₁ B hml hv
  obtain ⟨rfl, ⟨hRep, hK⟩, ho⟩ := hv
  have hx := B.exec
  have hb : c.code = yh_99.2.1 := B.bytes
  have hr := B.returns
  have hlocks := B.notSynchronized
  have S := hx_fix B hml
  have hts := atoms_spec (ws := hx_ws yh_99 hh_99) B.pre
  have htab : c.exceptionTable.toList = tableOf hh_99 := vx_table (x := yh_99.1) B (hts _ List.mem_cons_self)
  have hl2 := lv_entry ([.ref (E.1 4 655365 0), .int x1, .int x2, .ref qo]) (n := 5) (Nat.le_of_ble_eq_true rfl)
  show W p l e (fx_room 60) s m _ below meth c s.heap [] 0 0 _ (entryFrame m ([.ref (E.1 4 655365 0), .int x1, .int x2, .ref qo] : List Value).toArray 5)
  rw [lg_entry_eq]
  generalize (lg_sl ([.ref (E.1 4 655365 0), .int x1, .int x2, .ref qo]) ++ List.replicate (5 - (lg_sl ([.ref (E.1 4 655365 0), .int x1, .int x2, .ref qo])).length) Slot.unset).toArray = ls at hl2 ⊢
  have hl2 : lv_has ls 5 [(0, .ref (E.1 4 655365 0)), (1, .int x1), (2, .int x2), (3, .ref qo)] := hl2
  have hVS : va_S (ux_A E) s.heap s.heap [] := va_S.rf
  refine lv_aload_n hx hb dh_99_0 rfl (lv_at hl2 3 rfl) ?_
  refine lv_iconst (v := 0) hx hb dh_99_1 (by decide) ?_
  refine lv_aload_n hx hb dh_99_2 rfl (lv_at hl2 0 rfl) ?_
  refine lv_iload_n hx hb dh_99_3 rfl (lv_at hl2 1 rfl) ?_
  refine lv_iload_n hx hb dh_99_4 rfl (lv_at hl2 2 rfl) ?_
  obtain ⟨-, -, ⟨hc1, hc2⟩, hnc, -⟩ := hE s s.heap hK.2.2.2.2
  refine fx_thrv (d := 10) (y2 := y_99) (q := (4, 655365, 0)) (ci := 0) (As := [.inl x1, .inl x2]) (rest := [.int 0, .ref qo]) (k := 2) S hx_sub hts hK (by decide +kernel) wl_99 wm_99 we_99 mo_99 (by decide +kernel) (by decide) rfl (by decide) rfl rfl (Nat.le_of_ble_eq_true rfl) hM ⟨Nat.le_of_ble_eq_true rfl, Nat.le_of_ble_eq_true rfl⟩ ⟨Nat.le_of_ble_eq_true rfl, Nat.le_of_ble_eq_true rfl⟩ hRep hVS hl2.1 dh_99_5 (fun ce q9 H1 locs1 hR1 hS1 _ hk1 g1 g2 g3 => ?_)
  have ho1 := ho.keep hqo hk1
  refine vx_catch (name := fx_IO) (E := fx_IO) S.2.2.2.1 [] ⟨0, 10, 13, 13⟩ [] (by rw [htab]; rfl) (fun z hz => by cases hz) (by decide) (by decide) (hx_wd hts hx_c13 rfl) (va_Nw.use rfl hc1) g1 g2 g3 ?_
  refine lv_astore (lv' := [(4, .ref q9), (0, .ref (E.1 4 655365 0)), (1, .int x1), (2, .int x2), (3, .ref qo)]) hx hb dh_99_13 hl2 (by decide) rfl (fun ls hl2 => ?_)
  refine lv_iconst (v := 1) hx hb dh_99_15 (by decide) ?_
  exact W.iret (hlocks := hlocks) hx hb hr (fun t ht hW => ⟨1, v0, M, rfl, ⟨rfl, rfl, rfl⟩, by rw [ht]; exact hR1, by rw [ht]; exact ho1, (hx_up hS1).F ht⟩) (hx_up hS1).2.2 dh_99_16
theorem hn_100 {l : Launch} {E : ux_E} {M : ux_M} {x1 x2 : Int32} {qo : Nat} {v0 : Int64} {d : Nat} (hd37 : d ≤ 40) (hqo : ¬ ux_A E qo) {QQ : Int32 → ux_M → Prop} (hcall : ux_Call l E d y_100 [aR 4 655365 0, aI x1, aI x2] M (ux_CI QQ)) : hx_Met l E yh_100 hh_100 [aR 4 655365 0, aI x1, aI x2] qo v0 M (fun r v M1 => r = 0 ∧ ∃ a, QQ a M1 ∧ v = a.toInt64) := by
  refine hx_ofW (by decide +kernel) ?_
  intro p e s m args below meth c s₁ B hml hv
  obtain ⟨rfl, ⟨hRep, hK⟩, ho⟩ := hv
  have hx := B.exec
  have hb : c.code = yh_100.2.1 := B.bytes
  have hr := B.returns
  have hlocks := B.notSynchronized
  have S := hx_fix B hml
  have hts := atoms_spec (ws := hx_ws yh_100 hh_100) B.pre
  have htab : c.exceptionTable.toList = tableOf hh_100 := vx_table (x := yh_100.1) B (hts _ List.mem_cons_self)
  have hl2 := lv_entry ([.ref (E.1 4 655365 0), .int x1, .int x2, .ref qo]) (n := 5) (Nat.le_of_ble_eq_true rfl)
  show W p l e (fx_room 60) s m _ below meth c s.heap [] 0 0 _ (entryFrame m ([.ref (E.1 4 655365 0), .int x1, .int x2, .ref qo] : List Value).toArray 5)
  rw [lg_entry_eq]
  generalize (lg_sl ([.ref (E.1 4 655365 0), .int x1, .int x2, .ref qo]) ++ List.replicate (5 - (lg_sl ([.ref (E.1 4 655365 0), .int x1, .int x2, .ref qo])).length) Slot.unset).toArray = ls at hl2 ⊢
  have hl2 : lv_has ls 5 [(0, .ref (E.1 4 655365 0)), (1, .int x1), (2, .int x2), (3, .ref qo)] := hl2
  have hVS : va_S (ux_A E) s.heap s.heap [] := va_S.rf
  refine lv_aload_n hx hb dh_100_0 rfl (lv_at hl2 3 rfl) ?_
  refine lv_iconst (v := 0) hx hb dh_100_1 (by decide) ?_
  refine lv_aload_n hx hb dh_100_2 rfl (lv_at hl2 0 rfl) ?_
  refine lv_iload_n hx hb dh_100_3 rfl (lv_at hl2 1 rfl) ?_
  refine lv_iload_n hx hb dh_100_4 rfl (lv_at hl2 2 rfl) ?_
  refine fx_callv (d := d) (y2 := y_100) (q := (4, 655365, 0)) (ci := 0) (As := [.inl x1, .inl x2]) (rest := [.int 0, .ref qo]) (k := 2) S hx_sub hts hK (by decide +kernel) wl_100 wm_100 we_100 (by decide +kernel) (by decide) rfl (by decide) rfl rfl (fun v hv => by
      simp only [List.mem_cons, List.not_mem_nil, or_false] at hv
      rcases hv with rfl | rfl <;> trivial) (Nat.le_of_ble_eq_true rfl) hcall ⟨by show d + 5 ≤ 60; omega, by show 60 * d + 360 ≤ 60 * 60 + 300; omega⟩ ⟨Nat.zero_le _, Nat.zero_le _⟩ hRep hVS hl2.1 dh_100_5 (fun r0 M1 H1 locs1 hq hR1 hS1 _ hk1 => ?_)
  obtain ⟨a, rfl, hq⟩ := hq
  have ho1 := ho.keep hqo hk1
  refine lv_i2l hx hb dh_100_8 rfl ?_
  refine hx_last hx hb hK hqo ho1 hR1 (hx_up hS1) dh_100_9 (fun H2 locs2 hR2 ho2 hS2 => ?_)
  refine lv_goto (tgt := 17) hx hb dh_100_10 (by decide) ?_
  refine lv_iconst (v := 0) hx hb dh_100_17 (by decide) ?_
  refine W.widen (k := 1) (n := 6) (Nat.zero_le _) (Nat.zero_le _) ?_
  exact W.iret (hlocks := hlocks) hx hb hr (fun t ht hW => ⟨0, _, M1, rfl, ⟨rfl, a, hq, rfl⟩, by rw [ht]; exact hR2, by rw [ht]; exact ho2, hS2.F ht⟩) hS2.2.2 dh_100_18
theorem ht_100_0 {l : Launch} {E : ux_E} {M : ux_M} {x1 x2 : Int32} {qo : Nat} {v0 : Int64} (hE : ux_THok E) (hqo : ¬ ux_A E qo) (hM : fx_Met l E y_100 10 [aR 4 655365 0, aI x1, aI x2] M fx_IO) : hx_Met l E yh_100 hh_100 [aR 4 655365 0, aI x1, aI x2] qo v0 M (fun r v M1 => r = 1 ∧ v = v0 ∧ M1 = M) := by
  refine hx_ofW (by decide +kernel) ?_
  intro p e s m args below meth c s₁ B hml hv
  obtain ⟨rfl, ⟨hRep, hK⟩, ho⟩ := hv
  have hx := B.exec
  have hb : c.code = yh_100.2.1 := B.bytes
  have hr := B.returns
  have hlocks := B.notSynchronized
  have S := hx_fix B hml
  have hts := atoms_spec (ws := hx_ws yh_100 hh_100) B.pre
  have htab : c.exceptionTable.toList = tableOf hh_100 := vx_table (x := yh_100.1) B (hts _ List.mem_cons_self)
  have hl2 := lv_entry ([.ref (E.1 4 655365 0), .int x1, .int x2, .ref qo]) (n := 5) (Nat.le_of_ble_eq_true rfl)
  show W p l e (fx_room 60) s m _ below meth c s.heap [] 0 0 _ (entryFrame m ([.ref (E.1 4 655365 0), .int x1, .int x2, .ref qo] : List Value).toArray 5)
  rw [lg_entry_eq]
  generalize (lg_sl ([.ref (E.1 4 655365 0), .int x1, .int x2, .ref qo]) ++ List.replicate (5 - (lg_sl ([.ref (E.1 4 655365 0), .int x1, .int x2, .ref qo])).length) Slot.unset).toArray = ls at hl2 ⊢
  have hl2 : lv_has ls 5 [(0, .ref (E.1 4 655365 0)), (1, .int x1), (2, .int x2), (3, .ref qo)] := hl2
  have hVS : va_S (ux_A E) s.heap s.heap [] := va_S.rf
  refine lv_aload_n hx hb dh_100_0 rfl (lv_at hl2 3 rfl) ?_
  refine lv_iconst (v := 0) hx hb dh_100_1 (by decide) ?_
  refine lv_aload_n hx hb dh_100_2 rfl (lv_at hl2 0 rfl) ?_
  refine lv_iload_n hx hb dh_100_3 rfl (lv_at hl2 1 rfl) ?_
  refine lv_iload_n hx hb dh_100_4 rfl (lv_at hl2 2 rfl) ?_
  obtain ⟨-, -, ⟨hc1, hc2⟩, hnc, -⟩ := hE s s.heap hK.2.2.2.2
  refine fx_thrv (d := 10) (y2 := y_100) (q := (4, 655365, 0)) (ci := 0) (As := [.inl x1, .inl x2]) (rest := [.int 0, .ref qo]) (k := 2) S hx_sub hts hK (by decide +kernel) wl_100 wm_100 we_100 mo_100 (by decide +kernel) (by decide) rfl (by decide) rfl rfl (Nat.le_of_ble_eq_true rfl) hM ⟨Nat.le_of_ble_eq_true rfl, Nat.le_of_ble_eq_true rfl⟩ ⟨Nat.le_of_ble_eq_true rfl, Nat.le_of_ble_eq_true rfl⟩ hRep hVS hl2.1 dh_100_5 (fun ce q9 H1 locs1 hR1 hS1 _ hk1 g1 g2 g3 => ?_)
  have ho1 := ho.keep hqo hk1
  refine vx_catch (name := fx_IO) (E := fx_IO) S.2.2.2.1 [] ⟨0, 10, 13, 13⟩ [] (by rw [htab]; rfl) (fun z hz => by cases hz) (by decide) (by decide) (hx_wd hts hx_c13 rfl) (va_Nw.use rfl hc1) g1 g2 g3 ?_
  refine lv_astore (lv' := [(4, .ref q9), (0, .ref (E.1 4 655365 0)), (1, .int x1), (2, .int x2), (3, .ref qo)]) hx hb dh_100_13 hl2 (by decide) rfl (fun ls hl2 => ?_)
  refine lv_iconst (v := 1) hx hb dh_100_15 (by decide) ?_
  exact W.iret (hlocks := hlocks) hx hb hr (fun t ht hW => ⟨1, v0, M, rfl, ⟨rfl, rfl, rfl⟩, by rw [ht]; exact hR1, by rw [ht]; exact ho1, (hx_up hS1).F ht⟩) (hx_up hS1).2.2 dh_100_16
theorem hn_101 {l : Launch} {E : ux_E} {M : ux_M} {x1 x2 : Int32} {qo : Nat} {v0 : Int64} {d : Nat} (hd37 : d ≤ 40) (hqo : ¬ ux_A E qo) {QQ : Int32 → ux_M → Prop} (hcall : ux_Call l E d y_101 [aR 4 655365 0, aI x1, aI x2] M (ux_CI QQ)) : hx_Met l E yh_101 hh_101 [aR 4 655365 0, aI x1, aI x2] qo v0 M (fun r v M1 => r = 0 ∧ ∃ a, QQ a M1 ∧ v = a.toInt64) := by
  refine hx_ofW (by decide +kernel) ?_
  intro p e s m args below meth c s₁ B hml hv
  obtain ⟨rfl, ⟨hRep, hK⟩, ho⟩ := hv
  have hx := B.exec
  have hb : c.code = yh_101.2.1 := B.bytes
  have hr := B.returns
  have hlocks := B.notSynchronized
  have S := hx_fix B hml
  have hts := atoms_spec (ws := hx_ws yh_101 hh_101) B.pre
  have htab : c.exceptionTable.toList = tableOf hh_101 := vx_table (x := yh_101.1) B (hts _ List.mem_cons_self)
  have hl2 := lv_entry ([.ref (E.1 4 655365 0), .int x1, .int x2, .ref qo]) (n := 5) (Nat.le_of_ble_eq_true rfl)
  show W p l e (fx_room 60) s m _ below meth c s.heap [] 0 0 _ (entryFrame m ([.ref (E.1 4 655365 0), .int x1, .int x2, .ref qo] : List Value).toArray 5)
  rw [lg_entry_eq]
  generalize (lg_sl ([.ref (E.1 4 655365 0), .int x1, .int x2, .ref qo]) ++ List.replicate (5 - (lg_sl ([.ref (E.1 4 655365 0), .int x1, .int x2, .ref qo])).length) Slot.unset).toArray = ls at hl2 ⊢
  have hl2 : lv_has ls 5 [(0, .ref (E.1 4 655365 0)), (1, .int x1), (2, .int x2), (3, .ref qo)] := hl2
  have hVS : va_S (ux_A E) s.heap s.heap [] := va_S.rf
  refine lv_aload_n hx hb dh_101_0 rfl (lv_at hl2 3 rfl) ?_
  refine lv_iconst (v := 0) hx hb dh_101_1 (by decide) ?_
  refine lv_aload_n hx hb dh_101_2 rfl (lv_at hl2 0 rfl) ?_
  refine lv_iload_n hx hb dh_101_3 rfl (lv_at hl2 1 rfl) ?_
  refine lv_iload_n hx hb dh_101_4 rfl (lv_at hl2 2 rfl) ?_
  refine fx_callv (d := d) (y2 := y_101) (q := (4, 655365, 0)) (ci := 0) (As := [.inl x1, .inl x2]) (rest := [.int 0, .ref qo]) (k := 2) S hx_sub hts hK (by decide +kernel) wl_101 wm_101 we_101 (by decide +kernel) (by decide) rfl (by decide) rfl rfl (fun v hv => by
      simp only [List.mem_cons, List.not_mem_nil, or_false] at hv
      rcases hv with rfl | rfl <;> trivial) (Nat.le_of_ble_eq_true rfl) hcall ⟨by show d + 5 ≤ 60; omega, by show 60 * d + 360 ≤ 60 * 60 + 300; omega⟩ ⟨Nat.zero_le _, Nat.zero_le _⟩ hRep hVS hl2.1 dh_101_5 (fun r0 M1 H1 locs1 hq hR1 hS1 _ hk1 => ?_)
  obtain ⟨a, rfl, hq⟩ := hq
  have ho1 := ho.keep hqo hk1
  refine lv_i2l hx hb dh_101_8 rfl ?_
  refine hx_last hx hb hK hqo ho1 hR1 (hx_up hS1) dh_101_9 (fun H2 locs2 hR2 ho2 hS2 => ?_)
  refine lv_goto (tgt := 17) hx hb dh_101_10 (by decide) ?_
  refine lv_iconst (v := 0) hx hb dh_101_17 (by decide) ?_
  refine W.widen (k := 1) (n := 6) (Nat.zero_le _) (Nat.zero_le _) ?_
  exact W.iret (hlocks := hlocks) hx hb hr (fun t ht hW => ⟨0, _, M1, rfl, ⟨rfl, a, hq, rfl⟩, by rw [ht]; exact hR2, by rw [ht]; exact ho2, hS2.F ht⟩) hS2.2.2 dh_101_18
theorem ht_101_0 {l : Launch} {E : ux_E} {M : ux_M} {x1 x2 : Int32} {qo : Nat} {v0 : Int64} (hE : ux_THok E) (hqo : ¬ ux_A E qo) (hM : fx_Met l E y_101 10 [aR 4 655365 0, aI x1, aI x2] M fx_IO) : hx_Met l E yh_101 hh_101 [aR 4 655365 0, aI x1, aI x2] qo v0 M (fun r v M1 => r = 1 ∧ v = v0 ∧ M1 = M) := by
  refine hx_ofW (by decide +kernel) ?_
  intro p e s m args below meth c s₁ B hml hv
  obtain ⟨rfl, ⟨hRep, hK⟩, ho⟩ := hv
  have hx := B.exec
  have hb : c.code = yh_101.2.1 := B.bytes
  have hr := B.returns
  have hlocks := B.notSynchronized
  have S := hx_fix B hml
  have hts := atoms_spec (ws := hx_ws yh_101 hh_101) B.pre
  have htab : c.exceptionTable.toList = tableOf hh_101 := vx_table (x := yh_101.1) B (hts _ List.mem_cons_self)
  have hl2 := lv_entry ([.ref (E.1 4 655365 0), .int x1, .int x2, .ref qo]) (n := 5) (Nat.le_of_ble_eq_true rfl)
  show W p l e (fx_room 60) s m _ below meth c s.heap [] 0 0 _ (entryFrame m ([.ref (E.1 4 655365 0), .int x1, .int x2, .ref qo] : List Value).toArray 5)
  rw [lg_entry_eq]
  generalize (lg_sl ([.ref (E.1 4 655365 0), .int x1, .int x2, .ref qo]) ++ List.replicate (5 - (lg_sl ([.ref (E.1 4 655365 0), .int x1, .int x2, .ref qo])).length) Slot.unset).toArray = ls at hl2 ⊢
  have hl2 : lv_has ls 5 [(0, .ref (E.1 4 655365 0)), (1, .int x1), (2, .int x2), (3, .ref qo)] := hl2
  have hVS : va_S (ux_A E) s.heap s.heap [] := va_S.rf
  refine lv_aload_n hx hb dh_101_0 rfl (lv_at hl2 3 rfl) ?_
  refine lv_iconst (v := 0) hx hb dh_101_1 (by decide) ?_
  refine lv_aload_n hx hb dh_101_2 rfl (lv_at hl2 0 rfl) ?_
  refine lv_iload_n hx hb dh_101_3 rfl (lv_at hl2 1 rfl) ?_
  refine lv_iload_n hx hb dh_101_4 rfl (lv_at hl2 2 rfl) ?_
  obtain ⟨-, -, ⟨hc1, hc2⟩, hnc, -⟩ := hE s s.heap hK.2.2.2.2
  refine fx_thrv (d := 10) (y2 := y_101) (q := (4, 655365, 0)) (ci := 0) (As := [.inl x1, .inl x2]) (rest := [.int 0, .ref qo]) (k := 2) S hx_sub hts hK (by decide +kernel) wl_101 wm_101 we_101 mo_101 (by decide +kernel) (by decide) rfl (by decide) rfl rfl (Nat.le_of_ble_eq_true rfl) hM ⟨Nat.le_of_ble_eq_true rfl, Nat.le_of_ble_eq_true rfl⟩ ⟨Nat.le_of_ble_eq_true rfl, Nat.le_of_ble_eq_true rfl⟩ hRep hVS hl2.1 dh_101_5 (fun ce q9 H1 locs1 hR1 hS1 _ hk1 g1 g2 g3 => ?_)
  have ho1 := ho.keep hqo hk1
  refine vx_catch (name := fx_IO) (E := fx_IO) S.2.2.2.1 [] ⟨0, 10, 13, 13⟩ [] (by rw [htab]; rfl) (fun z hz => by cases hz) (by decide) (by decide) (hx_wd hts hx_c13 rfl) (va_Nw.use rfl hc1) g1 g2 g3 ?_
  refine lv_astore (lv' := [(4, .ref q9), (0, .ref (E.1 4 655365 0)), (1, .int x1), (2, .int x2), (3, .ref qo)]) hx hb dh_101_13 hl2 (by decide) rfl (fun ls hl2 => ?_)
  refine lv_iconst (v := 1) hx hb dh_101_15 (by decide) ?_
  exact W.iret (hlocks := hlocks) hx hb hr (fun t ht hW => ⟨1, v0, M, rfl, ⟨rfl, rfl, rfl⟩, by rw [ht]; exact hR1, by rw [ht]; exact ho1, (hx_up hS1).F ht⟩) (hx_up hS1).2.2 dh_101_16
theorem hn_102 {l : Launch} {E : ux_E} {M : ux_M} {x1 x2 x3 : Int32} {qo : Nat} {v0 : Int64} {d : Nat} (hd37 : d ≤ 40) (hqo : ¬ ux_A E qo) {QQ : Int32 → ux_M → Prop} (hcall : ux_Call l E d y_102 [aR 4 655365 0, aI x1, aI x2, aI x3] M (ux_CI QQ)) : hx_Met l E yh_102 hh_102 [aR 4 655365 0, aI x1, aI x2, aI x3] qo v0 M (fun r v M1 => r = 0 ∧ ∃ a, QQ a M1 ∧ v = a.toInt64) := by
  refine hx_ofW (by decide +kernel) ?_
  intro p e s m args below meth c s₁ B hml hv
  obtain ⟨rfl, ⟨hRep, hK⟩, ho⟩ := hv
  have hx := B.exec
  have hb : c.code = yh_102.2.1 := B.bytes
  have hr := B.returns
  have hlocks := B.notSynchronized
  have S := hx_fix B hml
  have hts := atoms_spec (ws := hx_ws yh_102 hh_102) B.pre
  have htab : c.exceptionTable.toList = tableOf hh_102 := vx_table (x := yh_102.1) B (hts _ List.mem_cons_self)
  have hl2 := lv_entry ([.ref (E.1 4 655365 0), .int x1, .int x2, .int x3, .ref qo]) (n := 6) (Nat.le_of_ble_eq_true rfl)
  show W p l e (fx_room 60) s m _ below meth c s.heap [] 0 0 _ (entryFrame m ([.ref (E.1 4 655365 0), .int x1, .int x2, .int x3, .ref qo] : List Value).toArray 6)
  rw [lg_entry_eq]
  generalize (lg_sl ([.ref (E.1 4 655365 0), .int x1, .int x2, .int x3, .ref qo]) ++ List.replicate (6 - (lg_sl ([.ref (E.1 4 655365 0), .int x1, .int x2, .int x3, .ref qo])).length) Slot.unset).toArray = ls at hl2 ⊢
  have hl2 : lv_has ls 6 [(0, .ref (E.1 4 655365 0)), (1, .int x1), (2, .int x2), (3, .int x3), (4, .ref qo)] := hl2
  have hVS : va_S (ux_A E) s.heap s.heap [] := va_S.rf
  refine lv_aload hx hb dh_102_0 (lv_at hl2 4 rfl) ?_
  refine lv_iconst (v := 0) hx hb dh_102_2 (by decide) ?_
  refine lv_aload_n hx hb dh_102_3 rfl (lv_at hl2 0 rfl) ?_
  refine lv_iload_n hx hb dh_102_4 rfl (lv_at hl2 1 rfl) ?_
  refine lv_iload_n hx hb dh_102_5 rfl (lv_at hl2 2 rfl) ?_
  refine lv_iload_n hx hb dh_102_6 rfl (lv_at hl2 3 rfl) ?_
  refine fx_callv (d := d) (y2 := y_102) (q := (4, 655365, 0)) (ci := 0) (As := [.inl x1, .inl x2, .inl x3]) (rest := [.int 0, .ref qo]) (k := 3) S hx_sub hts hK (by decide +kernel) wl_102 wm_102 we_102 (by decide +kernel) (by decide) rfl (by decide) rfl rfl (fun v hv => by
      simp only [List.mem_cons, List.not_mem_nil, or_false] at hv
      rcases hv with rfl | rfl | rfl <;> trivial) (Nat.le_of_ble_eq_true rfl) hcall ⟨by show d + 5 ≤ 60; omega, by show 60 * d + 360 ≤ 60 * 60 + 300; omega⟩ ⟨Nat.zero_le _, Nat.zero_le _⟩ hRep hVS hl2.1 dh_102_7 (fun r0 M1 H1 locs1 hq hR1 hS1 _ hk1 => ?_)
  obtain ⟨a, rfl, hq⟩ := hq
  have ho1 := ho.keep hqo hk1
  refine lv_i2l hx hb dh_102_10 rfl ?_
  refine hx_last hx hb hK hqo ho1 hR1 (hx_up hS1) dh_102_11 (fun H2 locs2 hR2 ho2 hS2 => ?_)
  refine lv_goto (tgt := 23) hx hb dh_102_12 (by decide) ?_
  refine lv_iconst (v := 0) hx hb dh_102_23 (by decide) ?_
  refine W.widen (k := 1) (n := 6) (Nat.zero_le _) (Nat.zero_le _) ?_
  exact W.iret (hlocks := hlocks) hx hb hr (fun t ht hW => ⟨0, _, M1, rfl, ⟨rfl, a, hq, rfl⟩, by rw [ht]; exact hR2, by rw [ht]; exact ho2, hS2.F ht⟩) hS2.2.2 dh_102_24
theorem ht_102_0 {l : Launch} {E : ux_E} {M : ux_M} {x1 x2 x3 : Int32} {qo : Nat} {v0 : Int64} (hE : ux_THok E) (hqo : ¬ ux_A E qo) (hM : fx_Met l E y_102 10 [aR 4 655365 0, aI x1, aI x2, aI x3] M fx_IO) : hx_Met l E yh_102 hh_102 [aR 4 655365 0, aI x1, aI x2, aI x3] qo v0 M (fun r v M1 => r = 1 ∧ v = v0 ∧ M1 = M) := by
  refine hx_ofW (by decide +kernel) ?_
  intro p e s m args below meth c s₁ B hml hv
  obtain ⟨rfl, ⟨hRep, hK⟩, ho⟩ := hv
  have hx := B.exec
  have hb : c.code = yh_102.2.1 := B.bytes
  have hr := B.returns
  have hlocks := B.notSynchronized
  have S := hx_fix B hml
  have hts := atoms_spec (ws := hx_ws yh_102 hh_102) B.pre
  have htab : c.exceptionTable.toList = tableOf hh_102 := vx_table (x := yh_102.1) B (hts _ List.mem_cons_self)
  have hl2 := lv_entry ([.ref (E.1 4 655365 0), .int x1, .int x2, .int x3, .ref qo]) (n := 6) (Nat.le_of_ble_eq_true rfl)
  show W p l e (fx_room 60) s m _ below meth c s.heap [] 0 0 _ (entryFrame m ([.ref (E.1 4 655365 0), .int x1, .int x2, .int x3, .ref qo] : List Value).toArray 6)
  rw [lg_entry_eq]
  generalize (lg_sl ([.ref (E.1 4 655365 0), .int x1, .int x2, .int x3, .ref qo]) ++ List.replicate (6 - (lg_sl ([.ref (E.1 4 655365 0), .int x1, .int x2, .int x3, .ref qo])).length) Slot.unset).toArray = ls at hl2 ⊢
  have hl2 : lv_has ls 6 [(0, .ref (E.1 4 655365 0)), (1, .int x1), (2, .int x2), (3, .int x3), (4, .ref qo)] := hl2
  have hVS : va_S (ux_A E) s.heap s.heap [] := va_S.rf
  refine lv_aload hx hb dh_102_0 (lv_at hl2 4 rfl) ?_
  refine lv_iconst (v := 0) hx hb dh_102_2 (by decide) ?_
  refine lv_aload_n hx hb dh_102_3 rfl (lv_at hl2 0 rfl) ?_
  refine lv_iload_n hx hb dh_102_4 rfl (lv_at hl2 1 rfl) ?_
  refine lv_iload_n hx hb dh_102_5 rfl (lv_at hl2 2 rfl) ?_
  refine lv_iload_n hx hb dh_102_6 rfl (lv_at hl2 3 rfl) ?_
  obtain ⟨-, -, ⟨hc1, hc2⟩, hnc, -⟩ := hE s s.heap hK.2.2.2.2
  refine fx_thrv (d := 10) (y2 := y_102) (q := (4, 655365, 0)) (ci := 0) (As := [.inl x1, .inl x2, .inl x3]) (rest := [.int 0, .ref qo]) (k := 3) S hx_sub hts hK (by decide +kernel) wl_102 wm_102 we_102 mo_102 (by decide +kernel) (by decide) rfl (by decide) rfl rfl (Nat.le_of_ble_eq_true rfl) hM ⟨Nat.le_of_ble_eq_true rfl, Nat.le_of_ble_eq_true rfl⟩ ⟨Nat.le_of_ble_eq_true rfl, Nat.le_of_ble_eq_true rfl⟩ hRep hVS hl2.1 dh_102_7 (fun ce q9 H1 locs1 hR1 hS1 _ hk1 g1 g2 g3 => ?_)
  have ho1 := ho.keep hqo hk1
  refine vx_catch (name := fx_IO) (E := fx_IO) S.2.2.2.1 [] ⟨0, 12, 15, 13⟩ [⟨0, 12, 19, 22⟩] (by rw [htab]; rfl) (fun z hz => by cases hz) (by decide) (by decide) (hx_wd hts hx_c13 rfl) (va_Nw.use rfl hc1) g1 g2 g3 ?_
  refine lv_astore (lv' := [(5, .ref q9), (0, .ref (E.1 4 655365 0)), (1, .int x1), (2, .int x2), (3, .int x3), (4, .ref qo)]) hx hb dh_102_15 hl2 (by decide) rfl (fun ls hl2 => ?_)
  refine lv_iconst (v := 1) hx hb dh_102_17 (by decide) ?_
  exact W.iret (hlocks := hlocks) hx hb hr (fun t ht hW => ⟨1, v0, M, rfl, ⟨rfl, rfl, rfl⟩, by rw [ht]; exact hR1, by rw [ht]; exact ho1, (hx_up hS1).F ht⟩) (hx_up hS1).2.2 dh_102_18
theorem ht_102_1 {l : Launch} {E : ux_E} {M : ux_M} {x1 x2 x3 : Int32} {qo : Nat} {v0 : Int64} (hE : ux_THok E) (hqo : ¬ ux_A E qo) (hM : fx_Met l E y_102 10 [aR 4 655365 0, aI x1, aI x2, aI x3] M fx_IA) : hx_Met l E yh_102 hh_102 [aR 4 655365 0, aI x1, aI x2, aI x3] qo v0 M (fun r v M1 => r = 2 ∧ v = v0 ∧ M1 = M) := by
  refine hx_ofW (by decide +kernel) ?_
  intro p e s m args below meth c s₁ B hml hv
  obtain ⟨rfl, ⟨hRep, hK⟩, ho⟩ := hv
  have hx := B.exec
  have hb : c.code = yh_102.2.1 := B.bytes
  have hr := B.returns
  have hlocks := B.notSynchronized
  have S := hx_fix B hml
  have hts := atoms_spec (ws := hx_ws yh_102 hh_102) B.pre
  have htab : c.exceptionTable.toList = tableOf hh_102 := vx_table (x := yh_102.1) B (hts _ List.mem_cons_self)
  have hl2 := lv_entry ([.ref (E.1 4 655365 0), .int x1, .int x2, .int x3, .ref qo]) (n := 6) (Nat.le_of_ble_eq_true rfl)
  show W p l e (fx_room 60) s m _ below meth c s.heap [] 0 0 _ (entryFrame m ([.ref (E.1 4 655365 0), .int x1, .int x2, .int x3, .ref qo] : List Value).toArray 6)
  rw [lg_entry_eq]
  generalize (lg_sl ([.ref (E.1 4 655365 0), .int x1, .int x2, .int x3, .ref qo]) ++ List.replicate (6 - (lg_sl ([.ref (E.1 4 655365 0), .int x1, .int x2, .int x3, .ref qo])).length) Slot.unset).toArray = ls at hl2 ⊢
  have hl2 : lv_has ls 6 [(0, .ref (E.1 4 655365 0)), (1, .int x1), (2, .int x2), (3, .int x3), (4, .ref qo)] := hl2
  have hVS : va_S (ux_A E) s.heap s.heap [] := va_S.rf
  refine lv_aload hx hb dh_102_0 (lv_at hl2 4 rfl) ?_
  refine lv_iconst (v := 0) hx hb dh_102_2 (by decide) ?_
  refine lv_aload_n hx hb dh_102_3 rfl (lv_at hl2 0 rfl) ?_
  refine lv_iload_n hx hb dh_102_4 rfl (lv_at hl2 1 rfl) ?_
  refine lv_iload_n hx hb dh_102_5 rfl (lv_at hl2 2 rfl) ?_
  refine lv_iload_n hx hb dh_102_6 rfl (lv_at hl2 3 rfl) ?_
  obtain ⟨-, -, ⟨hc1, hc2⟩, hnc, -⟩ := hE s s.heap hK.2.2.2.2
  refine fx_thrv (d := 10) (y2 := y_102) (q := (4, 655365, 0)) (ci := 0) (As := [.inl x1, .inl x2, .inl x3]) (rest := [.int 0, .ref qo]) (k := 3) S hx_sub hts hK (by decide +kernel) wl_102 wm_102 we_102 mo_102 (by decide +kernel) (by decide) rfl (by decide) rfl rfl (Nat.le_of_ble_eq_true rfl) hM ⟨Nat.le_of_ble_eq_true rfl, Nat.le_of_ble_eq_true rfl⟩ ⟨Nat.le_of_ble_eq_true rfl, Nat.le_of_ble_eq_true rfl⟩ hRep hVS hl2.1 dh_102_7 (fun ce q9 H1 locs1 hR1 hS1 _ hk1 g1 g2 g3 => ?_)
  have ho1 := ho.keep hqo hk1
  refine vx_catch (name := fx_IA) (E := fx_IA) S.2.2.2.1 [⟨0, 12, 15, 13⟩] ⟨0, 12, 19, 22⟩ [] (by rw [htab]; rfl) (fun z hz => by rw [List.mem_singleton.mp hz]; exact .inr ⟨by decide, fx_IO, hx_wd hts hx_c13 rfl, hnc⟩) (by decide) (by decide) (hx_wd hts hx_c22 rfl) (va_Nw.use rfl hc2) g1 g2 g3 ?_
  refine lv_astore (lv' := [(5, .ref q9), (0, .ref (E.1 4 655365 0)), (1, .int x1), (2, .int x2), (3, .int x3), (4, .ref qo)]) hx hb dh_102_19 hl2 (by decide) rfl (fun ls hl2 => ?_)
  refine lv_iconst (v := 2) hx hb dh_102_21 (by decide) ?_
  exact W.iret (hlocks := hlocks) hx hb hr (fun t ht hW => ⟨2, v0, M, rfl, ⟨rfl, rfl, rfl⟩, by rw [ht]; exact hR1, by rw [ht]; exact ho1, (hx_up hS1).F ht⟩) (hx_up hS1).2.2 dh_102_22
theorem hn_104 {l : Launch} {E : ux_E} {M : ux_M} {x1 x2 : Int32} {qo : Nat} {v0 : Int64} {d : Nat} (hd37 : d ≤ 40) (hqo : ¬ ux_A E qo) {QQ : Int32 → ux_M → Prop} (hcall : ux_Call l E d y_104 [aR 4 655365 0, aI x1, aI x2] M (ux_CI QQ)) : hx_Met l E yh_104 hh_104 [aR 4 655365 0, aI x1, aI x2] qo v0 M (fun r v M1 => r = 0 ∧ ∃ a, QQ a M1 ∧ v = a.toInt64) := by
  refine hx_ofW (by decide +kernel) ?_
  intro p e s m args below meth c s₁ B hml hv
  obtain ⟨rfl, ⟨hRep, hK⟩, ho⟩ := hv
  have hx := B.exec
  have hb : c.code = yh_104.2.1 := B.bytes
  have hr := B.returns
  have hlocks := B.notSynchronized
  have S := hx_fix B hml
  have hts := atoms_spec (ws := hx_ws yh_104 hh_104) B.pre
  have htab : c.exceptionTable.toList = tableOf hh_104 := vx_table (x := yh_104.1) B (hts _ List.mem_cons_self)
  have hl2 := lv_entry ([.ref (E.1 4 655365 0), .int x1, .int x2, .ref qo]) (n := 5) (Nat.le_of_ble_eq_true rfl)
  show W p l e (fx_room 60) s m _ below meth c s.heap [] 0 0 _ (entryFrame m ([.ref (E.1 4 655365 0), .int x1, .int x2, .ref qo] : List Value).toArray 5)
  rw [lg_entry_eq]
  generalize (lg_sl ([.ref (E.1 4 655365 0), .int x1, .int x2, .ref qo]) ++ List.replicate (5 - (lg_sl ([.ref (E.1 4 655365 0), .int x1, .int x2, .ref qo])).length) Slot.unset).toArray = ls at hl2 ⊢
  have hl2 : lv_has ls 5 [(0, .ref (E.1 4 655365 0)), (1, .int x1), (2, .int x2), (3, .ref qo)] := hl2
  have hVS : va_S (ux_A E) s.heap s.heap [] := va_S.rf
  refine lv_aload_n hx hb dh_104_0 rfl (lv_at hl2 3 rfl) ?_
  refine lv_iconst (v := 0) hx hb dh_104_1 (by decide) ?_
  refine lv_aload_n hx hb dh_104_2 rfl (lv_at hl2 0 rfl) ?_
  refine lv_iload_n hx hb dh_104_3 rfl (lv_at hl2 1 rfl) ?_
  refine lv_iload_n hx hb dh_104_4 rfl (lv_at hl2 2 rfl) ?_
  refine fx_callv (d := d) (y2 := y_104) (q := (4, 655365, 0)) (ci := 0) (As := [.inl x1, .inl x2]) (rest := [.int 0, .ref qo]) (k := 2) S hx_sub hts hK (by decide +kernel) wl_104 wm_104 we_104 (by decide +kernel) (by decide) rfl (by decide) rfl rfl (fun v hv => by
      simp only [List.mem_cons, List.not_mem_nil, or_false] at hv
      rcases hv with rfl | rfl <;> trivial) (Nat.le_of_ble_eq_true rfl) hcall ⟨by show d + 5 ≤ 60; omega, by show 60 * d + 360 ≤ 60 * 60 + 300; omega⟩ ⟨Nat.zero_le _, Nat.zero_le _⟩ hRep hVS hl2.1 dh_104_5 (fun r0 M1 H1 locs1 hq hR1 hS1 _ hk1 => ?_)
  obtain ⟨a, rfl, hq⟩ := hq
  have ho1 := ho.keep hqo hk1
  refine lv_i2l hx hb dh_104_8 rfl ?_
  refine hx_last hx hb hK hqo ho1 hR1 (hx_up hS1) dh_104_9 (fun H2 locs2 hR2 ho2 hS2 => ?_)
  refine lv_goto (tgt := 21) hx hb dh_104_10 (by decide) ?_
  refine lv_iconst (v := 0) hx hb dh_104_21 (by decide) ?_
  refine W.widen (k := 1) (n := 6) (Nat.zero_le _) (Nat.zero_le _) ?_
  exact W.iret (hlocks := hlocks) hx hb hr (fun t ht hW => ⟨0, _, M1, rfl, ⟨rfl, a, hq, rfl⟩, by rw [ht]; exact hR2, by rw [ht]; exact ho2, hS2.F ht⟩) hS2.2.2 dh_104_22
theorem ht_104_0 {l : Launch} {E : ux_E} {M : ux_M} {x1 x2 : Int32} {qo : Nat} {v0 : Int64} (hE : ux_THok E) (hqo : ¬ ux_A E qo) (hM : fx_Met l E y_104 10 [aR 4 655365 0, aI x1, aI x2] M fx_IO) : hx_Met l E yh_104 hh_104 [aR 4 655365 0, aI x1, aI x2] qo v0 M (fun r v M1 => r = 1 ∧ v = v0 ∧ M1 = M) := by
  refine hx_ofW (by decide +kernel) ?_
  intro p e s m args below meth c s₁ B hml hv
  obtain ⟨rfl, ⟨hRep, hK⟩, ho⟩ := hv
  have hx := B.exec
  have hb : c.code = yh_104.2.1 := B.bytes
  have hr := B.returns
  have hlocks := B.notSynchronized
  have S := hx_fix B hml
  have hts := atoms_spec (ws := hx_ws yh_104 hh_104) B.pre
  have htab : c.exceptionTable.toList = tableOf hh_104 := vx_table (x := yh_104.1) B (hts _ List.mem_cons_self)
  have hl2 := lv_entry ([.ref (E.1 4 655365 0), .int x1, .int x2, .ref qo]) (n := 5) (Nat.le_of_ble_eq_true rfl)
  show W p l e (fx_room 60) s m _ below meth c s.heap [] 0 0 _ (entryFrame m ([.ref (E.1 4 655365 0), .int x1, .int x2, .ref qo] : List Value).toArray 5)
  rw [lg_entry_eq]
  generalize (lg_sl ([.ref (E.1 4 655365 0), .int x1, .int x2, .ref qo]) ++ List.replicate (5 - (lg_sl ([.ref (E.1 4 655365 0), .int x1, .int x2, .ref qo])).length) Slot.unset).toArray = ls at hl2 ⊢
  have hl2 : lv_has ls 5 [(0, .ref (E.1 4 655365 0)), (1, .int x1), (2, .int x2), (3, .ref qo)] := hl2
  have hVS : va_S (ux_A E) s.heap s.heap [] := va_S.rf
  refine lv_aload_n hx hb dh_104_0 rfl (lv_at hl2 3 rfl) ?_
  refine lv_iconst (v := 0) hx hb dh_104_1 (by decide) ?_
  refine lv_aload_n hx hb dh_104_2 rfl (lv_at hl2 0 rfl) ?_
  refine lv_iload_n hx hb dh_104_3 rfl (lv_at hl2 1 rfl) ?_
  refine lv_iload_n hx hb dh_104_4 rfl (lv_at hl2 2 rfl) ?_
  obtain ⟨-, -, ⟨hc1, hc2⟩, hnc, -⟩ := hE s s.heap hK.2.2.2.2
  refine fx_thrv (d := 10) (y2 := y_104) (q := (4, 655365, 0)) (ci := 0) (As := [.inl x1, .inl x2]) (rest := [.int 0, .ref qo]) (k := 2) S hx_sub hts hK (by decide +kernel) wl_104 wm_104 we_104 mo_104 (by decide +kernel) (by decide) rfl (by decide) rfl rfl (Nat.le_of_ble_eq_true rfl) hM ⟨Nat.le_of_ble_eq_true rfl, Nat.le_of_ble_eq_true rfl⟩ ⟨Nat.le_of_ble_eq_true rfl, Nat.le_of_ble_eq_true rfl⟩ hRep hVS hl2.1 dh_104_5 (fun ce q9 H1 locs1 hR1 hS1 _ hk1 g1 g2 g3 => ?_)
  have ho1 := ho.keep hqo hk1
  refine vx_catch (name := fx_IO) (E := fx_IO) S.2.2.2.1 [] ⟨0, 10, 13, 13⟩ [⟨0, 10, 17, 22⟩] (by rw [htab]; rfl) (fun z hz => by cases hz) (by decide) (by decide) (hx_wd hts hx_c13 rfl) (va_Nw.use rfl hc1) g1 g2 g3 ?_
  refine lv_astore (lv' := [(4, .ref q9), (0, .ref (E.1 4 655365 0)), (1, .int x1), (2, .int x2), (3, .ref qo)]) hx hb dh_104_13 hl2 (by decide) rfl (fun ls hl2 => ?_)
  refine lv_iconst (v := 1) hx hb dh_104_15 (by decide) ?_
  exact W.iret (hlocks := hlocks) hx hb hr (fun t ht hW => ⟨1, v0, M, rfl, ⟨rfl, rfl, rfl⟩, by rw [ht]; exact hR1, by rw [ht]; exact ho1, (hx_up hS1).F ht⟩) (hx_up hS1).2.2 dh_104_16
theorem ht_104_1 {l : Launch} {E : ux_E} {M : ux_M} {x1 x2 : Int32} {qo : Nat} {v0 : Int64} (hE : ux_THok E) (hqo : ¬ ux_A E qo) (hM : fx_Met l E y_104 10 [aR 4 655365 0, aI x1, aI x2] M fx_IA) : hx_Met l E yh_104 hh_104 [aR 4 655365 0, aI x1, aI x2] qo v0 M (fun r v M1 => r = 2 ∧ v = v0 ∧ M1 = M) := by
  refine hx_ofW (by decide +kernel) ?_
  intro p e s m args below meth c s₁ B hml hv
  obtain ⟨rfl, ⟨hRep, hK⟩, ho⟩ := hv
  have hx := B.exec
  have hb : c.code = yh_104.2.1 := B.bytes
  have hr := B.returns
  have hlocks := B.notSynchronized
  have S := hx_fix B hml
  have hts := atoms_spec (ws := hx_ws yh_104 hh_104) B.pre
  have htab : c.exceptionTable.toList = tableOf hh_104 := vx_table (x := yh_104.1) B (hts _ List.mem_cons_self)
  have hl2 := lv_entry ([.ref (E.1 4 655365 0), .int x1, .int x2, .ref qo]) (n := 5) (Nat.le_of_ble_eq_true rfl)
  show W p l e (fx_room 60) s m _ below meth c s.heap [] 0 0 _ (entryFrame m ([.ref (E.1 4 655365 0), .int x1, .int x2, .ref qo] : List Value).toArray 5)
  rw [lg_entry_eq]
  generalize (lg_sl ([.ref (E.1 4 655365 0), .int x1, .int x2, .ref qo]) ++ List.replicate (5 - (lg_sl ([.ref (E.1 4 655365 0), .int x1, .int x2, .ref qo])).length) Slot.unset).toArray = ls at hl2 ⊢
  have hl2 : lv_has ls 5 [(0, .ref (E.1 4 655365 0)), (1, .int x1), (2, .int x2), (3, .ref qo)] := hl2
  have hVS : va_S (ux_A E) s.heap s.heap [] := va_S.rf
  refine lv_aload_n hx hb dh_104_0 rfl (lv_at hl2 3 rfl) ?_
  refine lv_iconst (v := 0) hx hb dh_104_1 (by decide) ?_
  refine lv_aload_n hx hb dh_104_2 rfl (lv_at hl2 0 rfl) ?_
  refine lv_iload_n hx hb dh_104_3 rfl (lv_at hl2 1 rfl) ?_
  refine lv_iload_n hx hb dh_104_4 rfl (lv_at hl2 2 rfl) ?_
  obtain ⟨-, -, ⟨hc1, hc2⟩, hnc, -⟩ := hE s s.heap hK.2.2.2.2
  refine fx_thrv (d := 10) (y2 := y_104) (q := (4, 655365, 0)) (ci := 0) (As := [.inl x1, .inl x2]) (rest := [.int 0, .ref qo]) (k := 2) S hx_sub hts hK (by decide +kernel) wl_104 wm_104 we_104 mo_104 (by decide +kernel) (by decide) rfl (by decide) rfl rfl (Nat.le_of_ble_eq_true rfl) hM ⟨Nat.le_of_ble_eq_true rfl, Nat.le_of_ble_eq_true rfl⟩ ⟨Nat.le_of_ble_eq_true rfl, Nat.le_of_ble_eq_true rfl⟩ hRep hVS hl2.1 dh_104_5 (fun ce q9 H1 locs1 hR1 hS1 _ hk1 g1 g2 g3 => ?_)
  have ho1 := ho.keep hqo hk1
  refine vx_catch (name := fx_IA) (E := fx_IA) S.2.2.2.1 [⟨0, 10, 13, 13⟩] ⟨0, 10, 17, 22⟩ [] (by rw [htab]; rfl) (fun z hz => by rw [List.mem_singleton.mp hz]; exact .inr ⟨by decide, fx_IO, hx_wd hts hx_c13 rfl, hnc⟩) (by decide) (by decide) (hx_wd hts hx_c22 rfl) (va_Nw.use rfl hc2) g1 g2 g3 ?_
  refine lv_astore (lv' := [(4, .ref q9), (0, .ref (E.1 4 655365 0)), (1, .int x1), (2, .int x2), (3, .ref qo)]) hx hb dh_104_17 hl2 (by decide) rfl (fun ls hl2 => ?_)
  refine lv_iconst (v := 2) hx hb dh_104_19 (by decide) ?_
  exact W.iret (hlocks := hlocks) hx hb hr (fun t ht hW => ⟨2, v0, M, rfl, ⟨rfl, rfl, rfl⟩, by rw [ht]; exact hR1, by rw [ht]; exact ho1, (hx_up hS1).F ht⟩) (hx_up hS1).2.2 dh_104_20
theorem hn_108 {l : Launch} {E : ux_E} {M : ux_M} {x1 : Int32} {qo : Nat} {v0 : Int64} {d : Nat} (hd37 : d ≤ 40) (hqo : ¬ ux_A E qo) {QQ : Int32 → ux_M → Prop} (hcall : ux_Call l E d y_108 [aR 4 655365 0, aI x1] M (ux_CI QQ)) : hx_Met l E yh_108 hh_108 [aR 4 655365 0, aI x1] qo v0 M (fun r v M1 => r = 0 ∧ ∃ a, QQ a M1 ∧ v = a.toInt64) := by
  refine hx_ofW (by decide +kernel) ?_
  intro p e s m args below meth c s₁ B hml hv
  obtain ⟨rfl, ⟨hRep, hK⟩, ho⟩ := hv
  have hx := B.exec
  have hb : c.code = yh_108.2.1 := B.bytes
  have hr := B.returns
  have hlocks := B.notSynchronized
  have S := hx_fix B hml
  have hts := atoms_spec (ws := hx_ws yh_108 hh_108) B.pre
  have htab : c.exceptionTable.toList = tableOf hh_108 := vx_table (x := yh_108.1) B (hts _ List.mem_cons_self)
  have hl2 := lv_entry ([.ref (E.1 4 655365 0), .int x1, .ref qo]) (n := 4) (Nat.le_of_ble_eq_true rfl)
  show W p l e (fx_room 60) s m _ below meth c s.heap [] 0 0 _ (entryFrame m ([.ref (E.1 4 655365 0), .int x1, .ref qo] : List Value).toArray 4)
  rw [lg_entry_eq]
  generalize (lg_sl ([.ref (E.1 4 655365 0), .int x1, .ref qo]) ++ List.replicate (4 - (lg_sl ([.ref (E.1 4 655365 0), .int x1, .ref qo])).length) Slot.unset).toArray = ls at hl2 ⊢
  have hl2 : lv_has ls 4 [(0, .ref (E.1 4 655365 0)), (1, .int x1), (2, .ref qo)] := hl2
  have hVS : va_S (ux_A E) s.heap s.heap [] := va_S.rf
  refine lv_aload_n hx hb dh_108_0 rfl (lv_at hl2 2 rfl) ?_
  refine lv_iconst (v := 0) hx hb dh_108_1 (by decide) ?_
  refine lv_aload_n hx hb dh_108_2 rfl (lv_at hl2 0 rfl) ?_
  refine lv_iload_n hx hb dh_108_3 rfl (lv_at hl2 1 rfl) ?_
  refine fx_callv (d := d) (y2 := y_108) (q := (4, 655365, 0)) (ci := 0) (As := [.inl x1]) (rest := [.int 0, .ref qo]) (k := 1) S hx_sub hts hK (by decide +kernel) wl_108 wm_108 we_108 (by decide +kernel) (by decide) rfl (by decide) rfl rfl (fun v hv => by rw [List.mem_singleton.mp hv]; trivial) (Nat.le_of_ble_eq_true rfl) hcall ⟨by show d + 5 ≤ 60; omega, by show 60 * d + 360 ≤ 60 * 60 + 300; omega⟩ ⟨Nat.zero_le _, Nat.zero_le _⟩ hRep hVS hl2.1 dh_108_4 (fun r0 M1 H1 locs1 hq hR1 hS1 _ hk1 => ?_)
  obtain ⟨a, rfl, hq⟩ := hq
  have ho1 := ho.keep hqo hk1
  refine lv_i2l hx hb dh_108_7 rfl ?_
  refine hx_last hx hb hK hqo ho1 hR1 (hx_up hS1) dh_108_8 (fun H2 locs2 hR2 ho2 hS2 => ?_)
  refine lv_goto (tgt := 15) hx hb dh_108_9 (by decide) ?_
  refine lv_iconst (v := 0) hx hb dh_108_15 (by decide) ?_
  refine W.widen (k := 1) (n := 6) (Nat.zero_le _) (Nat.zero_le _) ?_
  exact W.iret (hlocks := hlocks) hx hb hr (fun t ht hW => ⟨0, _, M1, rfl, ⟨rfl, a, hq, rfl⟩, by rw [ht]; exact hR2, by rw [ht]; exact ho2, hS2.F ht⟩) hS2.2.2 dh_108_16
theorem ht_108_0 {l : Launch} {E : ux_E} {M : ux_M} {x1 : Int32} {qo : Nat} {v0 : Int64} (hE : ux_THok E) (hqo : ¬ ux_A E qo) (hM : fx_Met l E y_108 10 [aR 4 655365 0, aI x1] M fx_IO) : hx_Met l E yh_108 hh_108 [aR 4 655365 0, aI x1] qo v0 M (fun r v M1 => r = 1 ∧ v = v0 ∧ M1 = M) := by
  refine hx_ofW (by decide +kernel) ?_
  intro p e s m args below meth c s₁ B hml hv
  obtain ⟨rfl, ⟨hRep, hK⟩, ho⟩ := hv
  have hx := B.exec
  have hb : c.code = yh_108.2.1 := B.bytes
  have hr := B.returns
  have hlocks := B.notSynchronized
  have S := hx_fix B hml
  have hts := atoms_spec (ws := hx_ws yh_108 hh_108) B.pre
  have htab : c.exceptionTable.toList = tableOf hh_108 := vx_table (x := yh_108.1) B (hts _ List.mem_cons_self)
  have hl2 := lv_entry ([.ref (E.1 4 655365 0), .int x1, .ref qo]) (n := 4) (Nat.le_of_ble_eq_true rfl)
  show W p l e (fx_room 60) s m _ below meth c s.heap [] 0 0 _ (entryFrame m ([.ref (E.1 4 655365 0), .int x1, .ref qo] : List Value).toArray 4)
  rw [lg_entry_eq]
  generalize (lg_sl ([.ref (E.1 4 655365 0), .int x1, .ref qo]) ++ List.replicate (4 - (lg_sl ([.ref (E.1 4 655365 0), .int x1, .ref qo])).length) Slot.unset).toArray = ls at hl2 ⊢
  have hl2 : lv_has ls 4 [(0, .ref (E.1 4 655365 0)), (1, .int x1), (2, .ref qo)] := hl2
  have hVS : va_S (ux_A E) s.heap s.heap [] := va_S.rf
  refine lv_aload_n hx hb dh_108_0 rfl (lv_at hl2 2 rfl) ?_
  refine lv_iconst (v := 0) hx hb dh_108_1 (by decide) ?_
  refine lv_aload_n hx hb dh_108_2 rfl (lv_at hl2 0 rfl) ?_
  refine lv_iload_n hx hb dh_108_3 rfl (lv_at hl2 1 rfl) ?_
  obtain ⟨-, -, ⟨hc1, hc2⟩, hnc, -⟩ := hE s s.heap hK.2.2.2.2
  refine fx_thrv (d := 10) (y2 := y_108) (q := (4, 655365, 0)) (ci := 0) (As := [.inl x1]) (rest := [.int 0, .ref qo]) (k := 1) S hx_sub hts hK (by decide +kernel) wl_108 wm_108 we_108 mo_108 (by decide +kernel) (by decide) rfl (by decide) rfl rfl (Nat.le_of_ble_eq_true rfl) hM ⟨Nat.le_of_ble_eq_true rfl, Nat.le_of_ble_eq_true rfl⟩ ⟨Nat.le_of_ble_eq_true rfl, Nat.le_of_ble_eq_true rfl⟩ hRep hVS hl2.1 dh_108_4 (fun ce q9 H1 locs1 hR1 hS1 _ hk1 g1 g2 g3 => ?_)
  have ho1 := ho.keep hqo hk1
  refine vx_catch (name := fx_IO) (E := fx_IO) S.2.2.2.1 [] ⟨0, 9, 12, 13⟩ [] (by rw [htab]; rfl) (fun z hz => by cases hz) (by decide) (by decide) (hx_wd hts hx_c13 rfl) (va_Nw.use rfl hc1) g1 g2 g3 ?_
  refine lv_astore_n (lv' := [(3, .ref q9), (0, .ref (E.1 4 655365 0)), (1, .int x1), (2, .ref qo)]) hx hb dh_108_12 rfl hl2 (by decide) rfl (fun ls hl2 => ?_)
  refine lv_iconst (v := 1) hx hb dh_108_13 (by decide) ?_
  exact W.iret (hlocks := hlocks) hx hb hr (fun t ht hW => ⟨1, v0, M, rfl, ⟨rfl, rfl, rfl⟩, by rw [ht]; exact hR1, by rw [ht]; exact ho1, (hx_up hS1).F ht⟩) (hx_up hS1).2.2 dh_108_14
theorem hn_110 {l : Launch} {E : ux_E} {M : ux_M} {x1 : Int32} {qo : Nat} {v0 : Int64} {d : Nat} (hd37 : d ≤ 40) (hqo : ¬ ux_A E qo) {QQ : Int32 → ux_M → Prop} (hcall : ux_Call l E d y_110 [aR 4 655365 0, aI x1] M (ux_CI QQ)) : hx_Met l E yh_110 hh_110 [aR 4 655365 0, aI x1] qo v0 M (fun r v M1 => r = 0 ∧ ∃ a, QQ a M1 ∧ v = a.toInt64) := by
  refine hx_ofW (by decide +kernel) ?_
  intro p e s m args below meth c s₁ B hml hv
  obtain ⟨rfl, ⟨hRep, hK⟩, ho⟩ := hv
  have hx := B.exec
  have hb : c.code = yh_110.2.1 := B.bytes
  have hr := B.returns
  have hlocks := B.notSynchronized
  have S := hx_fix B hml
  have hts := atoms_spec (ws := hx_ws yh_110 hh_110) B.pre
  have htab : c.exceptionTable.toList = tableOf hh_110 := vx_table (x := yh_110.1) B (hts _ List.mem_cons_self)
  have hl2 := lv_entry ([.ref (E.1 4 655365 0), .int x1, .ref qo]) (n := 4) (Nat.le_of_ble_eq_true rfl)
  show W p l e (fx_room 60) s m _ below meth c s.heap [] 0 0 _ (entryFrame m ([.ref (E.1 4 655365 0), .int x1, .ref qo] : List Value).toArray 4)
  rw [lg_entry_eq]
  generalize (lg_sl ([.ref (E.1 4 655365 0), .int x1, .ref qo]) ++ List.replicate (4 - (lg_sl ([.ref (E.1 4 655365 0), .int x1, .ref qo])).length) Slot.unset).toArray = ls at hl2 ⊢
  have hl2 : lv_has ls 4 [(0, .ref (E.1 4 655365 0)), (1, .int x1), (2, .ref qo)] := hl2
  have hVS : va_S (ux_A E) s.heap s.heap [] := va_S.rf
  refine lv_aload_n hx hb dh_110_0 rfl (lv_at hl2 2 rfl) ?_
  refine lv_iconst (v := 0) hx hb dh_110_1 (by decide) ?_
  refine lv_aload_n hx hb dh_110_2 rfl (lv_at hl2 0 rfl) ?_
  refine lv_iload_n hx hb dh_110_3 rfl (lv_at hl2 1 rfl) ?_
  refine fx_callv (d := d) (y2 := y_110) (q := (4, 655365, 0)) (ci := 0) (As := [.inl x1]) (rest := [.int 0, .ref qo]) (k := 1) S hx_sub hts hK (by decide +kernel) wl_110 wm_110 we_110 (by decide +kernel) (by decide) rfl (by decide) rfl rfl (fun v hv => by rw [List.mem_singleton.mp hv]; trivial) (Nat.le_of_ble_eq_true rfl) hcall ⟨by show d + 5 ≤ 60; omega, by show 60 * d + 360 ≤ 60 * 60 + 300; omega⟩ ⟨Nat.zero_le _, Nat.zero_le _⟩ hRep hVS hl2.1 dh_110_4 (fun r0 M1 H1 locs1 hq hR1 hS1 _ hk1 => ?_)
  obtain ⟨a, rfl, hq⟩ := hq
  have ho1 := ho.keep hqo hk1
  refine lv_i2l hx hb dh_110_7 rfl ?_
  refine hx_last hx hb hK hqo ho1 hR1 (hx_up hS1) dh_110_8 (fun H2 locs2 hR2 ho2 hS2 => ?_)
  refine lv_goto (tgt := 15) hx hb dh_110_9 (by decide) ?_
  refine lv_iconst (v := 0) hx hb dh_110_15 (by decide) ?_
  refine W.widen (k := 1) (n := 6) (Nat.zero_le _) (Nat.zero_le _) ?_
  exact W.iret (hlocks := hlocks) hx hb hr (fun t ht hW => ⟨0, _, M1, rfl, ⟨rfl, a, hq, rfl⟩, by rw [ht]; exact hR2, by rw [ht]; exact ho2, hS2.F ht⟩) hS2.2.2 dh_110_16
theorem ht_110_0 {l : Launch} {E : ux_E} {M : ux_M} {x1 : Int32} {qo : Nat} {v0 : Int64} (hE : ux_THok E) (hqo : ¬ ux_A E qo) (hM : fx_Met l E y_110 10 [aR 4 655365 0, aI x1] M fx_IO) : hx_Met l E yh_110 hh_110 [aR 4 655365 0, aI x1] qo v0 M (fun r v M1 => r = 1 ∧ v = v0 ∧ M1 = M) := by
  refine hx_ofW (by decide +kernel) ?_
  intro p e s m args below meth c s₁ B hml hv
  obtain ⟨rfl, ⟨hRep, hK⟩, ho⟩ := hv
  have hx := B.exec
  have hb : c.code = yh_110.2.1 := B.bytes
  have hr := B.returns
  have hlocks := B.notSynchronized
  have S := hx_fix B hml
  have hts := atoms_spec (ws := hx_ws yh_110 hh_110) B.pre
  have htab : c.exceptionTable.toList = tableOf hh_110 := vx_table (x := yh_110.1) B (hts _ List.mem_cons_self)
  have hl2 := lv_entry ([.ref (E.1 4 655365 0), .int x1, .ref qo]) (n := 4) (Nat.le_of_ble_eq_true rfl)
  show W p l e (fx_room 60) s m _ below meth c s.heap [] 0 0 _ (entryFrame m ([.ref (E.1 4 655365 0), .int x1, .ref qo] : List Value).toArray 4)
  rw [lg_entry_eq]
  generalize (lg_sl ([.ref (E.1 4 655365 0), .int x1, .ref qo]) ++ List.replicate (4 - (lg_sl ([.ref (E.1 4 655365 0), .int x1, .ref qo])).length) Slot.unset).toArray = ls at hl2 ⊢
  have hl2 : lv_has ls 4 [(0, .ref (E.1 4 655365 0)), (1, .int x1), (2, .ref qo)] := hl2
  have hVS : va_S (ux_A E) s.heap s.heap [] := va_S.rf
  refine lv_aload_n hx hb dh_110_0 rfl (lv_at hl2 2 rfl) ?_
  refine lv_iconst (v := 0) hx hb dh_110_1 (by decide) ?_
  refine lv_aload_n hx hb dh_110_2 rfl (lv_at hl2 0 rfl) ?_
  refine lv_iload_n hx hb dh_110_3 rfl (lv_at hl2 1 rfl) ?_
  obtain ⟨-, -, ⟨hc1, hc2⟩, hnc, -⟩ := hE s s.heap hK.2.2.2.2
  refine fx_thrv (d := 10) (y2 := y_110) (q := (4, 655365, 0)) (ci := 0) (As := [.inl x1]) (rest := [.int 0, .ref qo]) (k := 1) S hx_sub hts hK (by decide +kernel) wl_110 wm_110 we_110 mo_110 (by decide +kernel) (by decide) rfl (by decide) rfl rfl (Nat.le_of_ble_eq_true rfl) hM ⟨Nat.le_of_ble_eq_true rfl, Nat.le_of_ble_eq_true rfl⟩ ⟨Nat.le_of_ble_eq_true rfl, Nat.le_of_ble_eq_true rfl⟩ hRep hVS hl2.1 dh_110_4 (fun ce q9 H1 locs1 hR1 hS1 _ hk1 g1 g2 g3 => ?_)
  have ho1 := ho.keep hqo hk1
  refine vx_catch (name := fx_IO) (E := fx_IO) S.2.2.2.1 [] ⟨0, 9, 12, 13⟩ [] (by rw [htab]; rfl) (fun z hz => by cases hz) (by decide) (by decide) (hx_wd hts hx_c13 rfl) (va_Nw.use rfl hc1) g1 g2 g3 ?_
  refine lv_astore_n (lv' := [(3, .ref q9), (0, .ref (E.1 4 655365 0)), (1, .int x1), (2, .ref qo)]) hx hb dh_110_12 rfl hl2 (by decide) rfl (fun ls hl2 => ?_)
  refine lv_iconst (v := 1) hx hb dh_110_13 (by decide) ?_
  exact W.iret (hlocks := hlocks) hx hb hr (fun t ht hW => ⟨1, v0, M, rfl, ⟨rfl, rfl, rfl⟩, by rw [ht]; exact hR1, by rw [ht]; exact ho1, (hx_up hS1).F ht⟩) (hx_up hS1).2.2 dh_110_14
theorem hn_111 {l : Launch} {E : ux_E} {M : ux_M} {x1 : Int32} {qo : Nat} {v0 : Int64} {d : Nat} (hd37 : d ≤ 40) (hqo : ¬ ux_A E qo) {QQ : Int32 → ux_M → Prop} (hcall : ux_Call l E d y_111 [aR 4 655365 0, aI x1] M (ux_CI QQ)) : hx_Met l E yh_111 hh_111 [aR 4 655365 0, aI x1] qo v0 M (fun r v M1 => r = 0 ∧ ∃ a, QQ a M1 ∧ v = if a = 0 then 0 else 1) := by
  refine hx_ofW (by decide +kernel) ?_
  intro p e s m args below meth c s₁ B hml hv
  obtain ⟨rfl, ⟨hRep, hK⟩, ho⟩ := hv
  have hx := B.exec
  have hb : c.code = yh_111.2.1 := B.bytes
  have hr := B.returns
  have hlocks := B.notSynchronized
  have S := hx_fix B hml
  have hts := atoms_spec (ws := hx_ws yh_111 hh_111) B.pre
  have htab : c.exceptionTable.toList = tableOf hh_111 := vx_table (x := yh_111.1) B (hts _ List.mem_cons_self)
  have hl2 := lv_entry ([.ref (E.1 4 655365 0), .int x1, .ref qo]) (n := 4) (Nat.le_of_ble_eq_true rfl)
  show W p l e (fx_room 60) s m _ below meth c s.heap [] 0 0 _ (entryFrame m ([.ref (E.1 4 655365 0), .int x1, .ref qo] : List Value).toArray 4)
  rw [lg_entry_eq]
  generalize (lg_sl ([.ref (E.1 4 655365 0), .int x1, .ref qo]) ++ List.replicate (4 - (lg_sl ([.ref (E.1 4 655365 0), .int x1, .ref qo])).length) Slot.unset).toArray = ls at hl2 ⊢
  have hl2 : lv_has ls 4 [(0, .ref (E.1 4 655365 0)), (1, .int x1), (2, .ref qo)] := hl2
  have hVS : va_S (ux_A E) s.heap s.heap [] := va_S.rf
  refine lv_aload_n hx hb dh_111_0 rfl (lv_at hl2 2 rfl) ?_
  refine lv_iconst (v := 0) hx hb dh_111_1 (by decide) ?_
  refine lv_aload_n hx hb dh_111_2 rfl (lv_at hl2 0 rfl) ?_
  refine lv_iload_n hx hb dh_111_3 rfl (lv_at hl2 1 rfl) ?_
  refine fx_callv (d := d) (y2 := y_111) (q := (4, 655365, 0)) (ci := 0) (As := [.inl x1]) (rest := [.int 0, .ref qo]) (k := 1) S hx_sub hts hK (by decide +kernel) wl_111 wm_111 we_111 (by decide +kernel) (by decide) rfl (by decide) rfl rfl (fun v hv => by rw [List.mem_singleton.mp hv]; trivial) (Nat.le_of_ble_eq_true rfl) hcall ⟨by show d + 5 ≤ 60; omega, by show 60 * d + 360 ≤ 60 * 60 + 300; omega⟩ ⟨Nat.zero_le _, Nat.zero_le _⟩ hRep hVS hl2.1 dh_111_4 (fun r0 M1 H1 locs1 hq hR1 hS1 _ hk1 => ?_)
  obtain ⟨a, rfl, hq⟩ := hq
  have ho1 := ho.keep hqo hk1
  refine lv_if_eq (tgt := 14) hx hb dh_111_7 (by decide) (fun h0 => ?_) (fun h0 => ?_)
  · refine lv_lconst (v := 0) hx hb dh_111_14 (by decide) ?_
    refine hx_last hx hb hK hqo ho1 hR1 (hx_up hS1) dh_111_15 (fun H2 locs2 hR2 ho2 hS2 => ?_)
    refine lv_goto (tgt := 22) hx hb dh_111_16 (by decide) ?_
    refine lv_iconst (v := 0) hx hb dh_111_22 (by decide) ?_
    refine W.widen (k := 1) (n := 6) (Nat.zero_le _) (Nat.zero_le _) ?_
    exact W.iret (hlocks := hlocks) hx hb hr (fun t ht hW => ⟨0, _, M1, rfl, ⟨rfl, a, hq, by rw [if_pos h0]⟩, by rw [ht]; exact hR2, by rw [ht]; exact ho2, hS2.F ht⟩) hS2.2.2 dh_111_23
  · refine lv_lconst (v := 1) hx hb dh_111_10 (by decide) ?_
    refine lv_goto (tgt := 15) hx hb dh_111_11 (by decide) ?_
    refine hx_last hx hb hK hqo ho1 hR1 (hx_up hS1) dh_111_15 (fun H2 locs2 hR2 ho2 hS2 => ?_)
    refine lv_goto (tgt := 22) hx hb dh_111_16 (by decide) ?_
    refine lv_iconst (v := 0) hx hb dh_111_22 (by decide) ?_
    refine W.widen (k := 1) (n := 6) (Nat.zero_le _) (Nat.zero_le _) ?_
    exact W.iret (hlocks := hlocks) hx hb hr (fun t ht hW => ⟨0, _, M1, rfl, ⟨rfl, a, hq, by rw [if_neg h0]⟩, by rw [ht]; exact hR2, by rw [ht]; exact ho2, hS2.F ht⟩) hS2.2.2 dh_111_23
theorem ht_111_0 {l : Launch} {E : ux_E} {M : ux_M} {x1 : Int32} {qo : Nat} {v0 : Int64} (hE : ux_THok E) (hqo : ¬ ux_A E qo) (hM : fx_Met l E y_111 10 [aR 4 655365 0, aI x1] M fx_IO) : hx_Met l E yh_111 hh_111 [aR 4 655365 0, aI x1] qo v0 M (fun r v M1 => r = 1 ∧ v = v0 ∧ M1 = M) := by
  refine hx_ofW (by decide +kernel) ?_
  intro p e s m args below meth c s₁ B hml hv
  obtain ⟨rfl, ⟨hRep, hK⟩, ho⟩ := hv
  have hx := B.exec
  have hb : c.code = yh_111.2.1 := B.bytes
  have hr := B.returns
  have hlocks := B.notSynchronized
  have S := hx_fix B hml
  have hts := atoms_spec (ws := hx_ws yh_111 hh_111) B.pre
  have htab : c.exceptionTable.toList = tableOf hh_111 := vx_table (x := yh_111.1) B (hts _ List.mem_cons_self)
  have hl2 := lv_entry ([.ref (E.1 4 655365 0), .int x1, .ref qo]) (n := 4) (Nat.le_of_ble_eq_true rfl)
  show W p l e (fx_room 60) s m _ below meth c s.heap [] 0 0 _ (entryFrame m ([.ref (E.1 4 655365 0), .int x1, .ref qo] : List Value).toArray 4)
  rw [lg_entry_eq]
  generalize (lg_sl ([.ref (E.1 4 655365 0), .int x1, .ref qo]) ++ List.replicate (4 - (lg_sl ([.ref (E.1 4 655365 0), .int x1, .ref qo])).length) Slot.unset).toArray = ls at hl2 ⊢
  have hl2 : lv_has ls 4 [(0, .ref (E.1 4 655365 0)), (1, .int x1), (2, .ref qo)] := hl2
  have hVS : va_S (ux_A E) s.heap s.heap [] := va_S.rf
  refine lv_aload_n hx hb dh_111_0 rfl (lv_at hl2 2 rfl) ?_
  refine lv_iconst (v := 0) hx hb dh_111_1 (by decide) ?_
  refine lv_aload_n hx hb dh_111_2 rfl (lv_at hl2 0 rfl) ?_
  refine lv_iload_n hx hb dh_111_3 rfl (lv_at hl2 1 rfl) ?_
  obtain ⟨-, -, ⟨hc1, hc2⟩, hnc, -⟩ := hE s s.heap hK.2.2.2.2
  refine fx_thrv (d := 10) (y2 := y_111) (q := (4, 655365, 0)) (ci := 0) (As := [.inl x1]) (rest := [.int 0, .ref qo]) (k := 1) S hx_sub hts hK (by decide +kernel) wl_111 wm_111 we_111 mo_111 (by decide +kernel) (by decide) rfl (by decide) rfl rfl (Nat.le_of_ble_eq_true rfl) hM ⟨Nat.le_of_ble_eq_true rfl, Nat.le_of_ble_eq_true rfl⟩ ⟨Nat.le_of_ble_eq_true rfl, Nat.le_of_ble_eq_true rfl⟩ hRep hVS hl2.1 dh_111_4 (fun ce q9 H1 locs1 hR1 hS1 _ hk1 g1 g2 g3 => ?_)
  have ho1 := ho.keep hqo hk1
  refine vx_catch (name := fx_IO) (E := fx_IO) S.2.2.2.1 [] ⟨0, 16, 19, 13⟩ [] (by rw [htab]; rfl) (fun z hz => by cases hz) (by decide) (by decide) (hx_wd hts hx_c13 rfl) (va_Nw.use rfl hc1) g1 g2 g3 ?_
  refine lv_astore_n (lv' := [(3, .ref q9), (0, .ref (E.1 4 655365 0)), (1, .int x1), (2, .ref qo)]) hx hb dh_111_19 rfl hl2 (by decide) rfl (fun ls hl2 => ?_)
  refine lv_iconst (v := 1) hx hb dh_111_20 (by decide) ?_
  exact W.iret (hlocks := hlocks) hx hb hr (fun t ht hW => ⟨1, v0, M, rfl, ⟨rfl, rfl, rfl⟩, by rw [ht]; exact hR1, by rw [ht]; exact ho1, (hx_up hS1).F ht⟩) (hx_up hS1).2.2 dh_111_21
theorem hn_112 {l : Launch} {E : ux_E} {M : ux_M} {x1 : Int32} {qo : Nat} {v0 : Int64} {d : Nat} (hd37 : d ≤ 40) (hqo : ¬ ux_A E qo) {QQ : Int32 → ux_M → Prop} (hcall : ux_Call l E d y_112 [aR 4 655365 0, aI x1] M (ux_CI QQ)) : hx_Met l E yh_112 hh_112 [aR 4 655365 0, aI x1] qo v0 M (fun r v M1 => r = 0 ∧ ∃ a, QQ a M1 ∧ v = a.toInt64) := by
  refine hx_ofW (by decide +kernel) ?_
  intro p e s m args below meth c s₁ B hml hv
  obtain ⟨rfl, ⟨hRep, hK⟩, ho⟩ := hv
  have hx := B.exec
  have hb : c.code = yh_112.2.1 := B.bytes
  have hr := B.returns
  have hlocks := B.notSynchronized
  have S := hx_fix B hml
  have hts := atoms_spec (ws := hx_ws yh_112 hh_112) B.pre
  have htab : c.exceptionTable.toList = tableOf hh_112 := vx_table (x := yh_112.1) B (hts _ List.mem_cons_self)
  have hl2 := lv_entry ([.ref (E.1 4 655365 0), .int x1, .ref qo]) (n := 4) (Nat.le_of_ble_eq_true rfl)
  show W p l e (fx_room 60) s m _ below meth c s.heap [] 0 0 _ (entryFrame m ([.ref (E.1 4 655365 0), .int x1, .ref qo] : List Value).toArray 4)
  rw [lg_entry_eq]
  generalize (lg_sl ([.ref (E.1 4 655365 0), .int x1, .ref qo]) ++ List.replicate (4 - (lg_sl ([.ref (E.1 4 655365 0), .int x1, .ref qo])).length) Slot.unset).toArray = ls at hl2 ⊢
  have hl2 : lv_has ls 4 [(0, .ref (E.1 4 655365 0)), (1, .int x1), (2, .ref qo)] := hl2
  have hVS : va_S (ux_A E) s.heap s.heap [] := va_S.rf
  refine lv_aload_n hx hb dh_112_0 rfl (lv_at hl2 2 rfl) ?_
  refine lv_iconst (v := 0) hx hb dh_112_1 (by decide) ?_
  refine lv_aload_n hx hb dh_112_2 rfl (lv_at hl2 0 rfl) ?_
  refine lv_iload_n hx hb dh_112_3 rfl (lv_at hl2 1 rfl) ?_
  refine fx_callv (d := d) (y2 := y_112) (q := (4, 655365, 0)) (ci := 0) (As := [.inl x1]) (rest := [.int 0, .ref qo]) (k := 1) S hx_sub hts hK (by decide +kernel) wl_112 wm_112 we_112 (by decide +kernel) (by decide) rfl (by decide) rfl rfl (fun v hv => by rw [List.mem_singleton.mp hv]; trivial) (Nat.le_of_ble_eq_true rfl) hcall ⟨by show d + 5 ≤ 60; omega, by show 60 * d + 360 ≤ 60 * 60 + 300; omega⟩ ⟨Nat.zero_le _, Nat.zero_le _⟩ hRep hVS hl2.1 dh_112_4 (fun r0 M1 H1 locs1 hq hR1 hS1 _ hk1 => ?_)
  obtain ⟨a, rfl, hq⟩ := hq
  have ho1 := ho.keep hqo hk1
  refine lv_i2l hx hb dh_112_7 rfl ?_
  refine hx_last hx hb hK hqo ho1 hR1 (hx_up hS1) dh_112_8 (fun H2 locs2 hR2 ho2 hS2 => ?_)
  refine lv_goto (tgt := 15) hx hb dh_112_9 (by decide) ?_
  refine lv_iconst (v := 0) hx hb dh_112_15 (by decide) ?_
  refine W.widen (k := 1) (n := 6) (Nat.zero_le _) (Nat.zero_le _) ?_
  exact W.iret (hlocks := hlocks) hx hb hr (fun t ht hW => ⟨0, _, M1, rfl, ⟨rfl, a, hq, rfl⟩, by rw [ht]; exact hR2, by rw [ht]; exact ho2, hS2.F ht⟩) hS2.2.2 dh_112_16
theorem ht_112_0 {l : Launch} {E : ux_E} {M : ux_M} {x1 : Int32} {qo : Nat} {v0 : Int64} (hE : ux_THok E) (hqo : ¬ ux_A E qo) (hM : fx_Met l E y_112 10 [aR 4 655365 0, aI x1] M fx_IO) : hx_Met l E yh_112 hh_112 [aR 4 655365 0, aI x1] qo v0 M (fun r v M1 => r = 1 ∧ v = v0 ∧ M1 = M) := by
  refine hx_ofW (by decide +kernel) ?_
  intro p e s m args below meth c s₁ B hml hv
  obtain ⟨rfl, ⟨hRep, hK⟩, ho⟩ := hv
  have hx := B.exec
  have hb : c.code = yh_112.2.1 := B.bytes
  have hr := B.returns
  have hlocks := B.notSynchronized
  have S := hx_fix B hml
  have hts := atoms_spec (ws := hx_ws yh_112 hh_112) B.pre
  have htab : c.exceptionTable.toList = tableOf hh_112 := vx_table (x := yh_112.1) B (hts _ List.mem_cons_self)
  have hl2 := lv_entry ([.ref (E.1 4 655365 0), .int x1, .ref qo]) (n := 4) (Nat.le_of_ble_eq_true rfl)
  show W p l e (fx_room 60) s m _ below meth c s.heap [] 0 0 _ (entryFrame m ([.ref (E.1 4 655365 0), .int x1, .ref qo] : List Value).toArray 4)
  rw [lg_entry_eq]
  generalize (lg_sl ([.ref (E.1 4 655365 0), .int x1, .ref qo]) ++ List.replicate (4 - (lg_sl ([.ref (E.1 4 655365 0), .int x1, .ref qo])).length) Slot.unset).toArray = ls at hl2 ⊢
  have hl2 : lv_has ls 4 [(0, .ref (E.1 4 655365 0)), (1, .int x1), (2, .ref qo)] := hl2
  have hVS : va_S (ux_A E) s.heap s.heap [] := va_S.rf
  refine lv_aload_n hx hb dh_112_0 rfl (lv_at hl2 2 rfl) ?_
  refine lv_iconst (v := 0) hx hb dh_112_1 (by decide) ?_
  refine lv_aload_n hx hb dh_112_2 rfl (lv_at hl2 0 rfl) ?_
  refine lv_iload_n hx hb dh_112_3 rfl (lv_at hl2 1 rfl) ?_
  obtain ⟨-, -, ⟨hc1, hc2⟩, hnc, -⟩ := hE s s.heap hK.2.2.2.2
  refine fx_thrv (d := 10) (y2 := y_112) (q := (4, 655365, 0)) (ci := 0) (As := [.inl x1]) (rest := [.int 0, .ref qo]) (k := 1) S hx_sub hts hK (by decide +kernel) wl_112 wm_112 we_112 mo_112 (by decide +kernel) (by decide) rfl (by decide) rfl rfl (Nat.le_of_ble_eq_true rfl) hM ⟨Nat.le_of_ble_eq_true rfl, Nat.le_of_ble_eq_true rfl⟩ ⟨Nat.le_of_ble_eq_true rfl, Nat.le_of_ble_eq_true rfl⟩ hRep hVS hl2.1 dh_112_4 (fun ce q9 H1 locs1 hR1 hS1 _ hk1 g1 g2 g3 => ?_)
  have ho1 := ho.keep hqo hk1
  refine vx_catch (name := fx_IO) (E := fx_IO) S.2.2.2.1 [] ⟨0, 9, 12, 13⟩ [] (by rw [htab]; rfl) (fun z hz => by cases hz) (by decide) (by decide) (hx_wd hts hx_c13 rfl) (va_Nw.use rfl hc1) g1 g2 g3 ?_
  refine lv_astore_n (lv' := [(3, .ref q9), (0, .ref (E.1 4 655365 0)), (1, .int x1), (2, .ref qo)]) hx hb dh_112_12 rfl hl2 (by decide) rfl (fun ls hl2 => ?_)
  refine lv_iconst (v := 1) hx hb dh_112_13 (by decide) ?_
  exact W.iret (hlocks := hlocks) hx hb hr (fun t ht hW => ⟨1, v0, M, rfl, ⟨rfl, rfl, rfl⟩, by rw [ht]; exact hR1, by rw [ht]; exact ho1, (hx_up hS1).F ht⟩) (hx_up hS1).2.2 dh_112_14
theorem hn_113 {l : Launch} {E : ux_E} {M : ux_M} {x1 : Int32} {qo : Nat} {v0 : Int64} {d : Nat} (hd37 : d ≤ 40) (hqo : ¬ ux_A E qo) {QQ : Int32 → ux_M → Prop} (hcall : ux_Call l E d y_113 [aR 4 655365 0, aI x1] M (ux_CI QQ)) : hx_Met l E yh_113 hh_113 [aR 4 655365 0, aI x1] qo v0 M (fun r v M1 => r = 0 ∧ ∃ a, QQ a M1 ∧ v = a.toInt64) := by
  refine hx_ofW (by decide +kernel) ?_
  intro p e s m args below meth c s₁ B hml hv
  obtain ⟨rfl, ⟨hRep, hK⟩, ho⟩ := hv
  have hx := B.exec
  have hb : c.code = yh_113.2.1 := B.bytes
  have hr := B.returns
  have hlocks := B.notSynchronized
  have S := hx_fix B hml
  have hts := atoms_spec (ws := hx_ws yh_113 hh_113) B.pre
  have htab : c.exceptionTable.toList = tableOf hh_113 := vx_table (x := yh_113.1) B (hts _ List.mem_cons_self)
  have hl2 := lv_entry ([.ref (E.1 4 655365 0), .int x1, .ref qo]) (n := 4) (Nat.le_of_ble_eq_true rfl)
  show W p l e (fx_room 60) s m _ below meth c s.heap [] 0 0 _ (entryFrame m ([.ref (E.1 4 655365 0), .int x1, .ref qo] : List Value).toArray 4)
  rw [lg_entry_eq]
  generalize (lg_sl ([.ref (E.1 4 655365 0), .int x1, .ref qo]) ++ List.replicate (4 - (lg_sl ([.ref (E.1 4 655365 0), .int x1, .ref qo])).length) Slot.unset).toArray = ls at hl2 ⊢
  have hl2 : lv_has ls 4 [(0, .ref (E.1 4 655365 0)), (1, .int x1), (2, .ref qo)] := hl2
  have hVS : va_S (ux_A E) s.heap s.heap [] := va_S.rf
  refine lv_aload_n hx hb dh_113_0 rfl (lv_at hl2 2 rfl) ?_
  refine lv_iconst (v := 0) hx hb dh_113_1 (by decide) ?_
  refine lv_aload_n hx hb dh_113_2 rfl (lv_at hl2 0 rfl) ?_
  refine lv_iload_n hx hb dh_113_3 rfl (lv_at hl2 1 rfl) ?_
  refine fx_callv (d := d) (y2 := y_113) (q := (4, 655365, 0)) (ci := 0) (As := [.inl x1]) (rest := [.int 0, .ref qo]) (k := 1) S hx_sub hts hK (by decide +kernel) wl_113 wm_113 we_113 (by decide +kernel) (by decide) rfl (by decide) rfl rfl (fun v hv => by rw [List.mem_singleton.mp hv]; trivial) (Nat.le_of_ble_eq_true rfl) hcall ⟨by show d + 5 ≤ 60; omega, by show 60 * d + 360 ≤ 60 * 60 + 300; omega⟩ ⟨Nat.zero_le _, Nat.zero_le _⟩ hRep hVS hl2.1 dh_113_4 (fun r0 M1 H1 locs1 hq hR1 hS1 _ hk1 => ?_)
  obtain ⟨a, rfl, hq⟩ := hq
  have ho1 := ho.keep hqo hk1
  refine lv_i2l hx hb dh_113_7 rfl ?_
  refine hx_last hx hb hK hqo ho1 hR1 (hx_up hS1) dh_113_8 (fun H2 locs2 hR2 ho2 hS2 => ?_)
  refine lv_goto (tgt := 15) hx hb dh_113_9 (by decide) ?_
  refine lv_iconst (v := 0) hx hb dh_113_15 (by decide) ?_
  refine W.widen (k := 1) (n := 6) (Nat.zero_le _) (Nat.zero_le _) ?_
  exact W.iret (hlocks := hlocks) hx hb hr (fun t ht hW => ⟨0, _, M1, rfl, ⟨rfl, a, hq, rfl⟩, by rw [ht]; exact hR2, by rw [ht]; exact ho2, hS2.F ht⟩) hS2.2.2 dh_113_16
theorem ht_113_0 {l : Launch} {E : ux_E} {M : ux_M} {x1 : Int32} {qo : Nat} {v0 : Int64} (hE : ux_THok E) (hqo : ¬ ux_A E qo) (hM : fx_Met l E y_113 10 [aR 4 655365 0, aI x1] M fx_IO) : hx_Met l E yh_113 hh_113 [aR 4 655365 0, aI x1] qo v0 M (fun r v M1 => r = 1 ∧ v = v0 ∧ M1 = M) := by
  refine hx_ofW (by decide +kernel) ?_
  intro p e s m args below meth c s₁ B hml hv
  obtain ⟨rfl, ⟨hRep, hK⟩, ho⟩ := hv
  have hx := B.exec
  have hb : c.code = yh_113.2.1 := B.bytes
  have hr := B.returns
  have hlocks := B.notSynchronized
  have S := hx_fix B hml
  have hts := atoms_spec (ws := hx_ws yh_113 hh_113) B.pre
  have htab : c.exceptionTable.toList = tableOf hh_113 := vx_table (x := yh_113.1) B (hts _ List.mem_cons_self)
  have hl2 := lv_entry ([.ref (E.1 4 655365 0), .int x1, .ref qo]) (n := 4) (Nat.le_of_ble_eq_true rfl)
  show W p l e (fx_room 60) s m _ below meth c s.heap [] 0 0 _ (entryFrame m ([.ref (E.1 4 655365 0), .int x1, .ref qo] : List Value).toArray 4)
  rw [lg_entry_eq]
  generalize (lg_sl ([.ref (E.1 4 655365 0), .int x1, .ref qo]) ++ List.replicate (4 - (lg_sl ([.ref (E.1 4 655365 0), .int x1, .ref qo])).length) Slot.unset).toArray = ls at hl2 ⊢
  have hl2 : lv_has ls 4 [(0, .ref (E.1 4 655365 0)), (1, .int x1), (2, .ref qo)] := hl2
  have hVS : va_S (ux_A E) s.heap s.heap [] := va_S.rf
  refine lv_aload_n hx hb dh_113_0 rfl (lv_at hl2 2 rfl) ?_
  refine lv_iconst (v := 0) hx hb dh_113_1 (by decide) ?_
  refine lv_aload_n hx hb dh_113_2 rfl (lv_at hl2 0 rfl) ?_
  refine lv_iload_n hx hb dh_113_3 rfl (lv_at hl2 1 rfl) ?_
  obtain ⟨-, -, ⟨hc1, hc2⟩, hnc, -⟩ := hE s s.heap hK.2.2.2.2
  refine fx_thrv (d := 10) (y2 := y_113) (q := (4, 655365, 0)) (ci := 0) (As := [.inl x1]) (rest := [.int 0, .ref qo]) (k := 1) S hx_sub hts hK (by decide +kernel) wl_113 wm_113 we_113 mo_113 (by decide +kernel) (by decide) rfl (by decide) rfl rfl (Nat.le_of_ble_eq_true rfl) hM ⟨Nat.le_of_ble_eq_true rfl, Nat.le_of_ble_eq_true rfl⟩ ⟨Nat.le_of_ble_eq_true rfl, Nat.le_of_ble_eq_true rfl⟩ hRep hVS hl2.1 dh_113_4 (fun ce q9 H1 locs1 hR1 hS1 _ hk1 g1 g2 g3 => ?_)
  have ho1 := ho.keep hqo hk1
  refine vx_catch (name := fx_IO) (E := fx_IO) S.2.2.2.1 [] ⟨0, 9, 12, 13⟩ [] (by rw [htab]; rfl) (fun z hz => by cases hz) (by decide) (by decide) (hx_wd hts hx_c13 rfl) (va_Nw.use rfl hc1) g1 g2 g3 ?_
  refine lv_astore_n (lv' := [(3, .ref q9), (0, .ref (E.1 4 655365 0)), (1, .int x1), (2, .ref qo)]) hx hb dh_113_12 rfl hl2 (by decide) rfl (fun ls hl2 => ?_)
  refine lv_iconst (v := 1) hx hb dh_113_13 (by decide) ?_
  exact W.iret (hlocks := hlocks) hx hb hr (fun t ht hW => ⟨1, v0, M, rfl, ⟨rfl, rfl, rfl⟩, by rw [ht]; exact hR1, by rw [ht]; exact ho1, (hx_up hS1).F ht⟩) (hx_up hS1).2.2 dh_113_14
theorem hn_114 {l : Launch} {E : ux_E} {M : ux_M} {x1 : Int32} {qo : Nat} {v0 : Int64} {d : Nat} (hd37 : d ≤ 40) (hqo : ¬ ux_A E qo) {QQ : Int32 → ux_M → Prop} (hcall : ux_Call l E d y_114 [aR 4 655365 0, aI x1] M (ux_CI QQ)) : hx_Met l E yh_114 hh_114 [aR 4 655365 0, aI x1] qo v0 M (fun r v M1 => r = 0 ∧ ∃ a, QQ a M1 ∧ v = a.toInt64) := by
  refine hx_ofW (by decide +kernel) ?_
  intro p e s m args below meth c s₁ B hml hv
  obtain ⟨rfl, ⟨hRep, hK⟩, ho⟩ := hv
  have hx := B.exec
  have hb : c.code = yh_114.2.1 := B.bytes
  have hr := B.returns
  have hlocks := B.notSynchronized
  have S := hx_fix B hml
  have hts := atoms_spec (ws := hx_ws yh_114 hh_114) B.pre
  have htab : c.exceptionTable.toList = tableOf hh_114 := vx_table (x := yh_114.1) B (hts _ List.mem_cons_self)
  have hl2 := lv_entry ([.ref (E.1 4 655365 0), .int x1, .ref qo]) (n := 4) (Nat.le_of_ble_eq_true rfl)
  show W p l e (fx_room 60) s m _ below meth c s.heap [] 0 0 _ (entryFrame m ([.ref (E.1 4 655365 0), .int x1, .ref qo] : List Value).toArray 4)
  rw [lg_entry_eq]
  generalize (lg_sl ([.ref (E.1 4 655365 0), .int x1, .ref qo]) ++ List.replicate (4 - (lg_sl ([.ref (E.1 4 655365 0), .int x1, .ref qo])).length) Slot.unset).toArray = ls at hl2 ⊢
  have hl2 : lv_has ls 4 [(0, .ref (E.1 4 655365 0)), (1, .int x1), (2, .ref qo)] := hl2
  have hVS : va_S (ux_A E) s.heap s.heap [] := va_S.rf
  refine lv_aload_n hx hb dh_114_0 rfl (lv_at hl2 2 rfl) ?_
  refine lv_iconst (v := 0) hx hb dh_114_1 (by decide) ?_
  refine lv_aload_n hx hb dh_114_2 rfl (lv_at hl2 0 rfl) ?_
  refine lv_iload_n hx hb dh_114_3 rfl (lv_at hl2 1 rfl) ?_
  refine fx_callv (d := d) (y2 := y_114) (q := (4, 655365, 0)) (ci := 0) (As := [.inl x1]) (rest := [.int 0, .ref qo]) (k := 1) S hx_sub hts hK (by decide +kernel) wl_114 wm_114 we_114 (by decide +kernel) (by decide) rfl (by decide) rfl rfl (fun v hv => by rw [List.mem_singleton.mp hv]; trivial) (Nat.le_of_ble_eq_true rfl) hcall ⟨by show d + 5 ≤ 60; omega, by show 60 * d + 360 ≤ 60 * 60 + 300; omega⟩ ⟨Nat.zero_le _, Nat.zero_le _⟩ hRep hVS hl2.1 dh_114_4 (fun r0 M1 H1 locs1 hq hR1 hS1 _ hk1 => ?_)
  obtain ⟨a, rfl, hq⟩ := hq
  have ho1 := ho.keep hqo hk1
  refine lv_i2l hx hb dh_114_7 rfl ?_
  refine hx_last hx hb hK hqo ho1 hR1 (hx_up hS1) dh_114_8 (fun H2 locs2 hR2 ho2 hS2 => ?_)
  refine lv_goto (tgt := 15) hx hb dh_114_9 (by decide) ?_
  refine lv_iconst (v := 0) hx hb dh_114_15 (by decide) ?_
  refine W.widen (k := 1) (n := 6) (Nat.zero_le _) (Nat.zero_le _) ?_
  exact W.iret (hlocks := hlocks) hx hb hr (fun t ht hW => ⟨0, _, M1, rfl, ⟨rfl, a, hq, rfl⟩, by rw [ht]; exact hR2, by rw [ht]; exact ho2, hS2.F ht⟩) hS2.2.2 dh_114_16
theorem ht_114_0 {l : Launch} {E : ux_E} {M : ux_M} {x1 : Int32} {qo : Nat} {v0 : Int64} (hE : ux_THok E) (hqo : ¬ ux_A E qo) (hM : fx_Met l E y_114 10 [aR 4 655365 0, aI x1] M fx_IA) : hx_Met l E yh_114 hh_114 [aR 4 655365 0, aI x1] qo v0 M (fun r v M1 => r = 1 ∧ v = v0 ∧ M1 = M) := by
  refine hx_ofW (by decide +kernel) ?_
  intro p e s m args below meth c s₁ B hml hv
  obtain ⟨rfl, ⟨hRep, hK⟩, ho⟩ := hv
  have hx := B.exec
  have hb : c.code = yh_114.2.1 := B.bytes
  have hr := B.returns
  have hlocks := B.notSynchronized
  have S := hx_fix B hml
  have hts := atoms_spec (ws := hx_ws yh_114 hh_114) B.pre
  have htab : c.exceptionTable.toList = tableOf hh_114 := vx_table (x := yh_114.1) B (hts _ List.mem_cons_self)
  have hl2 := lv_entry ([.ref (E.1 4 655365 0), .int x1, .ref qo]) (n := 4) (Nat.le_of_ble_eq_true rfl)
  show W p l e (fx_room 60) s m _ below meth c s.heap [] 0 0 _ (entryFrame m ([.ref (E.1 4 655365 0), .int x1, .ref qo] : List Value).toArray 4)
  rw [lg_entry_eq]
  generalize (lg_sl ([.ref (E.1 4 655365 0), .int x1, .ref qo]) ++ List.replicate (4 - (lg_sl ([.ref (E.1 4 655365 0), .int x1, .ref qo])).length) Slot.unset).toArray = ls at hl2 ⊢
  have hl2 : lv_has ls 4 [(0, .ref (E.1 4 655365 0)), (1, .int x1), (2, .ref qo)] := hl2
  have hVS : va_S (ux_A E) s.heap s.heap [] := va_S.rf
  refine lv_aload_n hx hb dh_114_0 rfl (lv_at hl2 2 rfl) ?_
  refine lv_iconst (v := 0) hx hb dh_114_1 (by decide) ?_
  refine lv_aload_n hx hb dh_114_2 rfl (lv_at hl2 0 rfl) ?_
  refine lv_iload_n hx hb dh_114_3 rfl (lv_at hl2 1 rfl) ?_
  obtain ⟨-, -, ⟨hc1, hc2⟩, hnc, -⟩ := hE s s.heap hK.2.2.2.2
  refine fx_thrv (d := 10) (y2 := y_114) (q := (4, 655365, 0)) (ci := 0) (As := [.inl x1]) (rest := [.int 0, .ref qo]) (k := 1) S hx_sub hts hK (by decide +kernel) wl_114 wm_114 we_114 mo_114 (by decide +kernel) (by decide) rfl (by decide) rfl rfl (Nat.le_of_ble_eq_true rfl) hM ⟨Nat.le_of_ble_eq_true rfl, Nat.le_of_ble_eq_true rfl⟩ ⟨Nat.le_of_ble_eq_true rfl, Nat.le_of_ble_eq_true rfl⟩ hRep hVS hl2.1 dh_114_4 (fun ce q9 H1 locs1 hR1 hS1 _ hk1 g1 g2 g3 => ?_)
  have ho1 := ho.keep hqo hk1
  refine vx_catch (name := fx_IA) (E := fx_IA) S.2.2.2.1 [] ⟨0, 9, 12, 22⟩ [] (by rw [htab]; rfl) (fun z hz => by cases hz) (by decide) (by decide) (hx_wd hts hx_c22 rfl) (va_Nw.use rfl hc2) g1 g2 g3 ?_
  refine lv_astore_n (lv' := [(3, .ref q9), (0, .ref (E.1 4 655365 0)), (1, .int x1), (2, .ref qo)]) hx hb dh_114_12 rfl hl2 (by decide) rfl (fun ls hl2 => ?_)
  refine lv_iconst (v := 1) hx hb dh_114_13 (by decide) ?_
  exact W.iret (hlocks := hlocks) hx hb hr (fun t ht hW => ⟨1, v0, M, rfl, ⟨rfl, rfl, rfl⟩, by rw [ht]; exact hR1, by rw [ht]; exact ho1, (hx_up hS1).F ht⟩) (hx_up hS1).2.2 dh_114_14
theorem hn_115 {l : Launch} {E : ux_E} {M : ux_M} {x1 x2 : Int32} {qo : Nat} {v0 : Int64} {d : Nat} (hd37 : d ≤ 40) (hqo : ¬ ux_A E qo) {QQ : Int32 → ux_M → Prop} (hcall : ux_Call l E d y_115 [aR 4 655365 0, aI x1, aI x2] M (ux_CI QQ)) : hx_Met l E yh_115 hh_115 [aR 4 655365 0, aI x1, aI x2] qo v0 M (fun r v M1 => r = 0 ∧ ∃ a, QQ a M1 ∧ v = a.toInt64) := by
  refine hx_ofW (by decide +kernel) ?_
  intro p e s m args below meth c s₁ B hml hv
  obtain ⟨rfl, ⟨hRep, hK⟩, ho⟩ := hv
  have hx := B.exec
  have hb : c.code = yh_115.2.1 := B.bytes
  have hr := B.returns
  have hlocks := B.notSynchronized
  have S := hx_fix B hml
  have hts := atoms_spec (ws := hx_ws yh_115 hh_115) B.pre
  have htab : c.exceptionTable.toList = tableOf hh_115 := vx_table (x := yh_115.1) B (hts _ List.mem_cons_self)
  have hl2 := lv_entry ([.ref (E.1 4 655365 0), .int x1, .int x2, .ref qo]) (n := 5) (Nat.le_of_ble_eq_true rfl)
  show W p l e (fx_room 60) s m _ below meth c s.heap [] 0 0 _ (entryFrame m ([.ref (E.1 4 655365 0), .int x1, .int x2, .ref qo] : List Value).toArray 5)
  rw [lg_entry_eq]
  generalize (lg_sl ([.ref (E.1 4 655365 0), .int x1, .int x2, .ref qo]) ++ List.replicate (5 - (lg_sl ([.ref (E.1 4 655365 0), .int x1, .int x2, .ref qo])).length) Slot.unset).toArray = ls at hl2 ⊢
  have hl2 : lv_has ls 5 [(0, .ref (E.1 4 655365 0)), (1, .int x1), (2, .int x2), (3, .ref qo)] := hl2
  have hVS : va_S (ux_A E) s.heap s.heap [] := va_S.rf
  refine lv_aload_n hx hb dh_115_0 rfl (lv_at hl2 3 rfl) ?_
  refine lv_iconst (v := 0) hx hb dh_115_1 (by decide) ?_
  refine lv_aload_n hx hb dh_115_2 rfl (lv_at hl2 0 rfl) ?_
  refine lv_iload_n hx hb dh_115_3 rfl (lv_at hl2 1 rfl) ?_
  refine lv_iload_n hx hb dh_115_4 rfl (lv_at hl2 2 rfl) ?_
  refine fx_callv (d := d) (y2 := y_115) (q := (4, 655365, 0)) (ci := 0) (As := [.inl x1, .inl x2]) (rest := [.int 0, .ref qo]) (k := 2) S hx_sub hts hK (by decide +kernel) wl_115 wm_115 we_115 (by decide +kernel) (by decide) rfl (by decide) rfl rfl (fun v hv => by
      simp only [List.mem_cons, List.not_mem_nil, or_false] at hv
      rcases hv with rfl | rfl <;> trivial) (Nat.le_of_ble_eq_true rfl) hcall ⟨by show d + 5 ≤ 60; omega, by show 60 * d + 360 ≤ 60 * 60 + 300; omega⟩ ⟨Nat.zero_le _, Nat.zero_le _⟩ hRep hVS hl2.1 dh_115_5 (fun r0 M1 H1 locs1 hq hR1 hS1 _ hk1 => ?_)
  obtain ⟨a, rfl, hq⟩ := hq
  have ho1 := ho.keep hqo hk1
  refine lv_i2l hx hb dh_115_8 rfl ?_
  refine hx_last hx hb hK hqo ho1 hR1 (hx_up hS1) dh_115_9 (fun H2 locs2 hR2 ho2 hS2 => ?_)
  refine lv_goto (tgt := 21) hx hb dh_115_10 (by decide) ?_
  refine lv_iconst (v := 0) hx hb dh_115_21 (by decide) ?_
  refine W.widen (k := 1) (n := 6) (Nat.zero_le _) (Nat.zero_le _) ?_
  exact W.iret (hlocks := hlocks) hx hb hr (fun t ht hW => ⟨0, _, M1, rfl, ⟨rfl, a, hq, rfl⟩, by rw [ht]; exact hR2, by rw [ht]; exact ho2, hS2.F ht⟩) hS2.2.2 dh_115_22
theorem ht_115_0 {l : Launch} {E : ux_E} {M : ux_M} {x1 x2 : Int32} {qo : Nat} {v0 : Int64} (hE : ux_THok E) (hqo : ¬ ux_A E qo) (hM : fx_Met l E y_115 10 [aR 4 655365 0, aI x1, aI x2] M fx_IO) : hx_Met l E yh_115 hh_115 [aR 4 655365 0, aI x1, aI x2] qo v0 M (fun r v M1 => r = 1 ∧ v = v0 ∧ M1 = M) := by
  refine hx_ofW (by decide +kernel) ?_
  intro p e s m args below meth c s₁ B hml hv
  obtain ⟨rfl, ⟨hRep, hK⟩, ho⟩ := hv
  have hx := B.exec
  have hb : c.code = yh_115.2.1 := B.bytes
  have hr := B.returns
  have hlocks := B.notSynchronized
  have S := hx_fix B hml
  have hts := atoms_spec (ws := hx_ws yh_115 hh_115) B.pre
  have htab : c.exceptionTable.toList = tableOf hh_115 := vx_table (x := yh_115.1) B (hts _ List.mem_cons_self)
  have hl2 := lv_entry ([.ref (E.1 4 655365 0), .int x1, .int x2, .ref qo]) (n := 5) (Nat.le_of_ble_eq_true rfl)
  show W p l e (fx_room 60) s m _ below meth c s.heap [] 0 0 _ (entryFrame m ([.ref (E.1 4 655365 0), .int x1, .int x2, .ref qo] : List Value).toArray 5)
  rw [lg_entry_eq]
  generalize (lg_sl ([.ref (E.1 4 655365 0), .int x1, .int x2, .ref qo]) ++ List.replicate (5 - (lg_sl ([.ref (E.1 4 655365 0), .int x1, .int x2, .ref qo])).length) Slot.unset).toArray = ls at hl2 ⊢
  have hl2 : lv_has ls 5 [(0, .ref (E.1 4 655365 0)), (1, .int x1), (2, .int x2), (3, .ref qo)] := hl2
  have hVS : va_S (ux_A E) s.heap s.heap [] := va_S.rf
  refine lv_aload_n hx hb dh_115_0 rfl (lv_at hl2 3 rfl) ?_
  refine lv_iconst (v := 0) hx hb dh_115_1 (by decide) ?_
  refine lv_aload_n hx hb dh_115_2 rfl (lv_at hl2 0 rfl) ?_
  refine lv_iload_n hx hb dh_115_3 rfl (lv_at hl2 1 rfl) ?_
  refine lv_iload_n hx hb dh_115_4 rfl (lv_at hl2 2 rfl) ?_
  obtain ⟨-, -, ⟨hc1, hc2⟩, hnc, -⟩ := hE s s.heap hK.2.2.2.2
  refine fx_thrv (d := 10) (y2 := y_115) (q := (4, 655365, 0)) (ci := 0) (As := [.inl x1, .inl x2]) (rest := [.int 0, .ref qo]) (k := 2) S hx_sub hts hK (by decide +kernel) wl_115 wm_115 we_115 mo_115 (by decide +kernel) (by decide) rfl (by decide) rfl rfl (Nat.le_of_ble_eq_true rfl) hM ⟨Nat.le_of_ble_eq_true rfl, Nat.le_of_ble_eq_true rfl⟩ ⟨Nat.le_of_ble_eq_true rfl, Nat.le_of_ble_eq_true rfl⟩ hRep hVS hl2.1 dh_115_5 (fun ce q9 H1 locs1 hR1 hS1 _ hk1 g1 g2 g3 => ?_)
  have ho1 := ho.keep hqo hk1
  refine vx_catch (name := fx_IO) (E := fx_IO) S.2.2.2.1 [] ⟨0, 10, 13, 13⟩ [⟨0, 10, 17, 22⟩] (by rw [htab]; rfl) (fun z hz => by cases hz) (by decide) (by decide) (hx_wd hts hx_c13 rfl) (va_Nw.use rfl hc1) g1 g2 g3 ?_
  refine lv_astore (lv' := [(4, .ref q9), (0, .ref (E.1 4 655365 0)), (1, .int x1), (2, .int x2), (3, .ref qo)]) hx hb dh_115_13 hl2 (by decide) rfl (fun ls hl2 => ?_)
  refine lv_iconst (v := 1) hx hb dh_115_15 (by decide) ?_
  exact W.iret (hlocks := hlocks) hx hb hr (fun t ht hW => ⟨1, v0, M, rfl, ⟨rfl, rfl, rfl⟩, by rw [ht]; exact hR1, by rw [ht]; exact ho1, (hx_up hS1).F ht⟩) (hx_up hS1).2.2 dh_115_16
theorem ht_115_1 {l : Launch} {E : ux_E} {M : ux_M} {x1 x2 : Int32} {qo : Nat} {v0 : Int64} (hE : ux_THok E) (hqo : ¬ ux_A E qo) (hM : fx_Met l E y_115 10 [aR 4 655365 0, aI x1, aI x2] M fx_IA) : hx_Met l E yh_115 hh_115 [aR 4 655365 0, aI x1, aI x2] qo v0 M (fun r v M1 => r = 2 ∧ v = v0 ∧ M1 = M) := by
  refine hx_ofW (by decide +kernel) ?_
  intro p e s m args below meth c s₁ B hml hv
  obtain ⟨rfl, ⟨hRep, hK⟩, ho⟩ := hv
  have hx := B.exec
  have hb : c.code = yh_115.2.1 := B.bytes
  have hr := B.returns
  have hlocks := B.notSynchronized
  have S := hx_fix B hml
  have hts := atoms_spec (ws := hx_ws yh_115 hh_115) B.pre
  have htab : c.exceptionTable.toList = tableOf hh_115 := vx_table (x := yh_115.1) B (hts _ List.mem_cons_self)
  have hl2 := lv_entry ([.ref (E.1 4 655365 0), .int x1, .int x2, .ref qo]) (n := 5) (Nat.le_of_ble_eq_true rfl)
  show W p l e (fx_room 60) s m _ below meth c s.heap [] 0 0 _ (entryFrame m ([.ref (E.1 4 655365 0), .int x1, .int x2, .ref qo] : List Value).toArray 5)
  rw [lg_entry_eq]
  generalize (lg_sl ([.ref (E.1 4 655365 0), .int x1, .int x2, .ref qo]) ++ List.replicate (5 - (lg_sl ([.ref (E.1 4 655365 0), .int x1, .int x2, .ref qo])).length) Slot.unset).toArray = ls at hl2 ⊢
  have hl2 : lv_has ls 5 [(0, .ref (E.1 4 655365 0)), (1, .int x1), (2, .int x2), (3, .ref qo)] := hl2
  have hVS : va_S (ux_A E) s.heap s.heap [] := va_S.rf
  refine lv_aload_n hx hb dh_115_0 rfl (lv_at hl2 3 rfl) ?_
  refine lv_iconst (v := 0) hx hb dh_115_1 (by decide) ?_
  refine lv_aload_n hx hb dh_115_2 rfl (lv_at hl2 0 rfl) ?_
  refine lv_iload_n hx hb dh_115_3 rfl (lv_at hl2 1 rfl) ?_
  refine lv_iload_n hx hb dh_115_4 rfl (lv_at hl2 2 rfl) ?_
  obtain ⟨-, -, ⟨hc1, hc2⟩, hnc, -⟩ := hE s s.heap hK.2.2.2.2
  refine fx_thrv (d := 10) (y2 := y_115) (q := (4, 655365, 0)) (ci := 0) (As := [.inl x1, .inl x2]) (rest := [.int 0, .ref qo]) (k := 2) S hx_sub hts hK (by decide +kernel) wl_115 wm_115 we_115 mo_115 (by decide +kernel) (by decide) rfl (by decide) rfl rfl (Nat.le_of_ble_eq_true rfl) hM ⟨Nat.le_of_ble_eq_true rfl, Nat.le_of_ble_eq_true rfl⟩ ⟨Nat.le_of_ble_eq_true rfl, Nat.le_of_ble_eq_true rfl⟩ hRep hVS hl2.1 dh_115_5 (fun ce q9 H1 locs1 hR1 hS1 _ hk1 g1 g2 g3 => ?_)
  have ho1 := ho.keep hqo hk1
  refine vx_catch (name := fx_IA) (E := fx_IA) S.2.2.2.1 [⟨0, 10, 13, 13⟩] ⟨0, 10, 17, 22⟩ [] (by rw [htab]; rfl) (fun z hz => by rw [List.mem_singleton.mp hz]; exact .inr ⟨by decide, fx_IO, hx_wd hts hx_c13 rfl, hnc⟩) (by decide) (by decide) (hx_wd hts hx_c22 rfl) (va_Nw.use rfl hc2) g1 g2 g3 ?_
  refine lv_astore (lv' := [(4, .ref q9), (0, .ref (E.1 4 655365 0)), (1, .int x1), (2, .int x2), (3, .ref qo)]) hx hb dh_115_17 hl2 (by decide) rfl (fun ls hl2 => ?_)
  refine lv_iconst (v := 2) hx hb dh_115_19 (by decide) ?_
  exact W.iret (hlocks := hlocks) hx hb hr (fun t ht hW => ⟨2, v0, M, rfl, ⟨rfl, rfl, rfl⟩, by rw [ht]; exact hR1, by rw [ht]; exact ho1, (hx_up hS1).F ht⟩) (hx_up hS1).2.2 dh_115_20
theorem hn_118 {l : Launch} {E : ux_E} {M : ux_M} {x1 x2 : Int32} {qo : Nat} {v0 : Int64} {d : Nat} (hd37 : d ≤ 40) (hqo : ¬ ux_A E qo) {QQ : Int32 → ux_M → Prop} (hcall : ux_Call l E d y_118 [aR 4 655365 0, aI x1, aI x2] M (ux_CI QQ)) : hx_Met l E yh_118 hh_118 [aR 4 655365 0, aI x1, aI x2] qo v0 M (fun r v M1 => r = 0 ∧ ∃ a, QQ a M1 ∧ v = a.toInt64) := by
  refine hx_ofW (by decide +kernel) ?_
  intro p e s m args below meth c s₁ B hml hv
  obtain ⟨rfl, ⟨hRep, hK⟩, ho⟩ := hv
  have hx := B.exec
  have hb : c.code = yh_118.2.1 := B.bytes
  have hr := B.returns
  have hlocks := B.notSynchronized
  have S := hx_fix B hml
  have hts := atoms_spec (ws := hx_ws yh_118 hh_118) B.pre
  have htab : c.exceptionTable.toList = tableOf hh_118 := vx_table (x := yh_118.1) B (hts _ List.mem_cons_self)
  have hl2 := lv_entry ([.ref (E.1 4 655365 0), .int x1, .int x2, .ref qo]) (n := 5) (Nat.le_of_ble_eq_true rfl)
  show W p l e (fx_room 60) s m _ below meth c s.heap [] 0 0 _ (entryFrame m ([.ref (E.1 4 655365 0), .int x1, .int x2, .ref qo] : List Value).toArray 5)
  rw [lg_entry_eq]
  generalize (lg_sl ([.ref (E.1 4 655365 0), .int x1, .int x2, .ref qo]) ++ List.replicate (5 - (lg_sl ([.ref (E.1 4 655365 0), .int x1, .int x2, .ref qo])).length) Slot.unset).toArray = ls at hl2 ⊢
  have hl2 : lv_has ls 5 [(0, .ref (E.1 4 655365 0)), (1, .int x1), (2, .int x2), (3, .ref qo)] := hl2
  have hVS : va_S (ux_A E) s.heap s.heap [] := va_S.rf
  refine lv_aload_n hx hb dh_118_0 rfl (lv_at hl2 3 rfl) ?_
  refine lv_iconst (v := 0) hx hb dh_118_1 (by decide) ?_
  refine lv_aload_n hx hb dh_118_2 rfl (lv_at hl2 0 rfl) ?_
  refine lv_iload_n hx hb dh_118_3 rfl (lv_at hl2 1 rfl) ?_
  refine lv_iload_n hx hb dh_118_4 rfl (lv_at hl2 2 rfl) ?_
  refine fx_callv (d := d) (y2 := y_118) (q := (4, 655365, 0)) (ci := 0) (As := [.inl x1, .inl x2]) (rest := [.int 0, .ref qo]) (k := 2) S hx_sub hts hK (by decide +kernel) wl_118 wm_118 we_118 (by decide +kernel) (by decide) rfl (by decide) rfl rfl (fun v hv => by
      simp only [List.mem_cons, List.not_mem_nil, or_false] at hv
      rcases hv with rfl | rfl <;> trivial) (Nat.le_of_ble_eq_true rfl) hcall ⟨by show d + 5 ≤ 60; omega, by show 60 * d + 360 ≤ 60 * 60 + 300; omega⟩ ⟨Nat.zero_le _, Nat.zero_le _⟩ hRep hVS hl2.1 dh_118_5 (fun r0 M1 H1 locs1 hq hR1 hS1 _ hk1 => ?_)
  obtain ⟨a, rfl, hq⟩ := hq
  have ho1 := ho.keep hqo hk1
  refine lv_i2l hx hb dh_118_8 rfl ?_
  refine hx_last hx hb hK hqo ho1 hR1 (hx_up hS1) dh_118_9 (fun H2 locs2 hR2 ho2 hS2 => ?_)
  refine lv_goto (tgt := 21) hx hb dh_118_10 (by decide) ?_
  refine lv_iconst (v := 0) hx hb dh_118_21 (by decide) ?_
  refine W.widen (k := 1) (n := 6) (Nat.zero_le _) (Nat.zero_le _) ?_
  exact W.iret (hlocks := hlocks) hx hb hr (fun t ht hW => ⟨0, _, M1, rfl, ⟨rfl, a, hq, rfl⟩, by rw [ht]; exact hR2, by rw [ht]; exact ho2, hS2.F ht⟩) hS2.2.2 dh_118_22
theorem ht_118_0 {l : Launch} {E : ux_E} {M : ux_M} {x1 x2 : Int32} {qo : Nat} {v0 : Int64} (hE : ux_THok E) (hqo : ¬ ux_A E qo) (hM : fx_Met l E y_118 10 [aR 4 655365 0, aI x1, aI x2] M fx_IO) : hx_Met l E yh_118 hh_118 [aR 4 655365 0, aI x1, aI x2] qo v0 M (fun r v M1 => r = 1 ∧ v = v0 ∧ M1 = M) := by
  refine hx_ofW (by decide +kernel) ?_
  intro p e s m args below meth c s₁ B hml hv
  obtain ⟨rfl, ⟨hRep, hK⟩, ho⟩ := hv
  have hx := B.exec
  have hb : c.code = yh_118.2.1 := B.bytes
  have hr := B.returns
  have hlocks := B.notSynchronized
  have S := hx_fix B hml
  have hts := atoms_spec (ws := hx_ws yh_118 hh_118) B.pre
  have htab : c.exceptionTable.toList = tableOf hh_118 := vx_table (x := yh_118.1) B (hts _ List.mem_cons_self)
  have hl2 := lv_entry ([.ref (E.1 4 655365 0), .int x1, .int x2, .ref qo]) (n := 5) (Nat.le_of_ble_eq_true rfl)
  show W p l e (fx_room 60) s m _ below meth c s.heap [] 0 0 _ (entryFrame m ([.ref (E.1 4 655365 0), .int x1, .int x2, .ref qo] : List Value).toArray 5)
  rw [lg_entry_eq]
  generalize (lg_sl ([.ref (E.1 4 655365 0), .int x1, .int x2, .ref qo]) ++ List.replicate (5 - (lg_sl ([.ref (E.1 4 655365 0), .int x1, .int x2, .ref qo])).length) Slot.unset).toArray = ls at hl2 ⊢
  have hl2 : lv_has ls 5 [(0, .ref (E.1 4 655365 0)), (1, .int x1), (2, .int x2), (3, .ref qo)] := hl2
  have hVS : va_S (ux_A E) s.heap s.heap [] := va_S.rf
  refine lv_aload_n hx hb dh_118_0 rfl (lv_at hl2 3 rfl) ?_
  refine lv_iconst (v := 0) hx hb dh_118_1 (by decide) ?_
  refine lv_aload_n hx hb dh_118_2 rfl (lv_at hl2 0 rfl) ?_
  refine lv_iload_n hx hb dh_118_3 rfl (lv_at hl2 1 rfl) ?_
  refine lv_iload_n hx hb dh_118_4 rfl (lv_at hl2 2 rfl) ?_
  obtain ⟨-, -, ⟨hc1, hc2⟩, hnc, -⟩ := hE s s.heap hK.2.2.2.2
  refine fx_thrv (d := 10) (y2 := y_118) (q := (4, 655365, 0)) (ci := 0) (As := [.inl x1, .inl x2]) (rest := [.int 0, .ref qo]) (k := 2) S hx_sub hts hK (by decide +kernel) wl_118 wm_118 we_118 mo_118 (by decide +kernel) (by decide) rfl (by decide) rfl rfl (Nat.le_of_ble_eq_true rfl) hM ⟨Nat.le_of_ble_eq_true rfl, Nat.le_of_ble_eq_true rfl⟩ ⟨Nat.le_of_ble_eq_true rfl, Nat.le_of_ble_eq_true rfl⟩ hRep hVS hl2.1 dh_118_5 (fun ce q9 H1 locs1 hR1 hS1 _ hk1 g1 g2 g3 => ?_)
  have ho1 := ho.keep hqo hk1
  refine vx_catch (name := fx_IO) (E := fx_IO) S.2.2.2.1 [] ⟨0, 10, 13, 13⟩ [⟨0, 10, 17, 22⟩] (by rw [htab]; rfl) (fun z hz => by cases hz) (by decide) (by decide) (hx_wd hts hx_c13 rfl) (va_Nw.use rfl hc1) g1 g2 g3 ?_
  refine lv_astore (lv' := [(4, .ref q9), (0, .ref (E.1 4 655365 0)), (1, .int x1), (2, .int x2), (3, .ref qo)]) hx hb dh_118_13 hl2 (by decide) rfl (fun ls hl2 => ?_)
  refine lv_iconst (v := 1) hx hb dh_118_15 (by decide) ?_
  exact W.iret (hlocks := hlocks) hx hb hr (fun t ht hW => ⟨1, v0, M, rfl, ⟨rfl, rfl, rfl⟩, by rw [ht]; exact hR1, by rw [ht]; exact ho1, (hx_up hS1).F ht⟩) (hx_up hS1).2.2 dh_118_16
theorem ht_118_1 {l : Launch} {E : ux_E} {M : ux_M} {x1 x2 : Int32} {qo : Nat} {v0 : Int64} (hE : ux_THok E) (hqo : ¬ ux_A E qo) (hM : fx_Met l E y_118 10 [aR 4 655365 0, aI x1, aI x2] M fx_IA) : hx_Met l E yh_118 hh_118 [aR 4 655365 0, aI x1, aI x2] qo v0 M (fun r v M1 => r = 2 ∧ v = v0 ∧ M1 = M) := by
  refine hx_ofW (by decide +kernel) ?_
  intro p e s m args below meth c s₁ B hml hv
  obtain ⟨rfl, ⟨hRep, hK⟩, ho⟩ := hv
  have hx := B.exec
  have hb : c.code = yh_118.2.1 := B.bytes
  have hr := B.returns
  have hlocks := B.notSynchronized
  have S := hx_fix B hml
  have hts := atoms_spec (ws := hx_ws yh_118 hh_118) B.pre
  have htab : c.exceptionTable.toList = tableOf hh_118 := vx_table (x := yh_118.1) B (hts _ List.mem_cons_self)
  have hl2 := lv_entry ([.ref (E.1 4 655365 0), .int x1, .int x2, .ref qo]) (n := 5) (Nat.le_of_ble_eq_true rfl)
  show W p l e (fx_room 60) s m _ below meth c s.heap [] 0 0 _ (entryFrame m ([.ref (E.1 4 655365 0), .int x1, .int x2, .ref qo] : List Value).toArray 5)
  rw [lg_entry_eq]
  generalize (lg_sl ([.ref (E.1 4 655365 0), .int x1, .int x2, .ref qo]) ++ List.replicate (5 - (lg_sl ([.ref (E.1 4 655365 0), .int x1, .int x2, .ref qo])).length) Slot.unset).toArray = ls at hl2 ⊢
  have hl2 : lv_has ls 5 [(0, .ref (E.1 4 655365 0)), (1, .int x1), (2, .int x2), (3, .ref qo)] := hl2
  have hVS : va_S (ux_A E) s.heap s.heap [] := va_S.rf
  refine lv_aload_n hx hb dh_118_0 rfl (lv_at hl2 3 rfl) ?_
  refine lv_iconst (v := 0) hx hb dh_118_1 (by decide) ?_
  refine lv_aload_n hx hb dh_118_2 rfl (lv_at hl2 0 rfl) ?_
  refine lv_iload_n hx hb dh_118_3 rfl (lv_at hl2 1 rfl) ?_
  refine lv_iload_n hx hb dh_118_4 rfl (lv_at hl2 2 rfl) ?_
  obtain ⟨-, -, ⟨hc1, hc2⟩, hnc, -⟩ := hE s s.heap hK.2.2.2.2
  refine fx_thrv (d := 10) (y2 := y_118) (q := (4, 655365, 0)) (ci := 0) (As := [.inl x1, .inl x2]) (rest := [.int 0, .ref qo]) (k := 2) S hx_sub hts hK (by decide +kernel) wl_118 wm_118 we_118 mo_118 (by decide +kernel) (by decide) rfl (by decide) rfl rfl (Nat.le_of_ble_eq_true rfl) hM ⟨Nat.le_of_ble_eq_true rfl, Nat.le_of_ble_eq_true rfl⟩ ⟨Nat.le_of_ble_eq_true rfl, Nat.le_of_ble_eq_true rfl⟩ hRep hVS hl2.1 dh_118_5 (fun ce q9 H1 locs1 hR1 hS1 _ hk1 g1 g2 g3 => ?_)
  have ho1 := ho.keep hqo hk1
  refine vx_catch (name := fx_IA) (E := fx_IA) S.2.2.2.1 [⟨0, 10, 13, 13⟩] ⟨0, 10, 17, 22⟩ [] (by rw [htab]; rfl) (fun z hz => by rw [List.mem_singleton.mp hz]; exact .inr ⟨by decide, fx_IO, hx_wd hts hx_c13 rfl, hnc⟩) (by decide) (by decide) (hx_wd hts hx_c22 rfl) (va_Nw.use rfl hc2) g1 g2 g3 ?_
  refine lv_astore (lv' := [(4, .ref q9), (0, .ref (E.1 4 655365 0)), (1, .int x1), (2, .int x2), (3, .ref qo)]) hx hb dh_118_17 hl2 (by decide) rfl (fun ls hl2 => ?_)
  refine lv_iconst (v := 2) hx hb dh_118_19 (by decide) ?_
  exact W.iret (hlocks := hlocks) hx hb hr (fun t ht hW => ⟨2, v0, M, rfl, ⟨rfl, rfl, rfl⟩, by rw [ht]; exact hR1, by rw [ht]; exact ho1, (hx_up hS1).F ht⟩) (hx_up hS1).2.2 dh_118_20
theorem hn_119 {l : Launch} {E : ux_E} {M : ux_M} {x1 : Int32} {qo : Nat} {v0 : Int64} {d : Nat} (hd37 : d ≤ 40) (hqo : ¬ ux_A E qo) {QQ : Int32 → ux_M → Prop} (hcall : ux_Call l E d y_119 [aR 4 655365 0, aI x1] M (ux_CI QQ)) : hx_Met l E yh_119 hh_119 [aR 4 655365 0, aI x1] qo v0 M (fun r v M1 => r = 0 ∧ ∃ a, QQ a M1 ∧ v = if a = 0 then 0 else 1) := by
  refine hx_ofW (by decide +kernel) ?_
  intro p e s m args below meth c s₁ B hml hv
  obtain ⟨rfl, ⟨hRep, hK⟩, ho⟩ := hv
  have hx := B.exec
  have hb : c.code = yh_119.2.1 := B.bytes
  have hr := B.returns
  have hlocks := B.notSynchronized
  have S := hx_fix B hml
  have hts := atoms_spec (ws := hx_ws yh_119 hh_119) B.pre
  have htab : c.exceptionTable.toList = tableOf hh_119 := vx_table (x := yh_119.1) B (hts _ List.mem_cons_self)
  have hl2 := lv_entry ([.ref (E.1 4 655365 0), .int x1, .ref qo]) (n := 4) (Nat.le_of_ble_eq_true rfl)
  show W p l e (fx_room 60) s m _ below meth c s.heap [] 0 0 _ (entryFrame m ([.ref (E.1 4 655365 0), .int x1, .ref qo] : List Value).toArray 4)
  rw [lg_entry_eq]
  generalize (lg_sl ([.ref (E.1 4 655365 0), .int x1, .ref qo]) ++ List.replicate (4 - (lg_sl ([.ref (E.1 4 655365 0), .int x1, .ref qo])).length) Slot.unset).toArray = ls at hl2 ⊢
  have hl2 : lv_has ls 4 [(0, .ref (E.1 4 655365 0)), (1, .int x1), (2, .ref qo)] := hl2
  have hVS : va_S (ux_A E) s.heap s.heap [] := va_S.rf
  refine lv_aload_n hx hb dh_119_0 rfl (lv_at hl2 2 rfl) ?_
  refine lv_iconst (v := 0) hx hb dh_119_1 (by decide) ?_
  refine lv_aload_n hx hb dh_119_2 rfl (lv_at hl2 0 rfl) ?_
  refine lv_iload_n hx hb dh_119_3 rfl (lv_at hl2 1 rfl) ?_
  refine fx_callv (d := d) (y2 := y_119) (q := (4, 655365, 0)) (ci := 0) (As := [.inl x1]) (rest := [.int 0, .ref qo]) (k := 1) S hx_sub hts hK (by decide +kernel) wl_119 wm_119 we_119 (by decide +kernel) (by decide) rfl (by decide) rfl rfl (fun v hv => by rw [List.mem_singleton.mp hv]; trivial) (Nat.le_of_ble_eq_true rfl) hcall ⟨by show d + 5 ≤ 60; omega, by show 60 * d + 360 ≤ 60 * 60 + 300; omega⟩ ⟨Nat.zero_le _, Nat.zero_le _⟩ hRep hVS hl2.1 dh_119_4 (fun r0 M1 H1 locs1 hq hR1 hS1 _ hk1 => ?_)
  obtain ⟨a, rfl, hq⟩ := hq
  have ho1 := ho.keep hqo hk1
  refine lv_if_eq (tgt := 14) hx hb dh_119_7 (by decide) (fun h0 => ?_) (fun h0 => ?_)
  · refine lv_lconst (v := 0) hx hb dh_119_14 (by decide) ?_
    refine hx_last hx hb hK hqo ho1 hR1 (hx_up hS1) dh_119_15 (fun H2 locs2 hR2 ho2 hS2 => ?_)
    refine lv_goto (tgt := 22) hx hb dh_119_16 (by decide) ?_
    refine lv_iconst (v := 0) hx hb dh_119_22 (by decide) ?_
    refine W.widen (k := 1) (n := 6) (Nat.zero_le _) (Nat.zero_le _) ?_
    exact W.iret (hlocks := hlocks) hx hb hr (fun t ht hW => ⟨0, _, M1, rfl, ⟨rfl, a, hq, by rw [if_pos h0]⟩, by rw [ht]; exact hR2, by rw [ht]; exact ho2, hS2.F ht⟩) hS2.2.2 dh_119_23
  · refine lv_lconst (v := 1) hx hb dh_119_10 (by decide) ?_
    refine lv_goto (tgt := 15) hx hb dh_119_11 (by decide) ?_
    refine hx_last hx hb hK hqo ho1 hR1 (hx_up hS1) dh_119_15 (fun H2 locs2 hR2 ho2 hS2 => ?_)
    refine lv_goto (tgt := 22) hx hb dh_119_16 (by decide) ?_
    refine lv_iconst (v := 0) hx hb dh_119_22 (by decide) ?_
    refine W.widen (k := 1) (n := 6) (Nat.zero_le _) (Nat.zero_le _) ?_
    exact W.iret (hlocks := hlocks) hx hb hr (fun t ht hW => ⟨0, _, M1, rfl, ⟨rfl, a, hq, by rw [if_neg h0]⟩, by rw [ht]; exact hR2, by rw [ht]; exact ho2, hS2.F ht⟩) hS2.2.2 dh_119_23
theorem ht_119_0 {l : Launch} {E : ux_E} {M : ux_M} {x1 : Int32} {qo : Nat} {v0 : Int64} (hE : ux_THok E) (hqo : ¬ ux_A E qo) (hM : fx_Met l E y_119 10 [aR 4 655365 0, aI x1] M fx_IO) : hx_Met l E yh_119 hh_119 [aR 4 655365 0, aI x1] qo v0 M (fun r v M1 => r = 1 ∧ v = v0 ∧ M1 = M) := by
  refine hx_ofW (by decide +kernel) ?_
  intro p e s m args below meth c s₁ B hml hv
  obtain ⟨rfl, ⟨hRep, hK⟩, ho⟩ := hv
  have hx := B.exec
  have hb : c.code = yh_119.2.1 := B.bytes
  have hr := B.returns
  have hlocks := B.notSynchronized
  have S := hx_fix B hml
  have hts := atoms_spec (ws := hx_ws yh_119 hh_119) B.pre
  have htab : c.exceptionTable.toList = tableOf hh_119 := vx_table (x := yh_119.1) B (hts _ List.mem_cons_self)
  have hl2 := lv_entry ([.ref (E.1 4 655365 0), .int x1, .ref qo]) (n := 4) (Nat.le_of_ble_eq_true rfl)
  show W p l e (fx_room 60) s m _ below meth c s.heap [] 0 0 _ (entryFrame m ([.ref (E.1 4 655365 0), .int x1, .ref qo] : List Value).toArray 4)
  rw [lg_entry_eq]
  generalize (lg_sl ([.ref (E.1 4 655365 0), .int x1, .ref qo]) ++ List.replicate (4 - (lg_sl ([.ref (E.1 4 655365 0), .int x1, .ref qo])).length) Slot.unset).toArray = ls at hl2 ⊢
  have hl2 : lv_has ls 4 [(0, .ref (E.1 4 655365 0)), (1, .int x1), (2, .ref qo)] := hl2
  have hVS : va_S (ux_A E) s.heap s.heap [] := va_S.rf
  refine lv_aload_n hx hb dh_119_0 rfl (lv_at hl2 2 rfl) ?_
  refine lv_iconst (v := 0) hx hb dh_119_1 (by decide) ?_
  refine lv_aload_n hx hb dh_119_2 rfl (lv_at hl2 0 rfl) ?_
  refine lv_iload_n hx hb dh_119_3 rfl (lv_at hl2 1 rfl) ?_
  obtain ⟨-, -, ⟨hc1, hc2⟩, hnc, -⟩ := hE s s.heap hK.2.2.2.2
  refine fx_thrv (d := 10) (y2 := y_119) (q := (4, 655365, 0)) (ci := 0) (As := [.inl x1]) (rest := [.int 0, .ref qo]) (k := 1) S hx_sub hts hK (by decide +kernel) wl_119 wm_119 we_119 mo_119 (by decide +kernel) (by decide) rfl (by decide) rfl rfl (Nat.le_of_ble_eq_true rfl) hM ⟨Nat.le_of_ble_eq_true rfl, Nat.le_of_ble_eq_true rfl⟩ ⟨Nat.le_of_ble_eq_true rfl, Nat.le_of_ble_eq_true rfl⟩ hRep hVS hl2.1 dh_119_4 (fun ce q9 H1 locs1 hR1 hS1 _ hk1 g1 g2 g3 => ?_)
  have ho1 := ho.keep hqo hk1
  refine vx_catch (name := fx_IO) (E := fx_IO) S.2.2.2.1 [] ⟨0, 16, 19, 13⟩ [] (by rw [htab]; rfl) (fun z hz => by cases hz) (by decide) (by decide) (hx_wd hts hx_c13 rfl) (va_Nw.use rfl hc1) g1 g2 g3 ?_
  refine lv_astore_n (lv' := [(3, .ref q9), (0, .ref (E.1 4 655365 0)), (1, .int x1), (2, .ref qo)]) hx hb dh_119_19 rfl hl2 (by decide) rfl (fun ls hl2 => ?_)
  refine lv_iconst (v := 1) hx hb dh_119_20 (by decide) ?_
  exact W.iret (hlocks := hlocks) hx hb hr (fun t ht hW => ⟨1, v0, M, rfl, ⟨rfl, rfl, rfl⟩, by rw [ht]; exact hR1, by rw [ht]; exact ho1, (hx_up hS1).F ht⟩) (hx_up hS1).2.2 dh_119_21
theorem hn_121 {l : Launch} {E : ux_E} {M : ux_M} {x1 x2 : Int32} {qo : Nat} {v0 : Int64} {d : Nat} (hd37 : d ≤ 40) (hqo : ¬ ux_A E qo) {QQ : Int32 → ux_M → Prop} (hcall : ux_Call l E d y_121 [aR 4 655365 0, aI x1, aI x2] M (ux_CI QQ)) : hx_Met l E yh_121 hh_121 [aR 4 655365 0, aI x1, aI x2] qo v0 M (fun r v M1 => r = 0 ∧ ∃ a, QQ a M1 ∧ v = if a = 0 then 0 else 1) := by
  refine hx_ofW (by decide +kernel) ?_
  intro p e s m args below meth c s₁ B hml hv
  obtain ⟨rfl, ⟨hRep, hK⟩, ho⟩ := hv
  have hx := B.exec
  have hb : c.code = yh_121.2.1 := B.bytes
  have hr := B.returns
  have hlocks := B.notSynchronized
  have S := hx_fix B hml
  have hts := atoms_spec (ws := hx_ws yh_121 hh_121) B.pre
  have htab : c.exceptionTable.toList = tableOf hh_121 := vx_table (x := yh_121.1) B (hts _ List.mem_cons_self)
  have hl2 := lv_entry ([.ref (E.1 4 655365 0), .int x1, .int x2, .ref qo]) (n := 5) (Nat.le_of_ble_eq_true rfl)
  show W p l e (fx_room 60) s m _ below meth c s.heap [] 0 0 _ (entryFrame m ([.ref (E.1 4 655365 0), .int x1, .int x2, .ref qo] : List Value).toArray 5)
  rw [lg_entry_eq]
  generalize (lg_sl ([.ref (E.1 4 655365 0), .int x1, .int x2, .ref qo]) ++ List.replicate (5 - (lg_sl ([.ref (E.1 4 655365 0), .int x1, .int x2, .ref qo])).length) Slot.unset).toArray = ls at hl2 ⊢
  have hl2 : lv_has ls 5 [(0, .ref (E.1 4 655365 0)), (1, .int x1), (2, .int x2), (3, .ref qo)] := hl2
  have hVS : va_S (ux_A E) s.heap s.heap [] := va_S.rf
  refine lv_aload_n hx hb dh_121_0 rfl (lv_at hl2 3 rfl) ?_
  refine lv_iconst (v := 0) hx hb dh_121_1 (by decide) ?_
  refine lv_aload_n hx hb dh_121_2 rfl (lv_at hl2 0 rfl) ?_
  refine lv_iload_n hx hb dh_121_3 rfl (lv_at hl2 1 rfl) ?_
  refine lv_iload_n hx hb dh_121_4 rfl (lv_at hl2 2 rfl) ?_
  refine fx_callv (d := d) (y2 := y_121) (q := (4, 655365, 0)) (ci := 0) (As := [.inl x1, .inl x2]) (rest := [.int 0, .ref qo]) (k := 2) S hx_sub hts hK (by decide +kernel) wl_121 wm_121 we_121 (by decide +kernel) (by decide) rfl (by decide) rfl rfl (fun v hv => by
      simp only [List.mem_cons, List.not_mem_nil, or_false] at hv
      rcases hv with rfl | rfl <;> trivial) (Nat.le_of_ble_eq_true rfl) hcall ⟨by show d + 5 ≤ 60; omega, by show 60 * d + 360 ≤ 60 * 60 + 300; omega⟩ ⟨Nat.zero_le _, Nat.zero_le _⟩ hRep hVS hl2.1 dh_121_5 (fun r0 M1 H1 locs1 hq hR1 hS1 _ hk1 => ?_)
  obtain ⟨a, rfl, hq⟩ := hq
  have ho1 := ho.keep hqo hk1
  refine lv_if_eq (tgt := 15) hx hb dh_121_8 (by decide) (fun h0 => ?_) (fun h0 => ?_)
  · refine lv_lconst (v := 0) hx hb dh_121_15 (by decide) ?_
    refine hx_last hx hb hK hqo ho1 hR1 (hx_up hS1) dh_121_16 (fun H2 locs2 hR2 ho2 hS2 => ?_)
    refine lv_goto (tgt := 24) hx hb dh_121_17 (by decide) ?_
    refine lv_iconst (v := 0) hx hb dh_121_24 (by decide) ?_
    refine W.widen (k := 1) (n := 6) (Nat.zero_le _) (Nat.zero_le _) ?_
    exact W.iret (hlocks := hlocks) hx hb hr (fun t ht hW => ⟨0, _, M1, rfl, ⟨rfl, a, hq, by rw [if_pos h0]⟩, by rw [ht]; exact hR2, by rw [ht]; exact ho2, hS2.F ht⟩) hS2.2.2 dh_121_25
  · refine lv_lconst (v := 1) hx hb dh_121_11 (by decide) ?_
    refine lv_goto (tgt := 16) hx hb dh_121_12 (by decide) ?_
    refine hx_last hx hb hK hqo ho1 hR1 (hx_up hS1) dh_121_16 (fun H2 locs2 hR2 ho2 hS2 => ?_)
    refine lv_goto (tgt := 24) hx hb dh_121_17 (by decide) ?_
    refine lv_iconst (v := 0) hx hb dh_121_24 (by decide) ?_
    refine W.widen (k := 1) (n := 6) (Nat.zero_le _) (Nat.zero_le _) ?_
    exact W.iret (hlocks := hlocks) hx hb hr (fun t ht hW => ⟨0, _, M1, rfl, ⟨rfl, a, hq, by rw [if_neg h0]⟩, by rw [ht]; exact hR2, by rw [ht]; exact ho2, hS2.F ht⟩) hS2.2.2 dh_121_25
theorem ht_121_0 {l : Launch} {E : ux_E} {M : ux_M} {x1 x2 : Int32} {qo : Nat} {v0 : Int64} (hE : ux_THok E) (hqo : ¬ ux_A E qo) (hM : fx_Met l E y_121 10 [aR 4 655365 0, aI x1, aI x2] M fx_IO) : hx_Met l E yh_121 hh_121 [aR 4 655365 0, aI x1, aI x2] qo v0 M (fun r v M1 => r = 1 ∧ v = v0 ∧ M1 = M) := by
  refine hx_ofW (by decide +kernel) ?_
  intro p e s m args below meth c s₁ B hml hv
  obtain ⟨rfl, ⟨hRep, hK⟩, ho⟩ := hv
  have hx := B.exec
  have hb : c.code = yh_121.2.1 := B.bytes
  have hr := B.returns
  have hlocks := B.notSynchronized
  have S := hx_fix B hml
  have hts := atoms_spec (ws := hx_ws yh_121 hh_121) B.pre
  have htab : c.exceptionTable.toList = tableOf hh_121 := vx_table (x := yh_121.1) B (hts _ List.mem_cons_self)
  have hl2 := lv_entry ([.ref (E.1 4 655365 0), .int x1, .int x2, .ref qo]) (n := 5) (Nat.le_of_ble_eq_true rfl)
  show W p l e (fx_room 60) s m _ below meth c s.heap [] 0 0 _ (entryFrame m ([.ref (E.1 4 655365 0), .int x1, .int x2, .ref qo] : List Value).toArray 5)
  rw [lg_entry_eq]
  generalize (lg_sl ([.ref (E.1 4 655365 0), .int x1, .int x2, .ref qo]) ++ List.replicate (5 - (lg_sl ([.ref (E.1 4 655365 0), .int x1, .int x2, .ref qo])).length) Slot.unset).toArray = ls at hl2 ⊢
  have hl2 : lv_has ls 5 [(0, .ref (E.1 4 655365 0)), (1, .int x1), (2, .int x2), (3, .ref qo)] := hl2
  have hVS : va_S (ux_A E) s.heap s.heap [] := va_S.rf
  refine lv_aload_n hx hb dh_121_0 rfl (lv_at hl2 3 rfl) ?_
  refine lv_iconst (v := 0) hx hb dh_121_1 (by decide) ?_
  refine lv_aload_n hx hb dh_121_2 rfl (lv_at hl2 0 rfl) ?_
  refine lv_iload_n hx hb dh_121_3 rfl (lv_at hl2 1 rfl) ?_
  refine lv_iload_n hx hb dh_121_4 rfl (lv_at hl2 2 rfl) ?_
  obtain ⟨-, -, ⟨hc1, hc2⟩, hnc, -⟩ := hE s s.heap hK.2.2.2.2
  refine fx_thrv (d := 10) (y2 := y_121) (q := (4, 655365, 0)) (ci := 0) (As := [.inl x1, .inl x2]) (rest := [.int 0, .ref qo]) (k := 2) S hx_sub hts hK (by decide +kernel) wl_121 wm_121 we_121 mo_121 (by decide +kernel) (by decide) rfl (by decide) rfl rfl (Nat.le_of_ble_eq_true rfl) hM ⟨Nat.le_of_ble_eq_true rfl, Nat.le_of_ble_eq_true rfl⟩ ⟨Nat.le_of_ble_eq_true rfl, Nat.le_of_ble_eq_true rfl⟩ hRep hVS hl2.1 dh_121_5 (fun ce q9 H1 locs1 hR1 hS1 _ hk1 g1 g2 g3 => ?_)
  have ho1 := ho.keep hqo hk1
  refine vx_catch (name := fx_IO) (E := fx_IO) S.2.2.2.1 [] ⟨0, 17, 20, 13⟩ [] (by rw [htab]; rfl) (fun z hz => by cases hz) (by decide) (by decide) (hx_wd hts hx_c13 rfl) (va_Nw.use rfl hc1) g1 g2 g3 ?_
  refine lv_astore (lv' := [(4, .ref q9), (0, .ref (E.1 4 655365 0)), (1, .int x1), (2, .int x2), (3, .ref qo)]) hx hb dh_121_20 hl2 (by decide) rfl (fun ls hl2 => ?_)
  refine lv_iconst (v := 1) hx hb dh_121_22 (by decide) ?_
  exact W.iret (hlocks := hlocks) hx hb hr (fun t ht hW => ⟨1, v0, M, rfl, ⟨rfl, rfl, rfl⟩, by rw [ht]; exact hR1, by rw [ht]; exact ho1, (hx_up hS1).F ht⟩) (hx_up hS1).2.2 dh_121_23
theorem hn_122 {l : Launch} {E : ux_E} {M : ux_M} {x1 : Int32} {qo : Nat} {v0 : Int64} {d : Nat} (hd37 : d ≤ 40) (hqo : ¬ ux_A E qo) {QQ : Int32 → ux_M → Prop} (hcall : ux_Call l E d y_122 [aR 4 655365 0, aI x1] M (ux_CI QQ)) : hx_Met l E yh_122 hh_122 [aR 4 655365 0, aI x1] qo v0 M (fun r v M1 => r = 0 ∧ ∃ a, QQ a M1 ∧ v = a.toInt64) := by
  refine hx_ofW (by decide +kernel) ?_
  intro p e s m args below meth c s₁ B hml hv
  obtain ⟨rfl, ⟨hRep, hK⟩, ho⟩ := hv
  have hx := B.exec
  have hb : c.code = yh_122.2.1 := B.bytes
  have hr := B.returns
  have hlocks := B.notSynchronized
  have S := hx_fix B hml
  have hts := atoms_spec (ws := hx_ws yh_122 hh_122) B.pre
  have htab : c.exceptionTable.toList = tableOf hh_122 := vx_table (x := yh_122.1) B (hts _ List.mem_cons_self)
  have hl2 := lv_entry ([.ref (E.1 4 655365 0), .int x1, .ref qo]) (n := 4) (Nat.le_of_ble_eq_true rfl)
  show W p l e (fx_room 60) s m _ below meth c s.heap [] 0 0 _ (entryFrame m ([.ref (E.1 4 655365 0), .int x1, .ref qo] : List Value).toArray 4)
  rw [lg_entry_eq]
  generalize (lg_sl ([.ref (E.1 4 655365 0), .int x1, .ref qo]) ++ List.replicate (4 - (lg_sl ([.ref (E.1 4 655365 0), .int x1, .ref qo])).length) Slot.unset).toArray = ls at hl2 ⊢
  have hl2 : lv_has ls 4 [(0, .ref (E.1 4 655365 0)), (1, .int x1), (2, .ref qo)] := hl2
  have hVS : va_S (ux_A E) s.heap s.heap [] := va_S.rf
  refine lv_aload_n hx hb dh_122_0 rfl (lv_at hl2 2 rfl) ?_
  refine lv_iconst (v := 0) hx hb dh_122_1 (by decide) ?_
  refine lv_aload_n hx hb dh_122_2 rfl (lv_at hl2 0 rfl) ?_
  refine lv_iload_n hx hb dh_122_3 rfl (lv_at hl2 1 rfl) ?_
  refine fx_callv (d := d) (y2 := y_122) (q := (4, 655365, 0)) (ci := 0) (As := [.inl x1]) (rest := [.int 0, .ref qo]) (k := 1) S hx_sub hts hK (by decide +kernel) wl_122 wm_122 we_122 (by decide +kernel) (by decide) rfl (by decide) rfl rfl (fun v hv => by rw [List.mem_singleton.mp hv]; trivial) (Nat.le_of_ble_eq_true rfl) hcall ⟨by show d + 5 ≤ 60; omega, by show 60 * d + 360 ≤ 60 * 60 + 300; omega⟩ ⟨Nat.zero_le _, Nat.zero_le _⟩ hRep hVS hl2.1 dh_122_4 (fun r0 M1 H1 locs1 hq hR1 hS1 _ hk1 => ?_)
  obtain ⟨a, rfl, hq⟩ := hq
  have ho1 := ho.keep hqo hk1
  refine lv_i2l hx hb dh_122_7 rfl ?_
  refine hx_last hx hb hK hqo ho1 hR1 (hx_up hS1) dh_122_8 (fun H2 locs2 hR2 ho2 hS2 => ?_)
  refine lv_goto (tgt := 15) hx hb dh_122_9 (by decide) ?_
  refine lv_iconst (v := 0) hx hb dh_122_15 (by decide) ?_
  refine W.widen (k := 1) (n := 6) (Nat.zero_le _) (Nat.zero_le _) ?_
  exact W.iret (hlocks := hlocks) hx hb hr (fun t ht hW => ⟨0, _, M1, rfl, ⟨rfl, a, hq, rfl⟩, by rw [ht]; exact hR2, by rw [ht]; exact ho2, hS2.F ht⟩) hS2.2.2 dh_122_16
theorem ht_122_0 {l : Launch} {E : ux_E} {M : ux_M} {x1 : Int32} {qo : Nat} {v0 : Int64} (hE : ux_THok E) (hqo : ¬ ux_A E qo) (hM : fx_Met l E y_122 10 [aR 4 655365 0, aI x1] M fx_IO) : hx_Met l E yh_122 hh_122 [aR 4 655365 0, aI x1] qo v0 M (fun r v M1 => r = 1 ∧ v = v0 ∧ M1 = M) := by
  refine hx_ofW (by decide +kernel) ?_
  intro p e s m args below meth c s₁ B hml hv
  obtain ⟨rfl, ⟨hRep, hK⟩, ho⟩ := hv
  have hx := B.exec
  have hb : c.code = yh_122.2.1 := B.bytes
  have hr := B.returns
  have hlocks := B.notSynchronized
  have S := hx_fix B hml
  have hts := atoms_spec (ws := hx_ws yh_122 hh_122) B.pre
  have htab : c.exceptionTable.toList = tableOf hh_122 := vx_table (x := yh_122.1) B (hts _ List.mem_cons_self)
  have hl2 := lv_entry ([.ref (E.1 4 655365 0), .int x1, .ref qo]) (n := 4) (Nat.le_of_ble_eq_true rfl)
  show W p l e (fx_room 60) s m _ below meth c s.heap [] 0 0 _ (entryFrame m ([.ref (E.1 4 655365 0), .int x1, .ref qo] : List Value).toArray 4)
  rw [lg_entry_eq]
  generalize (lg_sl ([.ref (E.1 4 655365 0), .int x1, .ref qo]) ++ List.replicate (4 - (lg_sl ([.ref (E.1 4 655365 0), .int x1, .ref qo])).length) Slot.unset).toArray = ls at hl2 ⊢
  have hl2 : lv_has ls 4 [(0, .ref (E.1 4 655365 0)), (1, .int x1), (2, .ref qo)] := hl2
  have hVS : va_S (ux_A E) s.heap s.heap [] := va_S.rf
  refine lv_aload_n hx hb dh_122_0 rfl (lv_at hl2 2 rfl) ?_
  refine lv_iconst (v := 0) hx hb dh_122_1 (by decide) ?_
  refine lv_aload_n hx hb dh_122_2 rfl (lv_at hl2 0 rfl) ?_
  refine lv_iload_n hx hb dh_122_3 rfl (lv_at hl2 1 rfl) ?_
  obtain ⟨-, -, ⟨hc1, hc2⟩, hnc, -⟩ := hE s s.heap hK.2.2.2.2
  refine fx_thrv (d := 10) (y2 := y_122) (q := (4, 655365, 0)) (ci := 0) (As := [.inl x1]) (rest := [.int 0, .ref qo]) (k := 1) S hx_sub hts hK (by decide +kernel) wl_122 wm_122 we_122 mo_122 (by decide +kernel) (by decide) rfl (by decide) rfl rfl (Nat.le_of_ble_eq_true rfl) hM ⟨Nat.le_of_ble_eq_true rfl, Nat.le_of_ble_eq_true rfl⟩ ⟨Nat.le_of_ble_eq_true rfl, Nat.le_of_ble_eq_true rfl⟩ hRep hVS hl2.1 dh_122_4 (fun ce q9 H1 locs1 hR1 hS1 _ hk1 g1 g2 g3 => ?_)
  have ho1 := ho.keep hqo hk1
  refine vx_catch (name := fx_IO) (E := fx_IO) S.2.2.2.1 [] ⟨0, 9, 12, 13⟩ [] (by rw [htab]; rfl) (fun z hz => by cases hz) (by decide) (by decide) (hx_wd hts hx_c13 rfl) (va_Nw.use rfl hc1) g1 g2 g3 ?_
  refine lv_astore_n (lv' := [(3, .ref q9), (0, .ref (E.1 4 655365 0)), (1, .int x1), (2, .ref qo)]) hx hb dh_122_12 rfl hl2 (by decide) rfl (fun ls hl2 => ?_)
  refine lv_iconst (v := 1) hx hb dh_122_13 (by decide) ?_
  exact W.iret (hlocks := hlocks) hx hb hr (fun t ht hW => ⟨1, v0, M, rfl, ⟨rfl, rfl, rfl⟩, by rw [ht]; exact hR1, by rw [ht]; exact ho1, (hx_up hS1).F ht⟩) (hx_up hS1).2.2 dh_122_14
theorem hn_123 {l : Launch} {E : ux_E} {M : ux_M} {x1 : Int32} {qo : Nat} {v0 : Int64} {d : Nat} (hd37 : d ≤ 40) (hqo : ¬ ux_A E qo) {QQ : Int32 → ux_M → Prop} (hcall : ux_Call l E d y_123 [aR 4 655365 0, aI x1] M (ux_CI QQ)) : hx_Met l E yh_123 hh_123 [aR 4 655365 0, aI x1] qo v0 M (fun r v M1 => r = 0 ∧ ∃ a, QQ a M1 ∧ v = a.toInt64) := by
  refine hx_ofW (by decide +kernel) ?_
  intro p e s m args below meth c s₁ B hml hv
  obtain ⟨rfl, ⟨hRep, hK⟩, ho⟩ := hv
  have hx := B.exec
  have hb : c.code = yh_123.2.1 := B.bytes
  have hr := B.returns
  have hlocks := B.notSynchronized
  have S := hx_fix B hml
  have hts := atoms_spec (ws := hx_ws yh_123 hh_123) B.pre
  have htab : c.exceptionTable.toList = tableOf hh_123 := vx_table (x := yh_123.1) B (hts _ List.mem_cons_self)
  have hl2 := lv_entry ([.ref (E.1 4 655365 0), .int x1, .ref qo]) (n := 4) (Nat.le_of_ble_eq_true rfl)
  show W p l e (fx_room 60) s m _ below meth c s.heap [] 0 0 _ (entryFrame m ([.ref (E.1 4 655365 0), .int x1, .ref qo] : List Value).toArray 4)
  rw [lg_entry_eq]
  generalize (lg_sl ([.ref (E.1 4 655365 0), .int x1, .ref qo]) ++ List.replicate (4 - (lg_sl ([.ref (E.1 4 655365 0), .int x1, .ref qo])).length) Slot.unset).toArray = ls at hl2 ⊢
  have hl2 : lv_has ls 4 [(0, .ref (E.1 4 655365 0)), (1, .int x1), (2, .ref qo)] := hl2
  have hVS : va_S (ux_A E) s.heap s.heap [] := va_S.rf
  refine lv_aload_n hx hb dh_123_0 rfl (lv_at hl2 2 rfl) ?_
  refine lv_iconst (v := 0) hx hb dh_123_1 (by decide) ?_
  refine lv_aload_n hx hb dh_123_2 rfl (lv_at hl2 0 rfl) ?_
  refine lv_iload_n hx hb dh_123_3 rfl (lv_at hl2 1 rfl) ?_
  refine fx_callv (d := d) (y2 := y_123) (q := (4, 655365, 0)) (ci := 0) (As := [.inl x1]) (rest := [.int 0, .ref qo]) (k := 1) S hx_sub hts hK (by decide +kernel) wl_123 wm_123 we_123 (by decide +kernel) (by decide) rfl (by decide) rfl rfl (fun v hv => by rw [List.mem_singleton.mp hv]; trivial) (Nat.le_of_ble_eq_true rfl) hcall ⟨by show d + 5 ≤ 60; omega, by show 60 * d + 360 ≤ 60 * 60 + 300; omega⟩ ⟨Nat.zero_le _, Nat.zero_le _⟩ hRep hVS hl2.1 dh_123_4 (fun r0 M1 H1 locs1 hq hR1 hS1 _ hk1 => ?_)
  obtain ⟨a, rfl, hq⟩ := hq
  have ho1 := ho.keep hqo hk1
  refine lv_i2l hx hb dh_123_7 rfl ?_
  refine hx_last hx hb hK hqo ho1 hR1 (hx_up hS1) dh_123_8 (fun H2 locs2 hR2 ho2 hS2 => ?_)
  refine lv_goto (tgt := 15) hx hb dh_123_9 (by decide) ?_
  refine lv_iconst (v := 0) hx hb dh_123_15 (by decide) ?_
  refine W.widen (k := 1) (n := 6) (Nat.zero_le _) (Nat.zero_le _) ?_
  exact W.iret (hlocks := hlocks) hx hb hr (fun t ht hW => ⟨0, _, M1, rfl, ⟨rfl, a, hq, rfl⟩, by rw [ht]; exact hR2, by rw [ht]; exact ho2, hS2.F ht⟩) hS2.2.2 dh_123_16
theorem ht_123_0 {l : Launch} {E : ux_E} {M : ux_M} {x1 : Int32} {qo : Nat} {v0 : Int64} (hE : ux_THok E) (hqo : ¬ ux_A E qo) (hM : fx_Met l E y_123 10 [aR 4 655365 0, aI x1] M fx_IA) : hx_Met l E yh_123 hh_123 [aR 4 655365 0, aI x1] qo v0 M (fun r v M1 => r = 1 ∧ v = v0 ∧ M1 = M) := by
  refine hx_ofW (by decide +kernel) ?_
  intro p e s m args below meth c s₁ B hml hv
  obtain ⟨rfl, ⟨hRep, hK⟩, ho⟩ := hv
  have hx := B.exec
  have hb : c.code = yh_123.2.1 := B.bytes
  have hr := B.returns
  have hlocks := B.notSynchronized
  have S := hx_fix B hml
  have hts := atoms_spec (ws := hx_ws yh_123 hh_123) B.pre
  have htab : c.exceptionTable.toList = tableOf hh_123 := vx_table (x := yh_123.1) B (hts _ List.mem_cons_self)
  have hl2 := lv_entry ([.ref (E.1 4 655365 0), .int x1, .ref qo]) (n := 4) (Nat.le_of_ble_eq_true rfl)
  show W p l e (fx_room 60) s m _ below meth c s.heap [] 0 0 _ (entryFrame m ([.ref (E.1 4 655365 0), .int x1, .ref qo] : List Value).toArray 4)
  rw [lg_entry_eq]
  generalize (lg_sl ([.ref (E.1 4 655365 0), .int x1, .ref qo]) ++ List.replicate (4 - (lg_sl ([.ref (E.1 4 655365 0), .int x1, .ref qo])).length) Slot.unset).toArray = ls at hl2 ⊢
  have hl2 : lv_has ls 4 [(0, .ref (E.1 4 655365 0)), (1, .int x1), (2, .ref qo)] := hl2
  have hVS : va_S (ux_A E) s.heap s.heap [] := va_S.rf
  refine lv_aload_n hx hb dh_123_0 rfl (lv_at hl2 2 rfl) ?_
  refine lv_iconst (v := 0) hx hb dh_123_1 (by decide) ?_
  refine lv_aload_n hx hb dh_123_2 rfl (lv_at hl2 0 rfl) ?_
  refine lv_iload_n hx hb dh_123_3 rfl (lv_at hl2 1 rfl) ?_
  obtain ⟨-, -, ⟨hc1, hc2⟩, hnc, -⟩ := hE s s.heap hK.2.2.2.2
  refine fx_thrv (d := 10) (y2 := y_123) (q := (4, 655365, 0)) (ci := 0) (As := [.inl x1]) (rest := [.int 0, .ref qo]) (k := 1) S hx_sub hts hK (by decide +kernel) wl_123 wm_123 we_123 mo_123 (by decide +kernel) (by decide) rfl (by decide) rfl rfl (Nat.le_of_ble_eq_true rfl) hM ⟨Nat.le_of_ble_eq_true rfl, Nat.le_of_ble_eq_true rfl⟩ ⟨Nat.le_of_ble_eq_true rfl, Nat.le_of_ble_eq_true rfl⟩ hRep hVS hl2.1 dh_123_4 (fun ce q9 H1 locs1 hR1 hS1 _ hk1 g1 g2 g3 => ?_)
  have ho1 := ho.keep hqo hk1
  refine vx_catch (name := fx_IA) (E := fx_IA) S.2.2.2.1 [] ⟨0, 9, 12, 22⟩ [] (by rw [htab]; rfl) (fun z hz => by cases hz) (by decide) (by decide) (hx_wd hts hx_c22 rfl) (va_Nw.use rfl hc2) g1 g2 g3 ?_
  refine lv_astore_n (lv' := [(3, .ref q9), (0, .ref (E.1 4 655365 0)), (1, .int x1), (2, .ref qo)]) hx hb dh_123_12 rfl hl2 (by decide) rfl (fun ls hl2 => ?_)
  refine lv_iconst (v := 1) hx hb dh_123_13 (by decide) ?_
  exact W.iret (hlocks := hlocks) hx hb hr (fun t ht hW => ⟨1, v0, M, rfl, ⟨rfl, rfl, rfl⟩, by rw [ht]; exact hR1, by rw [ht]; exact ho1, (hx_up hS1).F ht⟩) (hx_up hS1).2.2 dh_123_14
theorem hn_124 {l : Launch} {E : ux_E} {M : ux_M} {x1 : Int32} {qo : Nat} {v0 : Int64} {d : Nat} (hd37 : d ≤ 40) (hqo : ¬ ux_A E qo) {QQ : Int32 → ux_M → Prop} (hcall : ux_Call l E d y_124 [aR 4 655365 0, aI x1] M (ux_CI QQ)) : hx_Met l E yh_124 hh_124 [aR 4 655365 0, aI x1] qo v0 M (fun r v M1 => r = 0 ∧ ∃ a, QQ a M1 ∧ v = a.toInt64) := by
  refine hx_ofW (by decide +kernel) ?_
  intro p e s m args below meth c s₁ B hml hv
  obtain ⟨rfl, ⟨hRep, hK⟩, ho⟩ := hv
  have hx := B.exec
  have hb : c.code = yh_124.2.1 := B.bytes
  have hr := B.returns
  have hlocks := B.notSynchronized
  have S := hx_fix B hml
  have hts := atoms_spec (ws := hx_ws yh_124 hh_124) B.pre
  have htab : c.exceptionTable.toList = tableOf hh_124 := vx_table (x := yh_124.1) B (hts _ List.mem_cons_self)
  have hl2 := lv_entry ([.ref (E.1 4 655365 0), .int x1, .ref qo]) (n := 4) (Nat.le_of_ble_eq_true rfl)
  show W p l e (fx_room 60) s m _ below meth c s.heap [] 0 0 _ (entryFrame m ([.ref (E.1 4 655365 0), .int x1, .ref qo] : List Value).toArray 4)
  rw [lg_entry_eq]
  generalize (lg_sl ([.ref (E.1 4 655365 0), .int x1, .ref qo]) ++ List.replicate (4 - (lg_sl ([.ref (E.1 4 655365 0), .int x1, .ref qo])).length) Slot.unset).toArray = ls at hl2 ⊢
  have hl2 : lv_has ls 4 [(0, .ref (E.1 4 655365 0)), (1, .int x1), (2, .ref qo)] := hl2
  have hVS : va_S (ux_A E) s.heap s.heap [] := va_S.rf
  refine lv_aload_n hx hb dh_124_0 rfl (lv_at hl2 2 rfl) ?_
  refine lv_iconst (v := 0) hx hb dh_124_1 (by decide) ?_
  refine lv_aload_n hx hb dh_124_2 rfl (lv_at hl2 0 rfl) ?_
  refine lv_iload_n hx hb dh_124_3 rfl (lv_at hl2 1 rfl) ?_
  refine fx_callv (d := d) (y2 := y_124) (q := (4, 655365, 0)) (ci := 0) (As := [.inl x1]) (rest := [.int 0, .ref qo]) (k := 1) S hx_sub hts hK (by decide +kernel) wl_124 wm_124 we_124 (by decide +kernel) (by decide) rfl (by decide) rfl rfl (fun v hv => by rw [List.mem_singleton.mp hv]; trivial) (Nat.le_of_ble_eq_true rfl) hcall ⟨by show d + 5 ≤ 60; omega, by show 60 * d + 360 ≤ 60 * 60 + 300; omega⟩ ⟨Nat.zero_le _, Nat.zero_le _⟩ hRep hVS hl2.1 dh_124_4 (fun r0 M1 H1 locs1 hq hR1 hS1 _ hk1 => ?_)
  obtain ⟨a, rfl, hq⟩ := hq
  have ho1 := ho.keep hqo hk1
  refine lv_i2l hx hb dh_124_7 rfl ?_
  refine hx_last hx hb hK hqo ho1 hR1 (hx_up hS1) dh_124_8 (fun H2 locs2 hR2 ho2 hS2 => ?_)
  refine lv_goto (tgt := 15) hx hb dh_124_9 (by decide) ?_
  refine lv_iconst (v := 0) hx hb dh_124_15 (by decide) ?_
  refine W.widen (k := 1) (n := 6) (Nat.zero_le _) (Nat.zero_le _) ?_
  exact W.iret (hlocks := hlocks) hx hb hr (fun t ht hW => ⟨0, _, M1, rfl, ⟨rfl, a, hq, rfl⟩, by rw [ht]; exact hR2, by rw [ht]; exact ho2, hS2.F ht⟩) hS2.2.2 dh_124_16
theorem ht_124_0 {l : Launch} {E : ux_E} {M : ux_M} {x1 : Int32} {qo : Nat} {v0 : Int64} (hE : ux_THok E) (hqo : ¬ ux_A E qo) (hM : fx_Met l E y_124 10 [aR 4 655365 0, aI x1] M fx_IO) : hx_Met l E yh_124 hh_124 [aR 4 655365 0, aI x1] qo v0 M (fun r v M1 => r = 1 ∧ v = v0 ∧ M1 = M) := by
  refine hx_ofW (by decide +kernel) ?_
  intro p e s m args below meth c s₁ B hml hv
  obtain ⟨rfl, ⟨hRep, hK⟩, ho⟩ := hv
  have hx := B.exec
  have hb : c.code = yh_124.2.1 := B.bytes
  have hr := B.returns
  have hlocks := B.notSynchronized
  have S := hx_fix B hml
  have hts := atoms_spec (ws := hx_ws yh_124 hh_124) B.pre
  have htab : c.exceptionTable.toList = tableOf hh_124 := vx_table (x := yh_124.1) B (hts _ List.mem_cons_self)
  have hl2 := lv_entry ([.ref (E.1 4 655365 0), .int x1, .ref qo]) (n := 4) (Nat.le_of_ble_eq_true rfl)
  show W p l e (fx_room 60) s m _ below meth c s.heap [] 0 0 _ (entryFrame m ([.ref (E.1 4 655365 0), .int x1, .ref qo] : List Value).toArray 4)
  rw [lg_entry_eq]
  generalize (lg_sl ([.ref (E.1 4 655365 0), .int x1, .ref qo]) ++ List.replicate (4 - (lg_sl ([.ref (E.1 4 655365 0), .int x1, .ref qo])).length) Slot.unset).toArray = ls at hl2 ⊢
  have hl2 : lv_has ls 4 [(0, .ref (E.1 4 655365 0)), (1, .int x1), (2, .ref qo)] := hl2
  have hVS : va_S (ux_A E) s.heap s.heap [] := va_S.rf
  refine lv_aload_n hx hb dh_124_0 rfl (lv_at hl2 2 rfl) ?_
  refine lv_iconst (v := 0) hx hb dh_124_1 (by decide) ?_
  refine lv_aload_n hx hb dh_124_2 rfl (lv_at hl2 0 rfl) ?_
  refine lv_iload_n hx hb dh_124_3 rfl (lv_at hl2 1 rfl) ?_
  obtain ⟨-, -, ⟨hc1, hc2⟩, hnc, -⟩ := hE s s.heap hK.2.2.2.2
  refine fx_thrv (d := 10) (y2 := y_124) (q := (4, 655365, 0)) (ci := 0) (As := [.inl x1]) (rest := [.int 0, .ref qo]) (k := 1) S hx_sub hts hK (by decide +kernel) wl_124 wm_124 we_124 mo_124 (by decide +kernel) (by decide) rfl (by decide) rfl rfl (Nat.le_of_ble_eq_true rfl) hM ⟨Nat.le_of_ble_eq_true rfl, Nat.le_of_ble_eq_true rfl⟩ ⟨Nat.le_of_ble_eq_true rfl, Nat.le_of_ble_eq_true rfl⟩ hRep hVS hl2.1 dh_124_4 (fun ce q9 H1 locs1 hR1 hS1 _ hk1 g1 g2 g3 => ?_)
  have ho1 := ho.keep hqo hk1
  refine vx_catch (name := fx_IO) (E := fx_IO) S.2.2.2.1 [] ⟨0, 9, 12, 13⟩ [] (by rw [htab]; rfl) (fun z hz => by cases hz) (by decide) (by decide) (hx_wd hts hx_c13 rfl) (va_Nw.use rfl hc1) g1 g2 g3 ?_
  refine lv_astore_n (lv' := [(3, .ref q9), (0, .ref (E.1 4 655365 0)), (1, .int x1), (2, .ref qo)]) hx hb dh_124_12 rfl hl2 (by decide) rfl (fun ls hl2 => ?_)
  refine lv_iconst (v := 1) hx hb dh_124_13 (by decide) ?_
  exact W.iret (hlocks := hlocks) hx hb hr (fun t ht hW => ⟨1, v0, M, rfl, ⟨rfl, rfl, rfl⟩, by rw [ht]; exact hR1, by rw [ht]; exact ho1, (hx_up hS1).F ht⟩) (hx_up hS1).2.2 dh_124_14
theorem hn_125 {l : Launch} {E : ux_E} {M : ux_M} {x1 : Int32} {qo : Nat} {v0 : Int64} {d : Nat} (hd37 : d ≤ 40) (hqo : ¬ ux_A E qo) {QQ : Int32 → ux_M → Prop} (hcall : ux_Call l E d y_125 [aR 4 655365 0, aI x1] M (ux_CI QQ)) : hx_Met l E yh_125 hh_125 [aR 4 655365 0, aI x1] qo v0 M (fun r v M1 => r = 0 ∧ ∃ a, QQ a M1 ∧ v = a.toInt64) := by
  refine hx_ofW (by decide +kernel) ?_
  intro p e s m args below meth c s₁ B hml hv
  obtain ⟨rfl, ⟨hRep, hK⟩, ho⟩ := hv
  have hx := B.exec
  have hb : c.code = yh_125.2.1 := B.bytes
  have hr := B.returns
  have hlocks := B.notSynchronized
  have S := hx_fix B hml
  have hts := atoms_spec (ws := hx_ws yh_125 hh_125) B.pre
  have htab : c.exceptionTable.toList = tableOf hh_125 := vx_table (x := yh_125.1) B (hts _ List.mem_cons_self)
  have hl2 := lv_entry ([.ref (E.1 4 655365 0), .int x1, .ref qo]) (n := 4) (Nat.le_of_ble_eq_true rfl)
  show W p l e (fx_room 60) s m _ below meth c s.heap [] 0 0 _ (entryFrame m ([.ref (E.1 4 655365 0), .int x1, .ref qo] : List Value).toArray 4)
  rw [lg_entry_eq]
  generalize (lg_sl ([.ref (E.1 4 655365 0), .int x1, .ref qo]) ++ List.replicate (4 - (lg_sl ([.ref (E.1 4 655365 0), .int x1, .ref qo])).length) Slot.unset).toArray = ls at hl2 ⊢
  have hl2 : lv_has ls 4 [(0, .ref (E.1 4 655365 0)), (1, .int x1), (2, .ref qo)] := hl2
  have hVS : va_S (ux_A E) s.heap s.heap [] := va_S.rf
  refine lv_aload_n hx hb dh_125_0 rfl (lv_at hl2 2 rfl) ?_
  refine lv_iconst (v := 0) hx hb dh_125_1 (by decide) ?_
  refine lv_aload_n hx hb dh_125_2 rfl (lv_at hl2 0 rfl) ?_
  refine lv_iload_n hx hb dh_125_3 rfl (lv_at hl2 1 rfl) ?_
  refine fx_callv (d := d) (y2 := y_125) (q := (4, 655365, 0)) (ci := 0) (As := [.inl x1]) (rest := [.int 0, .ref qo]) (k := 1) S hx_sub hts hK (by decide +kernel) wl_125 wm_125 we_125 (by decide +kernel) (by decide) rfl (by decide) rfl rfl (fun v hv => by rw [List.mem_singleton.mp hv]; trivial) (Nat.le_of_ble_eq_true rfl) hcall ⟨by show d + 5 ≤ 60; omega, by show 60 * d + 360 ≤ 60 * 60 + 300; omega⟩ ⟨Nat.zero_le _, Nat.zero_le _⟩ hRep hVS hl2.1 dh_125_4 (fun r0 M1 H1 locs1 hq hR1 hS1 _ hk1 => ?_)
  obtain ⟨a, rfl, hq⟩ := hq
  have ho1 := ho.keep hqo hk1
  refine lv_i2l hx hb dh_125_7 rfl ?_
  refine hx_last hx hb hK hqo ho1 hR1 (hx_up hS1) dh_125_8 (fun H2 locs2 hR2 ho2 hS2 => ?_)
  refine lv_goto (tgt := 15) hx hb dh_125_9 (by decide) ?_
  refine lv_iconst (v := 0) hx hb dh_125_15 (by decide) ?_
  refine W.widen (k := 1) (n := 6) (Nat.zero_le _) (Nat.zero_le _) ?_
  exact W.iret (hlocks := hlocks) hx hb hr (fun t ht hW => ⟨0, _, M1, rfl, ⟨rfl, a, hq, rfl⟩, by rw [ht]; exact hR2, by rw [ht]; exact ho2, hS2.F ht⟩) hS2.2.2 dh_125_16
theorem ht_125_0 {l : Launch} {E : ux_E} {M : ux_M} {x1 : Int32} {qo : Nat} {v0 : Int64} (hE : ux_THok E) (hqo : ¬ ux_A E qo) (hM : fx_Met l E y_125 10 [aR 4 655365 0, aI x1] M fx_IO) : hx_Met l E yh_125 hh_125 [aR 4 655365 0, aI x1] qo v0 M (fun r v M1 => r = 1 ∧ v = v0 ∧ M1 = M) := by
  refine hx_ofW (by decide +kernel) ?_
  intro p e s m args below meth c s₁ B hml hv
  obtain ⟨rfl, ⟨hRep, hK⟩, ho⟩ := hv
  have hx := B.exec
  have hb : c.code = yh_125.2.1 := B.bytes
  have hr := B.returns
  have hlocks := B.notSynchronized
  have S := hx_fix B hml
  have hts := atoms_spec (ws := hx_ws yh_125 hh_125) B.pre
  have htab : c.exceptionTable.toList = tableOf hh_125 := vx_table (x := yh_125.1) B (hts _ List.mem_cons_self)
  have hl2 := lv_entry ([.ref (E.1 4 655365 0), .int x1, .ref qo]) (n := 4) (Nat.le_of_ble_eq_true rfl)
  show W p l e (fx_room 60) s m _ below meth c s.heap [] 0 0 _ (entryFrame m ([.ref (E.1 4 655365 0), .int x1, .ref qo] : List Value).toArray 4)
  rw [lg_entry_eq]
  generalize (lg_sl ([.ref (E.1 4 655365 0), .int x1, .ref qo]) ++ List.replicate (4 - (lg_sl ([.ref (E.1 4 655365 0), .int x1, .ref qo])).length) Slot.unset).toArray = ls at hl2 ⊢
  have hl2 : lv_has ls 4 [(0, .ref (E.1 4 655365 0)), (1, .int x1), (2, .ref qo)] := hl2
  have hVS : va_S (ux_A E) s.heap s.heap [] := va_S.rf
  refine lv_aload_n hx hb dh_125_0 rfl (lv_at hl2 2 rfl) ?_
  refine lv_iconst (v := 0) hx hb dh_125_1 (by decide) ?_
  refine lv_aload_n hx hb dh_125_2 rfl (lv_at hl2 0 rfl) ?_
  refine lv_iload_n hx hb dh_125_3 rfl (lv_at hl2 1 rfl) ?_
  obtain ⟨-, -, ⟨hc1, hc2⟩, hnc, -⟩ := hE s s.heap hK.2.2.2.2
  refine fx_thrv (d := 10) (y2 := y_125) (q := (4, 655365, 0)) (ci := 0) (As := [.inl x1]) (rest := [.int 0, .ref qo]) (k := 1) S hx_sub hts hK (by decide +kernel) wl_125 wm_125 we_125 mo_125 (by decide +kernel) (by decide) rfl (by decide) rfl rfl (Nat.le_of_ble_eq_true rfl) hM ⟨Nat.le_of_ble_eq_true rfl, Nat.le_of_ble_eq_true rfl⟩ ⟨Nat.le_of_ble_eq_true rfl, Nat.le_of_ble_eq_true rfl⟩ hRep hVS hl2.1 dh_125_4 (fun ce q9 H1 locs1 hR1 hS1 _ hk1 g1 g2 g3 => ?_)
  have ho1 := ho.keep hqo hk1
  refine vx_catch (name := fx_IO) (E := fx_IO) S.2.2.2.1 [] ⟨0, 9, 12, 13⟩ [] (by rw [htab]; rfl) (fun z hz => by cases hz) (by decide) (by decide) (hx_wd hts hx_c13 rfl) (va_Nw.use rfl hc1) g1 g2 g3 ?_
  refine lv_astore_n (lv' := [(3, .ref q9), (0, .ref (E.1 4 655365 0)), (1, .int x1), (2, .ref qo)]) hx hb dh_125_12 rfl hl2 (by decide) rfl (fun ls hl2 => ?_)
  refine lv_iconst (v := 1) hx hb dh_125_13 (by decide) ?_
  exact W.iret (hlocks := hlocks) hx hb hr (fun t ht hW => ⟨1, v0, M, rfl, ⟨rfl, rfl, rfl⟩, by rw [ht]; exact hR1, by rw [ht]; exact ho1, (hx_up hS1).F ht⟩) (hx_up hS1).2.2 dh_125_14
theorem hn_126 {l : Launch} {E : ux_E} {M : ux_M} {x1 : Int32} {qo : Nat} {v0 : Int64} {d : Nat} (hd37 : d ≤ 40) (hqo : ¬ ux_A E qo) {QQ : Int32 → ux_M → Prop} (hcall : ux_Call l E d y_126 [aR 4 655365 0, aI x1] M (ux_CI QQ)) : hx_Met l E yh_126 hh_126 [aR 4 655365 0, aI x1] qo v0 M (fun r v M1 => r = 0 ∧ ∃ a, QQ a M1 ∧ v = a.toInt64) := by
  refine hx_ofW (by decide +kernel) ?_
  intro p e s m args below meth c s₁ B hml hv
  obtain ⟨rfl, ⟨hRep, hK⟩, ho⟩ := hv
  have hx := B.exec
  have hb : c.code = yh_126.2.1 := B.bytes
  have hr := B.returns
  have hlocks := B.notSynchronized
  have S := hx_fix B hml
  have hts := atoms_spec (ws := hx_ws yh_126 hh_126) B.pre
  have htab : c.exceptionTable.toList = tableOf hh_126 := vx_table (x := yh_126.1) B (hts _ List.mem_cons_self)
  have hl2 := lv_entry ([.ref (E.1 4 655365 0), .int x1, .ref qo]) (n := 4) (Nat.le_of_ble_eq_true rfl)
  show W p l e (fx_room 60) s m _ below meth c s.heap [] 0 0 _ (entryFrame m ([.ref (E.1 4 655365 0), .int x1, .ref qo] : List Value).toArray 4)
  rw [lg_entry_eq]
  generalize (lg_sl ([.ref (E.1 4 655365 0), .int x1, .ref qo]) ++ List.replicate (4 - (lg_sl ([.ref (E.1 4 655365 0), .int x1, .ref qo])).length) Slot.unset).toArray = ls at hl2 ⊢
  have hl2 : lv_has ls 4 [(0, .ref (E.1 4 655365 0)), (1, .int x1), (2, .ref qo)] := hl2
  have hVS : va_S (ux_A E) s.heap s.heap [] := va_S.rf
  refine lv_aload_n hx hb dh_126_0 rfl (lv_at hl2 2 rfl) ?_
  refine lv_iconst (v := 0) hx hb dh_126_1 (by decide) ?_
  refine lv_aload_n hx hb dh_126_2 rfl (lv_at hl2 0 rfl) ?_
  refine lv_iload_n hx hb dh_126_3 rfl (lv_at hl2 1 rfl) ?_
  refine fx_callv (d := d) (y2 := y_126) (q := (4, 655365, 0)) (ci := 0) (As := [.inl x1]) (rest := [.int 0, .ref qo]) (k := 1) S hx_sub hts hK (by decide +kernel) wl_126 wm_126 we_126 (by decide +kernel) (by decide) rfl (by decide) rfl rfl (fun v hv => by rw [List.mem_singleton.mp hv]; trivial) (Nat.le_of_ble_eq_true rfl) hcall ⟨by show d + 5 ≤ 60; omega, by show 60 * d + 360 ≤ 60 * 60 + 300; omega⟩ ⟨Nat.zero_le _, Nat.zero_le _⟩ hRep hVS hl2.1 dh_126_4 (fun r0 M1 H1 locs1 hq hR1 hS1 _ hk1 => ?_)
  obtain ⟨a, rfl, hq⟩ := hq
  have ho1 := ho.keep hqo hk1
  refine lv_i2l hx hb dh_126_7 rfl ?_
  refine hx_last hx hb hK hqo ho1 hR1 (hx_up hS1) dh_126_8 (fun H2 locs2 hR2 ho2 hS2 => ?_)
  refine lv_goto (tgt := 15) hx hb dh_126_9 (by decide) ?_
  refine lv_iconst (v := 0) hx hb dh_126_15 (by decide) ?_
  refine W.widen (k := 1) (n := 6) (Nat.zero_le _) (Nat.zero_le _) ?_
  exact W.iret (hlocks := hlocks) hx hb hr (fun t ht hW => ⟨0, _, M1, rfl, ⟨rfl, a, hq, rfl⟩, by rw [ht]; exact hR2, by rw [ht]; exact ho2, hS2.F ht⟩) hS2.2.2 dh_126_16
theorem ht_126_0 {l : Launch} {E : ux_E} {M : ux_M} {x1 : Int32} {qo : Nat} {v0 : Int64} (hE : ux_THok E) (hqo : ¬ ux_A E qo) (hM : fx_Met l E y_126 10 [aR 4 655365 0, aI x1] M fx_IO) : hx_Met l E yh_126 hh_126 [aR 4 655365 0, aI x1] qo v0 M (fun r v M1 => r = 1 ∧ v = v0 ∧ M1 = M) := by
  refine hx_ofW (by decide +kernel) ?_
  intro p e s m args below meth c s₁ B hml hv
  obtain ⟨rfl, ⟨hRep, hK⟩, ho⟩ := hv
  have hx := B.exec
  have hb : c.code = yh_126.2.1 := B.bytes
  have hr := B.returns
  have hlocks := B.notSynchronized
  have S := hx_fix B hml
  have hts := atoms_spec (ws := hx_ws yh_126 hh_126) B.pre
  have htab : c.exceptionTable.toList = tableOf hh_126 := vx_table (x := yh_126.1) B (hts _ List.mem_cons_self)
  have hl2 := lv_entry ([.ref (E.1 4 655365 0), .int x1, .ref qo]) (n := 4) (Nat.le_of_ble_eq_true rfl)
  show W p l e (fx_room 60) s m _ below meth c s.heap [] 0 0 _ (entryFrame m ([.ref (E.1 4 655365 0), .int x1, .ref qo] : List Value).toArray 4)
  rw [lg_entry_eq]
  generalize (lg_sl ([.ref (E.1 4 655365 0), .int x1, .ref qo]) ++ List.replicate (4 - (lg_sl ([.ref (E.1 4 655365 0), .int x1, .ref qo])).length) Slot.unset).toArray = ls at hl2 ⊢
  have hl2 : lv_has ls 4 [(0, .ref (E.1 4 655365 0)), (1, .int x1), (2, .ref qo)] := hl2
  have hVS : va_S (ux_A E) s.heap s.heap [] := va_S.rf
  refine lv_aload_n hx hb dh_126_0 rfl (lv_at hl2 2 rfl) ?_
  refine lv_iconst (v := 0) hx hb dh_126_1 (by decide) ?_
  refine lv_aload_n hx hb dh_126_2 rfl (lv_at hl2 0 rfl) ?_
  refine lv_iload_n hx hb dh_126_3 rfl (lv_at hl2 1 rfl) ?_
  obtain ⟨-, -, ⟨hc1, hc2⟩, hnc, -⟩ := hE s s.heap hK.2.2.2.2
  refine fx_thrv (d := 10) (y2 := y_126) (q := (4, 655365, 0)) (ci := 0) (As := [.inl x1]) (rest := [.int 0, .ref qo]) (k := 1) S hx_sub hts hK (by decide +kernel) wl_126 wm_126 we_126 mo_126 (by decide +kernel) (by decide) rfl (by decide) rfl rfl (Nat.le_of_ble_eq_true rfl) hM ⟨Nat.le_of_ble_eq_true rfl, Nat.le_of_ble_eq_true rfl⟩ ⟨Nat.le_of_ble_eq_true rfl, Nat.le_of_ble_eq_true rfl⟩ hRep hVS hl2.1 dh_126_4 (fun ce q9 H1 locs1 hR1 hS1 _ hk1 g1 g2 g3 => ?_)
  have ho1 := ho.keep hqo hk1
  refine vx_catch (name := fx_IO) (E := fx_IO) S.2.2.2.1 [] ⟨0, 9, 12, 13⟩ [] (by rw [htab]; rfl) (fun z hz => by cases hz) (by decide) (by decide) (hx_wd hts hx_c13 rfl) (va_Nw.use rfl hc1) g1 g2 g3 ?_
  refine lv_astore_n (lv' := [(3, .ref q9), (0, .ref (E.1 4 655365 0)), (1, .int x1), (2, .ref qo)]) hx hb dh_126_12 rfl hl2 (by decide) rfl (fun ls hl2 => ?_)
  refine lv_iconst (v := 1) hx hb dh_126_13 (by decide) ?_
  exact W.iret (hlocks := hlocks) hx hb hr (fun t ht hW => ⟨1, v0, M, rfl, ⟨rfl, rfl, rfl⟩, by rw [ht]; exact hR1, by rw [ht]; exact ho1, (hx_up hS1).F ht⟩) (hx_up hS1).2.2 dh_126_14
theorem hn_127 {l : Launch} {E : ux_E} {M : ux_M} {x1 : Int32} {qo : Nat} {v0 : Int64} {d : Nat} (hd37 : d ≤ 40) (hqo : ¬ ux_A E qo) {QQ : Int32 → ux_M → Prop} (hcall : ux_Call l E d y_127 [aR 4 655365 0, aI x1] M (ux_CI QQ)) : hx_Met l E yh_127 hh_127 [aR 4 655365 0, aI x1] qo v0 M (fun r v M1 => r = 0 ∧ ∃ a, QQ a M1 ∧ v = a.toInt64) := by
  refine hx_ofW (by decide +kernel) ?_
  intro p e s m args below meth c s₁ B hml hv
  obtain ⟨rfl, ⟨hRep, hK⟩, ho⟩ := hv
  have hx := B.exec
  have hb : c.code = yh_127.2.1 := B.bytes
  have hr := B.returns
  have hlocks := B.notSynchronized
  have S := hx_fix B hml
  have hts := atoms_spec (ws := hx_ws yh_127 hh_127) B.pre
  have htab : c.exceptionTable.toList = tableOf hh_127 := vx_table (x := yh_127.1) B (hts _ List.mem_cons_self)
  have hl2 := lv_entry ([.ref (E.1 4 655365 0), .int x1, .ref qo]) (n := 4) (Nat.le_of_ble_eq_true rfl)
  show W p l e (fx_room 60) s m _ below meth c s.heap [] 0 0 _ (entryFrame m ([.ref (E.1 4 655365 0), .int x1, .ref qo] : List Value).toArray 4)
  rw [lg_entry_eq]
  generalize (lg_sl ([.ref (E.1 4 655365 0), .int x1, .ref qo]) ++ List.replicate (4 - (lg_sl ([.ref (E.1 4 655365 0), .int x1, .ref qo])).length) Slot.unset).toArray = ls at hl2 ⊢
  have hl2 : lv_has ls 4 [(0, .ref (E.1 4 655365 0)), (1, .int x1), (2, .ref qo)] := hl2
  have hVS : va_S (ux_A E) s.heap s.heap [] := va_S.rf
  refine lv_aload_n hx hb dh_127_0 rfl (lv_at hl2 2 rfl) ?_
  refine lv_iconst (v := 0) hx hb dh_127_1 (by decide) ?_
  refine lv_aload_n hx hb dh_127_2 rfl (lv_at hl2 0 rfl) ?_
  refine lv_iload_n hx hb dh_127_3 rfl (lv_at hl2 1 rfl) ?_
  refine fx_callv (d := d) (y2 := y_127) (q := (4, 655365, 0)) (ci := 0) (As := [.inl x1]) (rest := [.int 0, .ref qo]) (k := 1) S hx_sub hts hK (by decide +kernel) wl_127 wm_127 we_127 (by decide +kernel) (by decide) rfl (by decide) rfl rfl (fun v hv => by rw [List.mem_singleton.mp hv]; trivial) (Nat.le_of_ble_eq_true rfl) hcall ⟨by show d + 5 ≤ 60; omega, by show 60 * d + 360 ≤ 60 * 60 + 300; omega⟩ ⟨Nat.zero_le _, Nat.zero_le _⟩ hRep hVS hl2.1 dh_127_4 (fun r0 M1 H1 locs1 hq hR1 hS1 _ hk1 => ?_)
  obtain ⟨a, rfl, hq⟩ := hq
  have ho1 := ho.keep hqo hk1
  refine lv_i2l hx hb dh_127_7 rfl ?_
  refine hx_last hx hb hK hqo ho1 hR1 (hx_up hS1) dh_127_8 (fun H2 locs2 hR2 ho2 hS2 => ?_)
  refine lv_goto (tgt := 15) hx hb dh_127_9 (by decide) ?_
  refine lv_iconst (v := 0) hx hb dh_127_15 (by decide) ?_
  refine W.widen (k := 1) (n := 6) (Nat.zero_le _) (Nat.zero_le _) ?_
  exact W.iret (hlocks := hlocks) hx hb hr (fun t ht hW => ⟨0, _, M1, rfl, ⟨rfl, a, hq, rfl⟩, by rw [ht]; exact hR2, by rw [ht]; exact ho2, hS2.F ht⟩) hS2.2.2 dh_127_16
theorem ht_127_0 {l : Launch} {E : ux_E} {M : ux_M} {x1 : Int32} {qo : Nat} {v0 : Int64} (hE : ux_THok E) (hqo : ¬ ux_A E qo) (hM : fx_Met l E y_127 10 [aR 4 655365 0, aI x1] M fx_IO) : hx_Met l E yh_127 hh_127 [aR 4 655365 0, aI x1] qo v0 M (fun r v M1 => r = 1 ∧ v = v0 ∧ M1 = M) := by
  refine hx_ofW (by decide +kernel) ?_
  intro p e s m args below meth c s₁ B hml hv
  obtain ⟨rfl, ⟨hRep, hK⟩, ho⟩ := hv
  have hx := B.exec
  have hb : c.code = yh_127.2.1 := B.bytes
  have hr := B.returns
  have hlocks := B.notSynchronized
  have S := hx_fix B hml
  have hts := atoms_spec (ws := hx_ws yh_127 hh_127) B.pre
  have htab : c.exceptionTable.toList = tableOf hh_127 := vx_table (x := yh_127.1) B (hts _ List.mem_cons_self)
  have hl2 := lv_entry ([.ref (E.1 4 655365 0), .int x1, .ref qo]) (n := 4) (Nat.le_of_ble_eq_true rfl)
  show W p l e (fx_room 60) s m _ below meth c s.heap [] 0 0 _ (entryFrame m ([.ref (E.1 4 655365 0), .int x1, .ref qo] : List Value).toArray 4)
  rw [lg_entry_eq]
  generalize (lg_sl ([.ref (E.1 4 655365 0), .int x1, .ref qo]) ++ List.replicate (4 - (lg_sl ([.ref (E.1 4 655365 0), .int x1, .ref qo])).length) Slot.unset).toArray = ls at hl2 ⊢
  have hl2 : lv_has ls 4 [(0, .ref (E.1 4 655365 0)), (1, .int x1), (2, .ref qo)] := hl2
  have hVS : va_S (ux_A E) s.heap s.heap [] := va_S.rf
  refine lv_aload_n hx hb dh_127_0 rfl (lv_at hl2 2 rfl) ?_
  refine lv_iconst (v := 0) hx hb dh_127_1 (by decide) ?_
  refine lv_aload_n hx hb dh_127_2 rfl (lv_at hl2 0 rfl) ?_
  refine lv_iload_n hx hb dh_127_3 rfl (lv_at hl2 1 rfl) ?_
  obtain ⟨-, -, ⟨hc1, hc2⟩, hnc, -⟩ := hE s s.heap hK.2.2.2.2
  refine fx_thrv (d := 10) (y2 := y_127) (q := (4, 655365, 0)) (ci := 0) (As := [.inl x1]) (rest := [.int 0, .ref qo]) (k := 1) S hx_sub hts hK (by decide +kernel) wl_127 wm_127 we_127 mo_127 (by decide +kernel) (by decide) rfl (by decide) rfl rfl (Nat.le_of_ble_eq_true rfl) hM ⟨Nat.le_of_ble_eq_true rfl, Nat.le_of_ble_eq_true rfl⟩ ⟨Nat.le_of_ble_eq_true rfl, Nat.le_of_ble_eq_true rfl⟩ hRep hVS hl2.1 dh_127_4 (fun ce q9 H1 locs1 hR1 hS1 _ hk1 g1 g2 g3 => ?_)
  have ho1 := ho.keep hqo hk1
  refine vx_catch (name := fx_IO) (E := fx_IO) S.2.2.2.1 [] ⟨0, 9, 12, 13⟩ [] (by rw [htab]; rfl) (fun z hz => by cases hz) (by decide) (by decide) (hx_wd hts hx_c13 rfl) (va_Nw.use rfl hc1) g1 g2 g3 ?_
  refine lv_astore_n (lv' := [(3, .ref q9), (0, .ref (E.1 4 655365 0)), (1, .int x1), (2, .ref qo)]) hx hb dh_127_12 rfl hl2 (by decide) rfl (fun ls hl2 => ?_)
  refine lv_iconst (v := 1) hx hb dh_127_13 (by decide) ?_
  exact W.iret (hlocks := hlocks) hx hb hr (fun t ht hW => ⟨1, v0, M, rfl, ⟨rfl, rfl, rfl⟩, by rw [ht]; exact hR1, by rw [ht]; exact ho1, (hx_up hS1).F ht⟩) (hx_up hS1).2.2 dh_127_14
theorem hn_128 {l : Launch} {E : ux_E} {M : ux_M} {x1 : Int32} {qo : Nat} {v0 : Int64} {d : Nat} (hd37 : d ≤ 40) (hqo : ¬ ux_A E qo) {QQ : Int32 → ux_M → Prop} (hcall : ux_Call l E d y_128 [aR 4 655365 0, aI x1] M (ux_CI QQ)) : hx_Met l E yh_128 hh_128 [aR 4 655365 0, aI x1] qo v0 M (fun r v M1 => r = 0 ∧ ∃ a, QQ a M1 ∧ v = a.toInt64) := by
  refine hx_ofW (by decide +kernel) ?_
  intro p e s m args below meth c s₁ B hml hv
  obtain ⟨rfl, ⟨hRep, hK⟩, ho⟩ := hv
  have hx := B.exec
  have hb : c.code = yh_128.2.1 := B.bytes
  have hr := B.returns
  have hlocks := B.notSynchronized
  have S := hx_fix B hml
  have hts := atoms_spec (ws := hx_ws yh_128 hh_128) B.pre
  have htab : c.exceptionTable.toList = tableOf hh_128 := vx_table (x := yh_128.1) B (hts _ List.mem_cons_self)
  have hl2 := lv_entry ([.ref (E.1 4 655365 0), .int x1, .ref qo]) (n := 4) (Nat.le_of_ble_eq_true rfl)
  show W p l e (fx_room 60) s m _ below meth c s.heap [] 0 0 _ (entryFrame m ([.ref (E.1 4 655365 0), .int x1, .ref qo] : List Value).toArray 4)
  rw [lg_entry_eq]
  generalize (lg_sl ([.ref (E.1 4 655365 0), .int x1, .ref qo]) ++ List.replicate (4 - (lg_sl ([.ref (E.1 4 655365 0), .int x1, .ref qo])).length) Slot.unset).toArray = ls at hl2 ⊢
  have hl2 : lv_has ls 4 [(0, .ref (E.1 4 655365 0)), (1, .int x1), (2, .ref qo)] := hl2
  have hVS : va_S (ux_A E) s.heap s.heap [] := va_S.rf
  refine lv_aload_n hx hb dh_128_0 rfl (lv_at hl2 2 rfl) ?_
  refine lv_iconst (v := 0) hx hb dh_128_1 (by decide) ?_
  refine lv_aload_n hx hb dh_128_2 rfl (lv_at hl2 0 rfl) ?_
  refine lv_iload_n hx hb dh_128_3 rfl (lv_at hl2 1 rfl) ?_
  refine fx_callv (d := d) (y2 := y_128) (q := (4, 655365, 0)) (ci := 0) (As := [.inl x1]) (rest := [.int 0, .ref qo]) (k := 1) S hx_sub hts hK (by decide +kernel) wl_128 wm_128 we_128 (by decide +kernel) (by decide) rfl (by decide) rfl rfl (fun v hv => by rw [List.mem_singleton.mp hv]; trivial) (Nat.le_of_ble_eq_true rfl) hcall ⟨by show d + 5 ≤ 60; omega, by show 60 * d + 360 ≤ 60 * 60 + 300; omega⟩ ⟨Nat.zero_le _, Nat.zero_le _⟩ hRep hVS hl2.1 dh_128_4 (fun r0 M1 H1 locs1 hq hR1 hS1 _ hk1 => ?_)
  obtain ⟨a, rfl, hq⟩ := hq
  have ho1 := ho.keep hqo hk1
  refine lv_i2l hx hb dh_128_7 rfl ?_
  refine hx_last hx hb hK hqo ho1 hR1 (hx_up hS1) dh_128_8 (fun H2 locs2 hR2 ho2 hS2 => ?_)
  refine lv_goto (tgt := 15) hx hb dh_128_9 (by decide) ?_
  refine lv_iconst (v := 0) hx hb dh_128_15 (by decide) ?_
  refine W.widen (k := 1) (n := 6) (Nat.zero_le _) (Nat.zero_le _) ?_
  exact W.iret (hlocks := hlocks) hx hb hr (fun t ht hW => ⟨0, _, M1, rfl, ⟨rfl, a, hq, rfl⟩, by rw [ht]; exact hR2, by rw [ht]; exact ho2, hS2.F ht⟩) hS2.2.2 dh_128_16
theorem ht_128_0 {l : Launch} {E : ux_E} {M : ux_M} {x1 : Int32} {qo : Nat} {v0 : Int64} (hE : ux_THok E) (hqo : ¬ ux_A E qo) (hM : fx_Met l E y_128 10 [aR 4 655365 0, aI x1] M fx_IO) : hx_Met l E yh_128 hh_128 [aR 4 655365 0, aI x1] qo v0 M (fun r v M1 => r = 1 ∧ v = v0 ∧ M1 = M) := by
  refine hx_ofW (by decide +kernel) ?_
  intro p e s m args below meth c s₁ B hml hv
  obtain ⟨rfl, ⟨hRep, hK⟩, ho⟩ := hv
  have hx := B.exec
  have hb : c.code = yh_128.2.1 := B.bytes
  have hr := B.returns
  have hlocks := B.notSynchronized
  have S := hx_fix B hml
  have hts := atoms_spec (ws := hx_ws yh_128 hh_128) B.pre
  have htab : c.exceptionTable.toList = tableOf hh_128 := vx_table (x := yh_128.1) B (hts _ List.mem_cons_self)
  have hl2 := lv_entry ([.ref (E.1 4 655365 0), .int x1, .ref qo]) (n := 4) (Nat.le_of_ble_eq_true rfl)
  show W p l e (fx_room 60) s m _ below meth c s.heap [] 0 0 _ (entryFrame m ([.ref (E.1 4 655365 0), .int x1, .ref qo] : List Value).toArray 4)
  rw [lg_entry_eq]
  generalize (lg_sl ([.ref (E.1 4 655365 0), .int x1, .ref qo]) ++ List.replicate (4 - (lg_sl ([.ref (E.1 4 655365 0), .int x1, .ref qo])).length) Slot.unset).toArray = ls at hl2 ⊢
  have hl2 : lv_has ls 4 [(0, .ref (E.1 4 655365 0)), (1, .int x1), (2, .ref qo)] := hl2
  have hVS : va_S (ux_A E) s.heap s.heap [] := va_S.rf
  refine lv_aload_n hx hb dh_128_0 rfl (lv_at hl2 2 rfl) ?_
  refine lv_iconst (v := 0) hx hb dh_128_1 (by decide) ?_
  refine lv_aload_n hx hb dh_128_2 rfl (lv_at hl2 0 rfl) ?_
  refine lv_iload_n hx hb dh_128_3 rfl (lv_at hl2 1 rfl) ?_
  obtain ⟨-, -, ⟨hc1, hc2⟩, hnc, -⟩ := hE s s.heap hK.2.2.2.2
  refine fx_thrv (d := 10) (y2 := y_128) (q := (4, 655365, 0)) (ci := 0) (As := [.inl x1]) (rest := [.int 0, .ref qo]) (k := 1) S hx_sub hts hK (by decide +kernel) wl_128 wm_128 we_128 mo_128 (by decide +kernel) (by decide) rfl (by decide) rfl rfl (Nat.le_of_ble_eq_true rfl) hM ⟨Nat.le_of_ble_eq_true rfl, Nat.le_of_ble_eq_true rfl⟩ ⟨Nat.le_of_ble_eq_true rfl, Nat.le_of_ble_eq_true rfl⟩ hRep hVS hl2.1 dh_128_4 (fun ce q9 H1 locs1 hR1 hS1 _ hk1 g1 g2 g3 => ?_)
  have ho1 := ho.keep hqo hk1
  refine vx_catch (name := fx_IO) (E := fx_IO) S.2.2.2.1 [] ⟨0, 9, 12, 13⟩ [] (by rw [htab]; rfl) (fun z hz => by cases hz) (by decide) (by decide) (hx_wd hts hx_c13 rfl) (va_Nw.use rfl hc1) g1 g2 g3 ?_
  refine lv_astore_n (lv' := [(3, .ref q9), (0, .ref (E.1 4 655365 0)), (1, .int x1), (2, .ref qo)]) hx hb dh_128_12 rfl hl2 (by decide) rfl (fun ls hl2 => ?_)
  refine lv_iconst (v := 1) hx hb dh_128_13 (by decide) ?_
  exact W.iret (hlocks := hlocks) hx hb hr (fun t ht hW => ⟨1, v0, M, rfl, ⟨rfl, rfl, rfl⟩, by rw [ht]; exact hR1, by rw [ht]; exact ho1, (hx_up hS1).F ht⟩) (hx_up hS1).2.2 dh_128_14
theorem hn_129 {l : Launch} {E : ux_E} {M : ux_M} {x1 : Int32} {qo : Nat} {v0 : Int64} {d : Nat} (hd37 : d ≤ 40) (hqo : ¬ ux_A E qo) {QQ : Int32 → ux_M → Prop} (hcall : ux_Call l E d y_129 [aR 4 655365 0, aI x1] M (ux_CI QQ)) : hx_Met l E yh_129 hh_129 [aR 4 655365 0, aI x1] qo v0 M (fun r v M1 => r = 0 ∧ ∃ a, QQ a M1 ∧ v = a.toInt64) := by
  refine hx_ofW (by decide +kernel) ?_
  intro p e s m args below meth c s₁ B hml hv
  obtain ⟨rfl, ⟨hRep, hK⟩, ho⟩ := hv
  have hx := B.exec
  have hb : c.code = yh_129.2.1 := B.bytes
  have hr := B.returns
  have hlocks := B.notSynchronized
  have S := hx_fix B hml
  have hts := atoms_spec (ws := hx_ws yh_129 hh_129) B.pre
  have htab : c.exceptionTable.toList = tableOf hh_129 := vx_table (x := yh_129.1) B (hts _ List.mem_cons_self)
  have hl2 := lv_entry ([.ref (E.1 4 655365 0), .int x1, .ref qo]) (n := 4) (Nat.le_of_ble_eq_true rfl)
  show W p l e (fx_room 60) s m _ below meth c s.heap [] 0 0 _ (entryFrame m ([.ref (E.1 4 655365 0), .int x1, .ref qo] : List Value).toArray 4)
  rw [lg_entry_eq]
  generalize (lg_sl ([.ref (E.1 4 655365 0), .int x1, .ref qo]) ++ List.replicate (4 - (lg_sl ([.ref (E.1 4 655365 0), .int x1, .ref qo])).length) Slot.unset).toArray = ls at hl2 ⊢
  have hl2 : lv_has ls 4 [(0, .ref (E.1 4 655365 0)), (1, .int x1), (2, .ref qo)] := hl2
  have hVS : va_S (ux_A E) s.heap s.heap [] := va_S.rf
  refine lv_aload_n hx hb dh_129_0 rfl (lv_at hl2 2 rfl) ?_
  refine lv_iconst (v := 0) hx hb dh_129_1 (by decide) ?_
  refine lv_aload_n hx hb dh_129_2 rfl (lv_at hl2 0 rfl) ?_
  refine lv_iload_n hx hb dh_129_3 rfl (lv_at hl2 1 rfl) ?_
  refine fx_callv (d := d) (y2 := y_129) (q := (4, 655365, 0)) (ci := 0) (As := [.inl x1]) (rest := [.int 0, .ref qo]) (k := 1) S hx_sub hts hK (by decide +kernel) wl_129 wm_129 we_129 (by decide +kernel) (by decide) rfl (by decide) rfl rfl (fun v hv => by rw [List.mem_singleton.mp hv]; trivial) (Nat.le_of_ble_eq_true rfl) hcall ⟨by show d + 5 ≤ 60; omega, by show 60 * d + 360 ≤ 60 * 60 + 300; omega⟩ ⟨Nat.zero_le _, Nat.zero_le _⟩ hRep hVS hl2.1 dh_129_4 (fun r0 M1 H1 locs1 hq hR1 hS1 _ hk1 => ?_)
  obtain ⟨a, rfl, hq⟩ := hq
  have ho1 := ho.keep hqo hk1
  refine lv_i2l hx hb dh_129_7 rfl ?_
  refine hx_last hx hb hK hqo ho1 hR1 (hx_up hS1) dh_129_8 (fun H2 locs2 hR2 ho2 hS2 => ?_)
  refine lv_goto (tgt := 15) hx hb dh_129_9 (by decide) ?_
  refine lv_iconst (v := 0) hx hb dh_129_15 (by decide) ?_
  refine W.widen (k := 1) (n := 6) (Nat.zero_le _) (Nat.zero_le _) ?_
  exact W.iret (hlocks := hlocks) hx hb hr (fun t ht hW => ⟨0, _, M1, rfl, ⟨rfl, a, hq, rfl⟩, by rw [ht]; exact hR2, by rw [ht]; exact ho2, hS2.F ht⟩) hS2.2.2 dh_129_16
theorem ht_129_0 {l : Launch} {E : ux_E} {M : ux_M} {x1 : Int32} {qo : Nat} {v0 : Int64} (hE : ux_THok E) (hqo : ¬ ux_A E qo) (hM : fx_Met l E y_129 10 [aR 4 655365 0, aI x1] M fx_IO) : hx_Met l E yh_129 hh_129 [aR 4 655365 0, aI x1] qo v0 M (fun r v M1 => r = 1 ∧ v = v0 ∧ M1 = M) := by
  refine hx_ofW (by decide +kernel) ?_
  intro p e s m args below meth c s₁ B hml hv
  obtain ⟨rfl, ⟨hRep, hK⟩, ho⟩ := hv
  have hx := B.exec
  have hb : c.code = yh_129.2.1 := B.bytes
  have hr := B.returns
  have hlocks := B.notSynchronized
  have S := hx_fix B hml
  have hts := atoms_spec (ws := hx_ws yh_129 hh_129) B.pre
  have htab : c.exceptionTable.toList = tableOf hh_129 := vx_table (x := yh_129.1) B (hts _ List.mem_cons_self)
  have hl2 := lv_entry ([.ref (E.1 4 655365 0), .int x1, .ref qo]) (n := 4) (Nat.le_of_ble_eq_true rfl)
  show W p l e (fx_room 60) s m _ below meth c s.heap [] 0 0 _ (entryFrame m ([.ref (E.1 4 655365 0), .int x1, .ref qo] : List Value).toArray 4)
  rw [lg_entry_eq]
  generalize (lg_sl ([.ref (E.1 4 655365 0), .int x1, .ref qo]) ++ List.replicate (4 - (lg_sl ([.ref (E.1 4 655365 0), .int x1, .ref qo])).length) Slot.unset).toArray = ls at hl2 ⊢
  have hl2 : lv_has ls 4 [(0, .ref (E.1 4 655365 0)), (1, .int x1), (2, .ref qo)] := hl2
  have hVS : va_S (ux_A E) s.heap s.heap [] := va_S.rf
  refine lv_aload_n hx hb dh_129_0 rfl (lv_at hl2 2 rfl) ?_
  refine lv_iconst (v := 0) hx hb dh_129_1 (by decide) ?_
  refine lv_aload_n hx hb dh_129_2 rfl (lv_at hl2 0 rfl) ?_
  refine lv_iload_n hx hb dh_129_3 rfl (lv_at hl2 1 rfl) ?_
  obtain ⟨-, -, ⟨hc1, hc2⟩, hnc, -⟩ := hE s s.heap hK.2.2.2.2
  refine fx_thrv (d := 10) (y2 := y_129) (q := (4, 655365, 0)) (ci := 0) (As := [.inl x1]) (rest := [.int 0, .ref qo]) (k := 1) S hx_sub hts hK (by decide +kernel) wl_129 wm_129 we_129 mo_129 (by decide +kernel) (by decide) rfl (by decide) rfl rfl (Nat.le_of_ble_eq_true rfl) hM ⟨Nat.le_of_ble_eq_true rfl, Nat.le_of_ble_eq_true rfl⟩ ⟨Nat.le_of_ble_eq_true rfl, Nat.le_of_ble_eq_true rfl⟩ hRep hVS hl2.1 dh_129_4 (fun ce q9 H1 locs1 hR1 hS1 _ hk1 g1 g2 g3 => ?_)
  have ho1 := ho.keep hqo hk1
  refine vx_catch (name := fx_IO) (E := fx_IO) S.2.2.2.1 [] ⟨0, 9, 12, 13⟩ [] (by rw [htab]; rfl) (fun z hz => by cases hz) (by decide) (by decide) (hx_wd hts hx_c13 rfl) (va_Nw.use rfl hc1) g1 g2 g3 ?_
  refine lv_astore_n (lv' := [(3, .ref q9), (0, .ref (E.1 4 655365 0)), (1, .int x1), (2, .ref qo)]) hx hb dh_129_12 rfl hl2 (by decide) rfl (fun ls hl2 => ?_)
  refine lv_iconst (v := 1) hx hb dh_129_13 (by decide) ?_
  exact W.iret (hlocks := hlocks) hx hb hr (fun t ht hW => ⟨1, v0, M, rfl, ⟨rfl, rfl, rfl⟩, by rw [ht]; exact hR1, by rw [ht]; exact ho1, (hx_up hS1).F ht⟩) (hx_up hS1).2.2 dh_129_14
theorem hn_130 {l : Launch} {E : ux_E} {M : ux_M} {x1 : Int32} {qo : Nat} {v0 : Int64} {d : Nat} (hd37 : d ≤ 40) (hqo : ¬ ux_A E qo) {QQ : Int32 → ux_M → Prop} (hcall : ux_Call l E d y_130 [aR 4 655365 0, aI x1] M (ux_CI QQ)) : hx_Met l E yh_130 hh_130 [aR 4 655365 0, aI x1] qo v0 M (fun r v M1 => r = 0 ∧ ∃ a, QQ a M1 ∧ v = a.toInt64) := by
  refine hx_ofW (by decide +kernel) ?_
  intro p e s m args below meth c s₁ B hml hv
  obtain ⟨rfl, ⟨hRep, hK⟩, ho⟩ := hv
  have hx := B.exec
  have hb : c.code = yh_130.2.1 := B.bytes
  have hr := B.returns
  have hlocks := B.notSynchronized
  have S := hx_fix B hml
  have hts := atoms_spec (ws := hx_ws yh_130 hh_130) B.pre
  have htab : c.exceptionTable.toList = tableOf hh_130 := vx_table (x := yh_130.1) B (hts _ List.mem_cons_self)
  have hl2 := lv_entry ([.ref (E.1 4 655365 0), .int x1, .ref qo]) (n := 4) (Nat.le_of_ble_eq_true rfl)
  show W p l e (fx_room 60) s m _ below meth c s.heap [] 0 0 _ (entryFrame m ([.ref (E.1 4 655365 0), .int x1, .ref qo] : List Value).toArray 4)
  rw [lg_entry_eq]
  generalize (lg_sl ([.ref (E.1 4 655365 0), .int x1, .ref qo]) ++ List.replicate (4 - (lg_sl ([.ref (E.1 4 655365 0), .int x1, .ref qo])).length) Slot.unset).toArray = ls at hl2 ⊢
  have hl2 : lv_has ls 4 [(0, .ref (E.1 4 655365 0)), (1, .int x1), (2, .ref qo)] := hl2
  have hVS : va_S (ux_A E) s.heap s.heap [] := va_S.rf
  refine lv_aload_n hx hb dh_130_0 rfl (lv_at hl2 2 rfl) ?_
  refine lv_iconst (v := 0) hx hb dh_130_1 (by decide) ?_
  refine lv_aload_n hx hb dh_130_2 rfl (lv_at hl2 0 rfl) ?_
  refine lv_iload_n hx hb dh_130_3 rfl (lv_at hl2 1 rfl) ?_
  refine fx_callv (d := d) (y2 := y_130) (q := (4, 655365, 0)) (ci := 0) (As := [.inl x1]) (rest := [.int 0, .ref qo]) (k := 1) S hx_sub hts hK (by decide +kernel) wl_130 wm_130 we_130 (by decide +kernel) (by decide) rfl (by decide) rfl rfl (fun v hv => by rw [List.mem_singleton.mp hv]; trivial) (Nat.le_of_ble_eq_true rfl) hcall ⟨by show d + 5 ≤ 60; omega, by show 60 * d + 360 ≤ 60 * 60 + 300; omega⟩ ⟨Nat.zero_le _, Nat.zero_le _⟩ hRep hVS hl2.1 dh_130_4 (fun r0 M1 H1 locs1 hq hR1 hS1 _ hk1 => ?_)
  obtain ⟨a, rfl, hq⟩ := hq
  have ho1 := ho.keep hqo hk1
  refine lv_i2l hx hb dh_130_7 rfl ?_
  refine hx_last hx hb hK hqo ho1 hR1 (hx_up hS1) dh_130_8 (fun H2 locs2 hR2 ho2 hS2 => ?_)
  refine lv_goto (tgt := 15) hx hb dh_130_9 (by decide) ?_
  refine lv_iconst (v := 0) hx hb dh_130_15 (by decide) ?_
  refine W.widen (k := 1) (n := 6) (Nat.zero_le _) (Nat.zero_le _) ?_
  exact W.iret (hlocks := hlocks) hx hb hr (fun t ht hW => ⟨0, _, M1, rfl, ⟨rfl, a, hq, rfl⟩, by rw [ht]; exact hR2, by rw [ht]; exact ho2, hS2.F ht⟩) hS2.2.2 dh_130_16
theorem ht_130_0 {l : Launch} {E : ux_E} {M : ux_M} {x1 : Int32} {qo : Nat} {v0 : Int64} (hE : ux_THok E) (hqo : ¬ ux_A E qo) (hM : fx_Met l E y_130 10 [aR 4 655365 0, aI x1] M fx_IO) : hx_Met l E yh_130 hh_130 [aR 4 655365 0, aI x1] qo v0 M (fun r v M1 => r = 1 ∧ v = v0 ∧ M1 = M) := by
  refine hx_ofW (by decide +kernel) ?_
  intro p e s m args below meth c s₁ B hml hv
  obtain ⟨rfl, ⟨hRep, hK⟩, ho⟩ := hv
  have hx := B.exec
  have hb : c.code = yh_130.2.1 := B.bytes
  have hr := B.returns
  have hlocks := B.notSynchronized
  have S := hx_fix B hml
  have hts := atoms_spec (ws := hx_ws yh_130 hh_130) B.pre
  have htab : c.exceptionTable.toList = tableOf hh_130 := vx_table (x := yh_130.1) B (hts _ List.mem_cons_self)
  have hl2 := lv_entry ([.ref (E.1 4 655365 0), .int x1, .ref qo]) (n := 4) (Nat.le_of_ble_eq_true rfl)
  show W p l e (fx_room 60) s m _ below meth c s.heap [] 0 0 _ (entryFrame m ([.ref (E.1 4 655365 0), .int x1, .ref qo] : List Value).toArray 4)
  rw [lg_entry_eq]
  generalize (lg_sl ([.ref (E.1 4 655365 0), .int x1, .ref qo]) ++ List.replicate (4 - (lg_sl ([.ref (E.1 4 655365 0), .int x1, .ref qo])).length) Slot.unset).toArray = ls at hl2 ⊢
  have hl2 : lv_has ls 4 [(0, .ref (E.1 4 655365 0)), (1, .int x1), (2, .ref qo)] := hl2
  have hVS : va_S (ux_A E) s.heap s.heap [] := va_S.rf
  refine lv_aload_n hx hb dh_130_0 rfl (lv_at hl2 2 rfl) ?_
  refine lv_iconst (v := 0) hx hb dh_130_1 (by decide) ?_
  refine lv_aload_n hx hb dh_130_2 rfl (lv_at hl2 0 rfl) ?_
  refine lv_iload_n hx hb dh_130_3 rfl (lv_at hl2 1 rfl) ?_
  obtain ⟨-, -, ⟨hc1, hc2⟩, hnc, -⟩ := hE s s.heap hK.2.2.2.2
  refine fx_thrv (d := 10) (y2 := y_130) (q := (4, 655365, 0)) (ci := 0) (As := [.inl x1]) (rest := [.int 0, .ref qo]) (k := 1) S hx_sub hts hK (by decide +kernel) wl_130 wm_130 we_130 mo_130 (by decide +kernel) (by decide) rfl (by decide) rfl rfl (Nat.le_of_ble_eq_true rfl) hM ⟨Nat.le_of_ble_eq_true rfl, Nat.le_of_ble_eq_true rfl⟩ ⟨Nat.le_of_ble_eq_true rfl, Nat.le_of_ble_eq_true rfl⟩ hRep hVS hl2.1 dh_130_4 (fun ce q9 H1 locs1 hR1 hS1 _ hk1 g1 g2 g3 => ?_)
  have ho1 := ho.keep hqo hk1
  refine vx_catch (name := fx_IO) (E := fx_IO) S.2.2.2.1 [] ⟨0, 9, 12, 13⟩ [] (by rw [htab]; rfl) (fun z hz => by cases hz) (by decide) (by decide) (hx_wd hts hx_c13 rfl) (va_Nw.use rfl hc1) g1 g2 g3 ?_
  refine lv_astore_n (lv' := [(3, .ref q9), (0, .ref (E.1 4 655365 0)), (1, .int x1), (2, .ref qo)]) hx hb dh_130_12 rfl hl2 (by decide) rfl (fun ls hl2 => ?_)
  refine lv_iconst (v := 1) hx hb dh_130_13 (by decide) ?_
  exact W.iret (hlocks := hlocks) hx hb hr (fun t ht hW => ⟨1, v0, M, rfl, ⟨rfl, rfl, rfl⟩, by rw [ht]; exact hR1, by rw [ht]; exact ho1, (hx_up hS1).F ht⟩) (hx_up hS1).2.2 dh_130_14
theorem hn_131 {l : Launch} {E : ux_E} {M : ux_M} {x1 : Int32} {qo : Nat} {v0 : Int64} {d : Nat} (hd37 : d ≤ 40) (hqo : ¬ ux_A E qo) {QQ : Int32 → ux_M → Prop} (hcall : ux_Call l E d y_131 [aR 4 655365 0, aI x1] M (ux_CI QQ)) : hx_Met l E yh_131 hh_131 [aR 4 655365 0, aI x1] qo v0 M (fun r v M1 => r = 0 ∧ ∃ a, QQ a M1 ∧ v = a.toInt64) := by
  refine hx_ofW (by decide +kernel) ?_
  intro p e s m args below meth c s₁ B hml hv
  obtain ⟨rfl, ⟨hRep, hK⟩, ho⟩ := hv
  have hx := B.exec
  have hb : c.code = yh_131.2.1 := B.bytes
  have hr := B.returns
  have hlocks := B.notSynchronized
  have S := hx_fix B hml
  have hts := atoms_spec (ws := hx_ws yh_131 hh_131) B.pre
  have htab : c.exceptionTable.toList = tableOf hh_131 := vx_table (x := yh_131.1) B (hts _ List.mem_cons_self)
  have hl2 := lv_entry ([.ref (E.1 4 655365 0), .int x1, .ref qo]) (n := 4) (Nat.le_of_ble_eq_true rfl)
  show W p l e (fx_room 60) s m _ below meth c s.heap [] 0 0 _ (entryFrame m ([.ref (E.1 4 655365 0), .int x1, .ref qo] : List Value).toArray 4)
  rw [lg_entry_eq]
  generalize (lg_sl ([.ref (E.1 4 655365 0), .int x1, .ref qo]) ++ List.replicate (4 - (lg_sl ([.ref (E.1 4 655365 0), .int x1, .ref qo])).length) Slot.unset).toArray = ls at hl2 ⊢
  have hl2 : lv_has ls 4 [(0, .ref (E.1 4 655365 0)), (1, .int x1), (2, .ref qo)] := hl2
  have hVS : va_S (ux_A E) s.heap s.heap [] := va_S.rf
  refine lv_aload_n hx hb dh_131_0 rfl (lv_at hl2 2 rfl) ?_
  refine lv_iconst (v := 0) hx hb dh_131_1 (by decide) ?_
  refine lv_aload_n hx hb dh_131_2 rfl (lv_at hl2 0 rfl) ?_
  refine lv_iload_n hx hb dh_131_3 rfl (lv_at hl2 1 rfl) ?_
  refine fx_callv (d := d) (y2 := y_131) (q := (4, 655365, 0)) (ci := 0) (As := [.inl x1]) (rest := [.int 0, .ref qo]) (k := 1) S hx_sub hts hK (by decide +kernel) wl_131 wm_131 we_131 (by decide +kernel) (by decide) rfl (by decide) rfl rfl (fun v hv => by rw [List.mem_singleton.mp hv]; trivial) (Nat.le_of_ble_eq_true rfl) hcall ⟨by show d + 5 ≤ 60; omega, by show 60 * d + 360 ≤ 60 * 60 + 300; omega⟩ ⟨Nat.zero_le _, Nat.zero_le _⟩ hRep hVS hl2.1 dh_131_4 (fun r0 M1 H1 locs1 hq hR1 hS1 _ hk1 => ?_)
  obtain ⟨a, rfl, hq⟩ := hq
  have ho1 := ho.keep hqo hk1
  refine lv_i2l hx hb dh_131_7 rfl ?_
  refine hx_last hx hb hK hqo ho1 hR1 (hx_up hS1) dh_131_8 (fun H2 locs2 hR2 ho2 hS2 => ?_)
  refine lv_goto (tgt := 15) hx hb dh_131_9 (by decide) ?_
  refine lv_iconst (v := 0) hx hb dh_131_15 (by decide) ?_
  refine W.widen (k := 1) (n := 6) (Nat.zero_le _) (Nat.zero_le _) ?_
  exact W.iret (hlocks := hlocks) hx hb hr (fun t ht hW => ⟨0, _, M1, rfl, ⟨rfl, a, hq, rfl⟩, by rw [ht]; exact hR2, by rw [ht]; exact ho2, hS2.F ht⟩) hS2.2.2 dh_131_16
theorem ht_131_0 {l : Launch} {E : ux_E} {M : ux_M} {x1 : Int32} {qo : Nat} {v0 : Int64} (hE : ux_THok E) (hqo : ¬ ux_A E qo) (hM : fx_Met l E y_131 10 [aR 4 655365 0, aI x1] M fx_IO) : hx_Met l E yh_131 hh_131 [aR 4 655365 0, aI x1] qo v0 M (fun r v M1 => r = 1 ∧ v = v0 ∧ M1 = M) := by
  refine hx_ofW (by decide +kernel) ?_
  intro p e s m args below meth c s₁ B hml hv
  obtain ⟨rfl, ⟨hRep, hK⟩, ho⟩ := hv
  have hx := B.exec
  have hb : c.code = yh_131.2.1 := B.bytes
  have hr := B.returns
  have hlocks := B.notSynchronized
  have S := hx_fix B hml
  have hts := atoms_spec (ws := hx_ws yh_131 hh_131) B.pre
  have htab : c.exceptionTable.toList = tableOf hh_131 := vx_table (x := yh_131.1) B (hts _ List.mem_cons_self)
  have hl2 := lv_entry ([.ref (E.1 4 655365 0), .int x1, .ref qo]) (n := 4) (Nat.le_of_ble_eq_true rfl)
  show W p l e (fx_room 60) s m _ below meth c s.heap [] 0 0 _ (entryFrame m ([.ref (E.1 4 655365 0), .int x1, .ref qo] : List Value).toArray 4)
  rw [lg_entry_eq]
  generalize (lg_sl ([.ref (E.1 4 655365 0), .int x1, .ref qo]) ++ List.replicate (4 - (lg_sl ([.ref (E.1 4 655365 0), .int x1, .ref qo])).length) Slot.unset).toArray = ls at hl2 ⊢
  have hl2 : lv_has ls 4 [(0, .ref (E.1 4 655365 0)), (1, .int x1), (2, .ref qo)] := hl2
  have hVS : va_S (ux_A E) s.heap s.heap [] := va_S.rf
  refine lv_aload_n hx hb dh_131_0 rfl (lv_at hl2 2 rfl) ?_
  refine lv_iconst (v := 0) hx hb dh_131_1 (by decide) ?_
  refine lv_aload_n hx hb dh_131_2 rfl (lv_at hl2 0 rfl) ?_
  refine lv_iload_n hx hb dh_131_3 rfl (lv_at hl2 1 rfl) ?_
  obtain ⟨-, -, ⟨hc1, hc2⟩, hnc, -⟩ := hE s s.heap hK.2.2.2.2
  refine fx_thrv (d := 10) (y2 := y_131) (q := (4, 655365, 0)) (ci := 0) (As := [.inl x1]) (rest := [.int 0, .ref qo]) (k := 1) S hx_sub hts hK (by decide +kernel) wl_131 wm_131 we_131 mo_131 (by decide +kernel) (by decide) rfl (by decide) rfl rfl (Nat.le_of_ble_eq_true rfl) hM ⟨Nat.le_of_ble_eq_true rfl, Nat.le_of_ble_eq_true rfl⟩ ⟨Nat.le_of_ble_eq_true rfl, Nat.le_of_ble_eq_true rfl⟩ hRep hVS hl2.1 dh_131_4 (fun ce q9 H1 locs1 hR1 hS1 _ hk1 g1 g2 g3 => ?_)
  have ho1 := ho.keep hqo hk1
  refine vx_catch (name := fx_IO) (E := fx_IO) S.2.2.2.1 [] ⟨0, 9, 12, 13⟩ [] (by rw [htab]; rfl) (fun z hz => by cases hz) (by decide) (by decide) (hx_wd hts hx_c13 rfl) (va_Nw.use rfl hc1) g1 g2 g3 ?_
  refine lv_astore_n (lv' := [(3, .ref q9), (0, .ref (E.1 4 655365 0)), (1, .int x1), (2, .ref qo)]) hx hb dh_131_12 rfl hl2 (by decide) rfl (fun ls hl2 => ?_)
  refine lv_iconst (v := 1) hx hb dh_131_13 (by decide) ?_
  exact W.iret (hlocks := hlocks) hx hb hr (fun t ht hW => ⟨1, v0, M, rfl, ⟨rfl, rfl, rfl⟩, by rw [ht]; exact hR1, by rw [ht]; exact ho1, (hx_up hS1).F ht⟩) (hx_up hS1).2.2 dh_131_14
theorem hn_132 {l : Launch} {E : ux_E} {M : ux_M} {x1 : Int32} {qo : Nat} {v0 : Int64} {d : Nat} (hd37 : d ≤ 40) (hqo : ¬ ux_A E qo) {QQ : Int32 → ux_M → Prop} (hcall : ux_Call l E d y_132 [aR 4 655365 0, aI x1] M (ux_CI QQ)) : hx_Met l E yh_132 hh_132 [aR 4 655365 0, aI x1] qo v0 M (fun r v M1 => r = 0 ∧ ∃ a, QQ a M1 ∧ v = a.toInt64) := by
  refine hx_ofW (by decide +kernel) ?_
  intro p e s m args below meth c s₁ B hml hv
  obtain ⟨rfl, ⟨hRep, hK⟩, ho⟩ := hv
  have hx := B.exec
  have hb : c.code = yh_132.2.1 := B.bytes
  have hr := B.returns
  have hlocks := B.notSynchronized
  have S := hx_fix B hml
  have hts := atoms_spec (ws := hx_ws yh_132 hh_132) B.pre
  have htab : c.exceptionTable.toList = tableOf hh_132 := vx_table (x := yh_132.1) B (hts _ List.mem_cons_self)
  have hl2 := lv_entry ([.ref (E.1 4 655365 0), .int x1, .ref qo]) (n := 4) (Nat.le_of_ble_eq_true rfl)
  show W p l e (fx_room 60) s m _ below meth c s.heap [] 0 0 _ (entryFrame m ([.ref (E.1 4 655365 0), .int x1, .ref qo] : List Value).toArray 4)
  rw [lg_entry_eq]
  generalize (lg_sl ([.ref (E.1 4 655365 0), .int x1, .ref qo]) ++ List.replicate (4 - (lg_sl ([.ref (E.1 4 655365 0), .int x1, .ref qo])).length) Slot.unset).toArray = ls at hl2 ⊢
  have hl2 : lv_has ls 4 [(0, .ref (E.1 4 655365 0)), (1, .int x1), (2, .ref qo)] := hl2
  have hVS : va_S (ux_A E) s.heap s.heap [] := va_S.rf
  refine lv_aload_n hx hb dh_132_0 rfl (lv_at hl2 2 rfl) ?_
  refine lv_iconst (v := 0) hx hb dh_132_1 (by decide) ?_
  refine lv_aload_n hx hb dh_132_2 rfl (lv_at hl2 0 rfl) ?_
  refine lv_iload_n hx hb dh_132_3 rfl (lv_at hl2 1 rfl) ?_
  refine fx_callv (d := d) (y2 := y_132) (q := (4, 655365, 0)) (ci := 0) (As := [.inl x1]) (rest := [.int 0, .ref qo]) (k := 1) S hx_sub hts hK (by decide +kernel) wl_132 wm_132 we_132 (by decide +kernel) (by decide) rfl (by decide) rfl rfl (fun v hv => by rw [List.mem_singleton.mp hv]; trivial) (Nat.le_of_ble_eq_true rfl) hcall ⟨by show d + 5 ≤ 60; omega, by show 60 * d + 360 ≤ 60 * 60 + 300; omega⟩ ⟨Nat.zero_le _, Nat.zero_le _⟩ hRep hVS hl2.1 dh_132_4 (fun r0 M1 H1 locs1 hq hR1 hS1 _ hk1 => ?_)
  obtain ⟨a, rfl, hq⟩ := hq
  have ho1 := ho.keep hqo hk1
  refine lv_i2l hx hb dh_132_7 rfl ?_
  refine hx_last hx hb hK hqo ho1 hR1 (hx_up hS1) dh_132_8 (fun H2 locs2 hR2 ho2 hS2 => ?_)
  refine lv_goto (tgt := 15) hx hb dh_132_9 (by decide) ?_
  refine lv_iconst (v := 0) hx hb dh_132_15 (by decide) ?_
  refine W.widen (k := 1) (n := 6) (Nat.zero_le _) (Nat.zero_le _) ?_
  exact W.iret (hlocks := hlocks) hx hb hr (fun t ht hW => ⟨0, _, M1, rfl, ⟨rfl, a, hq, rfl⟩, by rw [ht]; exact hR2, by rw [ht]; exact ho2, hS2.F ht⟩) hS2.2.2 dh_132_16
theorem ht_132_0 {l : Launch} {E : ux_E} {M : ux_M} {x1 : Int32} {qo : Nat} {v0 : Int64} (hE : ux_THok E) (hqo : ¬ ux_A E qo) (hM : fx_Met l E y_132 10 [aR 4 655365 0, aI x1] M fx_IO) : hx_Met l E yh_132 hh_132 [aR 4 655365 0, aI x1] qo v0 M (fun r v M1 => r = 1 ∧ v = v0 ∧ M1 = M) := by
  refine hx_ofW (by decide +kernel) ?_
  intro p e s m args below meth c s₁ B hml hv
  obtain ⟨rfl, ⟨hRep, hK⟩, ho⟩ := hv
  have hx := B.exec
  have hb : c.code = yh_132.2.1 := B.bytes
  have hr := B.returns
  have hlocks := B.notSynchronized
  have S := hx_fix B hml
  have hts := atoms_spec (ws := hx_ws yh_132 hh_132) B.pre
  have htab : c.exceptionTable.toList = tableOf hh_132 := vx_table (x := yh_132.1) B (hts _ List.mem_cons_self)
  have hl2 := lv_entry ([.ref (E.1 4 655365 0), .int x1, .ref qo]) (n := 4) (Nat.le_of_ble_eq_true rfl)
  show W p l e (fx_room 60) s m _ below meth c s.heap [] 0 0 _ (entryFrame m ([.ref (E.1 4 655365 0), .int x1, .ref qo] : List Value).toArray 4)
  rw [lg_entry_eq]
  generalize (lg_sl ([.ref (E.1 4 655365 0), .int x1, .ref qo]) ++ List.replicate (4 - (lg_sl ([.ref (E.1 4 655365 0), .int x1, .ref qo])).length) Slot.unset).toArray = ls at hl2 ⊢
  have hl2 : lv_has ls 4 [(0, .ref (E.1 4 655365 0)), (1, .int x1), (2, .ref qo)] := hl2
  have hVS : va_S (ux_A E) s.heap s.heap [] := va_S.rf
  refine lv_aload_n hx hb dh_132_0 rfl (lv_at hl2 2 rfl) ?_
  refine lv_iconst (v := 0) hx hb dh_132_1 (by decide) ?_
  refine lv_aload_n hx hb dh_132_2 rfl (lv_at hl2 0 rfl) ?_
  refine lv_iload_n hx hb dh_132_3 rfl (lv_at hl2 1 rfl) ?_
  obtain ⟨-, -, ⟨hc1, hc2⟩, hnc, -⟩ := hE s s.heap hK.2.2.2.2
  refine fx_thrv (d := 10) (y2 := y_132) (q := (4, 655365, 0)) (ci := 0) (As := [.inl x1]) (rest := [.int 0, .ref qo]) (k := 1) S hx_sub hts hK (by decide +kernel) wl_132 wm_132 we_132 mo_132 (by decide +kernel) (by decide) rfl (by decide) rfl rfl (Nat.le_of_ble_eq_true rfl) hM ⟨Nat.le_of_ble_eq_true rfl, Nat.le_of_ble_eq_true rfl⟩ ⟨Nat.le_of_ble_eq_true rfl, Nat.le_of_ble_eq_true rfl⟩ hRep hVS hl2.1 dh_132_4 (fun ce q9 H1 locs1 hR1 hS1 _ hk1 g1 g2 g3 => ?_)
  have ho1 := ho.keep hqo hk1
  refine vx_catch (name := fx_IO) (E := fx_IO) S.2.2.2.1 [] ⟨0, 9, 12, 13⟩ [] (by rw [htab]; rfl) (fun z hz => by cases hz) (by decide) (by decide) (hx_wd hts hx_c13 rfl) (va_Nw.use rfl hc1) g1 g2 g3 ?_
  refine lv_astore_n (lv' := [(3, .ref q9), (0, .ref (E.1 4 655365 0)), (1, .int x1), (2, .ref qo)]) hx hb dh_132_12 rfl hl2 (by decide) rfl (fun ls hl2 => ?_)
  refine lv_iconst (v := 1) hx hb dh_132_13 (by decide) ?_
  exact W.iret (hlocks := hlocks) hx hb hr (fun t ht hW => ⟨1, v0, M, rfl, ⟨rfl, rfl, rfl⟩, by rw [ht]; exact hR1, by rw [ht]; exact ho1, (hx_up hS1).F ht⟩) (hx_up hS1).2.2 dh_132_14
theorem hn_133 {l : Launch} {E : ux_E} {M : ux_M} {x1 : Int32} {qo : Nat} {v0 : Int64} {d : Nat} (hd37 : d ≤ 40) (hqo : ¬ ux_A E qo) {QQ : Int32 → ux_M → Prop} (hcall : ux_Call l E d y_133 [aR 4 655365 0, aI x1] M (ux_CI QQ)) : hx_Met l E yh_133 hh_133 [aR 4 655365 0, aI x1] qo v0 M (fun r v M1 => r = 0 ∧ ∃ a, QQ a M1 ∧ v = a.toInt64) := by
  refine hx_ofW (by decide +kernel) ?_
  intro p e s m args below meth c s₁ B hml hv
  obtain ⟨rfl, ⟨hRep, hK⟩, ho⟩ := hv
  have hx := B.exec
  have hb : c.code = yh_133.2.1 := B.bytes
  have hr := B.returns
  have hlocks := B.notSynchronized
  have S := hx_fix B hml
  have hts := atoms_spec (ws := hx_ws yh_133 hh_133) B.pre
  have htab : c.exceptionTable.toList = tableOf hh_133 := vx_table (x := yh_133.1) B (hts _ List.mem_cons_self)
  have hl2 := lv_entry ([.ref (E.1 4 655365 0), .int x1, .ref qo]) (n := 4) (Nat.le_of_ble_eq_true rfl)
  show W p l e (fx_room 60) s m _ below meth c s.heap [] 0 0 _ (entryFrame m ([.ref (E.1 4 655365 0), .int x1, .ref qo] : List Value).toArray 4)
  rw [lg_entry_eq]
  generalize (lg_sl ([.ref (E.1 4 655365 0), .int x1, .ref qo]) ++ List.replicate (4 - (lg_sl ([.ref (E.1 4 655365 0), .int x1, .ref qo])).length) Slot.unset).toArray = ls at hl2 ⊢
  have hl2 : lv_has ls 4 [(0, .ref (E.1 4 655365 0)), (1, .int x1), (2, .ref qo)] := hl2
  have hVS : va_S (ux_A E) s.heap s.heap [] := va_S.rf
  refine lv_aload_n hx hb dh_133_0 rfl (lv_at hl2 2 rfl) ?_
  refine lv_iconst (v := 0) hx hb dh_133_1 (by decide) ?_
  refine lv_aload_n hx hb dh_133_2 rfl (lv_at hl2 0 rfl) ?_
  refine lv_iload_n hx hb dh_133_3 rfl (lv_at hl2 1 rfl) ?_
  refine fx_callv (d := d) (y2 := y_133) (q := (4, 655365, 0)) (ci := 0) (As := [.inl x1]) (rest := [.int 0, .ref qo]) (k := 1) S hx_sub hts hK (by decide +kernel) wl_133 wm_133 we_133 (by decide +kernel) (by decide) rfl (by decide) rfl rfl (fun v hv => by rw [List.mem_singleton.mp hv]; trivial) (Nat.le_of_ble_eq_true rfl) hcall ⟨by show d + 5 ≤ 60; omega, by show 60 * d + 360 ≤ 60 * 60 + 300; omega⟩ ⟨Nat.zero_le _, Nat.zero_le _⟩ hRep hVS hl2.1 dh_133_4 (fun r0 M1 H1 locs1 hq hR1 hS1 _ hk1 => ?_)
  obtain ⟨a, rfl, hq⟩ := hq
  have ho1 := ho.keep hqo hk1
  refine lv_i2l hx hb dh_133_7 rfl ?_
  refine hx_last hx hb hK hqo ho1 hR1 (hx_up hS1) dh_133_8 (fun H2 locs2 hR2 ho2 hS2 => ?_)
  refine lv_goto (tgt := 15) hx hb dh_133_9 (by decide) ?_
  refine lv_iconst (v := 0) hx hb dh_133_15 (by decide) ?_
  refine W.widen (k := 1) (n := 6) (Nat.zero_le _) (Nat.zero_le _) ?_
  exact W.iret (hlocks := hlocks) hx hb hr (fun t ht hW => ⟨0, _, M1, rfl, ⟨rfl, a, hq, rfl⟩, by rw [ht]; exact hR2, by rw [ht]; exact ho2, hS2.F ht⟩) hS2.2.2 dh_133_16
theorem ht_133_0 {l : Launch} {E : ux_E} {M : ux_M} {x1 : Int32} {qo : Nat} {v0 : Int64} (hE : ux_THok E) (hqo : ¬ ux_A E qo) (hM : fx_Met l E y_133 10 [aR 4 655365 0, aI x1] M fx_IO) : hx_Met l E yh_133 hh_133 [aR 4 655365 0, aI x1] qo v0 M (fun r v M1 => r = 1 ∧ v = v0 ∧ M1 = M) := by
  refine hx_ofW (by decide +kernel) ?_
  intro p e s m args below meth c s₁ B hml hv
  obtain ⟨rfl, ⟨hRep, hK⟩, ho⟩ := hv
  have hx := B.exec
  have hb : c.code = yh_133.2.1 := B.bytes
  have hr := B.returns
  have hlocks := B.notSynchronized
  have S := hx_fix B hml
  have hts := atoms_spec (ws := hx_ws yh_133 hh_133) B.pre
  have htab : c.exceptionTable.toList = tableOf hh_133 := vx_table (x := yh_133.1) B (hts _ List.mem_cons_self)
  have hl2 := lv_entry ([.ref (E.1 4 655365 0), .int x1, .ref qo]) (n := 4) (Nat.le_of_ble_eq_true rfl)
  show W p l e (fx_room 60) s m _ below meth c s.heap [] 0 0 _ (entryFrame m ([.ref (E.1 4 655365 0), .int x1, .ref qo] : List Value).toArray 4)
  rw [lg_entry_eq]
  generalize (lg_sl ([.ref (E.1 4 655365 0), .int x1, .ref qo]) ++ List.replicate (4 - (lg_sl ([.ref (E.1 4 655365 0), .int x1, .ref qo])).length) Slot.unset).toArray = ls at hl2 ⊢
  have hl2 : lv_has ls 4 [(0, .ref (E.1 4 655365 0)), (1, .int x1), (2, .ref qo)] := hl2
  have hVS : va_S (ux_A E) s.heap s.heap [] := va_S.rf
  refine lv_aload_n hx hb dh_133_0 rfl (lv_at hl2 2 rfl) ?_
  refine lv_iconst (v := 0) hx hb dh_133_1 (by decide) ?_
  refine lv_aload_n hx hb dh_133_2 rfl (lv_at hl2 0 rfl) ?_
  refine lv_iload_n hx hb dh_133_3 rfl (lv_at hl2 1 rfl) ?_
  obtain ⟨-, -, ⟨hc1, hc2⟩, hnc, -⟩ := hE s s.heap hK.2.2.2.2
  refine fx_thrv (d := 10) (y2 := y_133) (q := (4, 655365, 0)) (ci := 0) (As := [.inl x1]) (rest := [.int 0, .ref qo]) (k := 1) S hx_sub hts hK (by decide +kernel) wl_133 wm_133 we_133 mo_133 (by decide +kernel) (by decide) rfl (by decide) rfl rfl (Nat.le_of_ble_eq_true rfl) hM ⟨Nat.le_of_ble_eq_true rfl, Nat.le_of_ble_eq_true rfl⟩ ⟨Nat.le_of_ble_eq_true rfl, Nat.le_of_ble_eq_true rfl⟩ hRep hVS hl2.1 dh_133_4 (fun ce q9 H1 locs1 hR1 hS1 _ hk1 g1 g2 g3 => ?_)
  have ho1 := ho.keep hqo hk1
  refine vx_catch (name := fx_IO) (E := fx_IO) S.2.2.2.1 [] ⟨0, 9, 12, 13⟩ [] (by rw [htab]; rfl) (fun z hz => by cases hz) (by decide) (by decide) (hx_wd hts hx_c13 rfl) (va_Nw.use rfl hc1) g1 g2 g3 ?_
  refine lv_astore_n (lv' := [(3, .ref q9), (0, .ref (E.1 4 655365 0)), (1, .int x1), (2, .ref qo)]) hx hb dh_133_12 rfl hl2 (by decide) rfl (fun ls hl2 => ?_)
  refine lv_iconst (v := 1) hx hb dh_133_13 (by decide) ?_
  exact W.iret (hlocks := hlocks) hx hb hr (fun t ht hW => ⟨1, v0, M, rfl, ⟨rfl, rfl, rfl⟩, by rw [ht]; exact hR1, by rw [ht]; exact ho1, (hx_up hS1).F ht⟩) (hx_up hS1).2.2 dh_133_14
theorem hn_134 {l : Launch} {E : ux_E} {M : ux_M} {x1 x2 : Int32} {qo : Nat} {v0 : Int64} {d : Nat} (hd37 : d ≤ 40) (hqo : ¬ ux_A E qo) {QQ : Int32 → ux_M → Prop} (hcall : ux_Call l E d y_134 [aR 4 655365 0, aI x1, aI x2] M (ux_CI QQ)) : hx_Met l E yh_134 hh_134 [aR 4 655365 0, aI x1, aI x2] qo v0 M (fun r v M1 => r = 0 ∧ ∃ a, QQ a M1 ∧ v = a.toInt64) := by
  refine hx_ofW (by decide +kernel) ?_
  intro p e s m args below meth c s₁ B hml hv
  obtain ⟨rfl, ⟨hRep, hK⟩, ho⟩ := hv
  have hx := B.exec
  have hb : c.code = yh_134.2.1 := B.bytes
  have hr := B.returns
  have hlocks := B.notSynchronized
  have S := hx_fix B hml
  have hts := atoms_spec (ws := hx_ws yh_134 hh_134) B.pre
  have htab : c.exceptionTable.toList = tableOf hh_134 := vx_table (x := yh_134.1) B (hts _ List.mem_cons_self)
  have hl2 := lv_entry ([.ref (E.1 4 655365 0), .int x1, .int x2, .ref qo]) (n := 5) (Nat.le_of_ble_eq_true rfl)
  show W p l e (fx_room 60) s m _ below meth c s.heap [] 0 0 _ (entryFrame m ([.ref (E.1 4 655365 0), .int x1, .int x2, .ref qo] : List Value).toArray 5)
  rw [lg_entry_eq]
  generalize (lg_sl ([.ref (E.1 4 655365 0), .int x1, .int x2, .ref qo]) ++ List.replicate (5 - (lg_sl ([.ref (E.1 4 655365 0), .int x1, .int x2, .ref qo])).length) Slot.unset).toArray = ls at hl2 ⊢
  have hl2 : lv_has ls 5 [(0, .ref (E.1 4 655365 0)), (1, .int x1), (2, .int x2), (3, .ref qo)] := hl2
  have hVS : va_S (ux_A E) s.heap s.heap [] := va_S.rf
  refine lv_aload_n hx hb dh_134_0 rfl (lv_at hl2 3 rfl) ?_
  refine lv_iconst (v := 0) hx hb dh_134_1 (by decide) ?_
  refine lv_aload_n hx hb dh_134_2 rfl (lv_at hl2 0 rfl) ?_
  refine lv_iload_n hx hb dh_134_3 rfl (lv_at hl2 1 rfl) ?_
  refine lv_iload_n hx hb dh_134_4 rfl (lv_at hl2 2 rfl) ?_
  refine fx_callv (d := d) (y2 := y_134) (q := (4, 655365, 0)) (ci := 0) (As := [.inl x1, .inl x2]) (rest := [.int 0, .ref qo]) (k := 2) S hx_sub hts hK (by decide +kernel) wl_134 wm_134 we_134 (by decide +kernel) (by decide) rfl (by decide) rfl rfl (fun v hv => by
      simp only [List.mem_cons, List.not_mem_nil, or_false] at hv
      rcases hv with rfl | rfl <;> trivial) (Nat.le_of_ble_eq_true rfl) hcall ⟨by show d + 5 ≤ 60; omega, by show 60 * d + 360 ≤ 60 * 60 + 300; omega⟩ ⟨Nat.zero_le _, Nat.zero_le _⟩ hRep hVS hl2.1 dh_134_5 (fun r0 M1 H1 locs1 hq hR1 hS1 _ hk1 => ?_)
  obtain ⟨a, rfl, hq⟩ := hq
  have ho1 := ho.keep hqo hk1
  refine lv_i2l hx hb dh_134_8 rfl ?_
  refine hx_last hx hb hK hqo ho1 hR1 (hx_up hS1) dh_134_9 (fun H2 locs2 hR2 ho2 hS2 => ?_)
  refine lv_goto (tgt := 17) hx hb dh_134_10 (by decide) ?_
  refine lv_iconst (v := 0) hx hb dh_134_17 (by decide) ?_
  refine W.widen (k := 1) (n := 6) (Nat.zero_le _) (Nat.zero_le _) ?_
  exact W.iret (hlocks := hlocks) hx hb hr (fun t ht hW => ⟨0, _, M1, rfl, ⟨rfl, a, hq, rfl⟩, by rw [ht]; exact hR2, by rw [ht]; exact ho2, hS2.F ht⟩) hS2.2.2 dh_134_18
theorem ht_134_0 {l : Launch} {E : ux_E} {M : ux_M} {x1 x2 : Int32} {qo : Nat} {v0 : Int64} (hE : ux_THok E) (hqo : ¬ ux_A E qo) (hM : fx_Met l E y_134 10 [aR 4 655365 0, aI x1, aI x2] M fx_IA) : hx_Met l E yh_134 hh_134 [aR 4 655365 0, aI x1, aI x2] qo v0 M (fun r v M1 => r = 1 ∧ v = v0 ∧ M1 = M) := by
  refine hx_ofW (by decide +kernel) ?_
  intro p e s m args below meth c s₁ B hml hv
  obtain ⟨rfl, ⟨hRep, hK⟩, ho⟩ := hv
  have hx := B.exec
  have hb : c.code = yh_134.2.1 := B.bytes
  have hr := B.returns
  have hlocks := B.notSynchronized
  have S := hx_fix B hml
  have hts := atoms_spec (ws := hx_ws yh_134 hh_134) B.pre
  have htab : c.exceptionTable.toList = tableOf hh_134 := vx_table (x := yh_134.1) B (hts _ List.mem_cons_self)
  have hl2 := lv_entry ([.ref (E.1 4 655365 0), .int x1, .int x2, .ref qo]) (n := 5) (Nat.le_of_ble_eq_true rfl)
  show W p l e (fx_room 60) s m _ below meth c s.heap [] 0 0 _ (entryFrame m ([.ref (E.1 4 655365 0), .int x1, .int x2, .ref qo] : List Value).toArray 5)
  rw [lg_entry_eq]
  generalize (lg_sl ([.ref (E.1 4 655365 0), .int x1, .int x2, .ref qo]) ++ List.replicate (5 - (lg_sl ([.ref (E.1 4 655365 0), .int x1, .int x2, .ref qo])).length) Slot.unset).toArray = ls at hl2 ⊢
  have hl2 : lv_has ls 5 [(0, .ref (E.1 4 655365 0)), (1, .int x1), (2, .int x2), (3, .ref qo)] := hl2
  have hVS : va_S (ux_A E) s.heap s.heap [] := va_S.rf
  refine lv_aload_n hx hb dh_134_0 rfl (lv_at hl2 3 rfl) ?_
  refine lv_iconst (v := 0) hx hb dh_134_1 (by decide) ?_
  refine lv_aload_n hx hb dh_134_2 rfl (lv_at hl2 0 rfl) ?_
  refine lv_iload_n hx hb dh_134_3 rfl (lv_at hl2 1 rfl) ?_
  refine lv_iload_n hx hb dh_134_4 rfl (lv_at hl2 2 rfl) ?_
  obtain ⟨-, -, ⟨hc1, hc2⟩, hnc, -⟩ := hE s s.heap hK.2.2.2.2
  refine fx_thrv (d := 10) (y2 := y_134) (q := (4, 655365, 0)) (ci := 0) (As := [.inl x1, .inl x2]) (rest := [.int 0, .ref qo]) (k := 2) S hx_sub hts hK (by decide +kernel) wl_134 wm_134 we_134 mo_134 (by decide +kernel) (by decide) rfl (by decide) rfl rfl (Nat.le_of_ble_eq_true rfl) hM ⟨Nat.le_of_ble_eq_true rfl, Nat.le_of_ble_eq_true rfl⟩ ⟨Nat.le_of_ble_eq_true rfl, Nat.le_of_ble_eq_true rfl⟩ hRep hVS hl2.1 dh_134_5 (fun ce q9 H1 locs1 hR1 hS1 _ hk1 g1 g2 g3 => ?_)
  have ho1 := ho.keep hqo hk1
  refine vx_catch (name := fx_IA) (E := fx_IA) S.2.2.2.1 [] ⟨0, 10, 13, 22⟩ [] (by rw [htab]; rfl) (fun z hz => by cases hz) (by decide) (by decide) (hx_wd hts hx_c22 rfl) (va_Nw.use rfl hc2) g1 g2 g3 ?_
  refine lv_astore (lv' := [(4, .ref q9), (0, .ref (E.1 4 655365 0)), (1, .int x1), (2, .int x2), (3, .ref qo)]) hx hb dh_134_13 hl2 (by decide) rfl (fun ls hl2 => ?_)
  refine lv_iconst (v := 1) hx hb dh_134_15 (by decide) ?_
  exact W.iret (hlocks := hlocks) hx hb hr (fun t ht hW => ⟨1, v0, M, rfl, ⟨rfl, rfl, rfl⟩, by rw [ht]; exact hR1, by rw [ht]; exact ho1, (hx_up hS1).F ht⟩) (hx_up hS1).2.2 dh_134_16
theorem hn_136 {l : Launch} {E : ux_E} {M : ux_M} {x1 : Int32} {qo : Nat} {v0 : Int64} {d : Nat} (hd37 : d ≤ 40) (hqo : ¬ ux_A E qo) {QQ : Int32 → ux_M → Prop} (hcall : ux_Call l E d y_136 [aR 4 655365 0, aI x1] M (ux_CI QQ)) : hx_Met l E yh_136 hh_136 [aR 4 655365 0, aI x1] qo v0 M (fun r v M1 => r = 0 ∧ ∃ a, QQ a M1 ∧ v = a.toInt64) := by
  refine hx_ofW (by decide +kernel) ?_
  intro p e s m args below meth c s₁ B hml hv
  obtain ⟨rfl, ⟨hRep, hK⟩, ho⟩ := hv
  have hx := B.exec
  have hb : c.code = yh_136.2.1 := B.bytes
  have hr := B.returns
  have hlocks := B.notSynchronized
  have S := hx_fix B hml
  have hts := atoms_spec (ws := hx_ws yh_136 hh_136) B.pre
  have htab : c.exceptionTable.toList = tableOf hh_136 := vx_table (x := yh_136.1) B (hts _ List.mem_cons_self)
  have hl2 := lv_entry ([.ref (E.1 4 655365 0), .int x1, .ref qo]) (n := 4) (Nat.le_of_ble_eq_true rfl)
  show W p l e (fx_room 60) s m _ below meth c s.heap [] 0 0 _ (entryFrame m ([.ref (E.1 4 655365 0), .int x1, .ref qo] : List Value).toArray 4)
  rw [lg_entry_eq]
  generalize (lg_sl ([.ref (E.1 4 655365 0), .int x1, .ref qo]) ++ List.replicate (4 - (lg_sl ([.ref (E.1 4 655365 0), .int x1, .ref qo])).length) Slot.unset).toArray = ls at hl2 ⊢
  have hl2 : lv_has ls 4 [(0, .ref (E.1 4 655365 0)), (1, .int x1), (2, .ref qo)] := hl2
  have hVS : va_S (ux_A E) s.heap s.heap [] := va_S.rf
  refine lv_aload_n hx hb dh_136_0 rfl (lv_at hl2 2 rfl) ?_
  refine lv_iconst (v := 0) hx hb dh_136_1 (by decide) ?_
  refine lv_aload_n hx hb dh_136_2 rfl (lv_at hl2 0 rfl) ?_
  refine lv_iload_n hx hb dh_136_3 rfl (lv_at hl2 1 rfl) ?_
  refine fx_callv (d := d) (y2 := y_136) (q := (4, 655365, 0)) (ci := 0) (As := [.inl x1]) (rest := [.int 0, .ref qo]) (k := 1) S hx_sub hts hK (by decide +kernel) wl_136 wm_136 we_136 (by decide +kernel) (by decide) rfl (by decide) rfl rfl (fun v hv => by rw [List.mem_singleton.mp hv]; trivial) (Nat.le_of_ble_eq_true rfl) hcall ⟨by show d + 5 ≤ 60; omega, by show 60 * d + 360 ≤ 60 * 60 + 300; omega⟩ ⟨Nat.zero_le _, Nat.zero_le _⟩ hRep hVS hl2.1 dh_136_4 (fun r0 M1 H1 locs1 hq hR1 hS1 _ hk1 => ?_)
  obtain ⟨a, rfl, hq⟩ := hq
  have ho1 := ho.keep hqo hk1
  refine lv_i2l hx hb dh_136_7 rfl ?_
  refine hx_last hx hb hK hqo ho1 hR1 (hx_up hS1) dh_136_8 (fun H2 locs2 hR2 ho2 hS2 => ?_)
  refine lv_goto (tgt := 15) hx hb dh_136_9 (by decide) ?_
  refine lv_iconst (v := 0) hx hb dh_136_15 (by decide) ?_
  refine W.widen (k := 1) (n := 6) (Nat.zero_le _) (Nat.zero_le _) ?_
  exact W.iret (hlocks := hlocks) hx hb hr (fun t ht hW => ⟨0, _, M1, rfl, ⟨rfl, a, hq, rfl⟩, by rw [ht]; exact hR2, by rw [ht]; exact ho2, hS2.F ht⟩) hS2.2.2 dh_136_16
theorem ht_136_0 {l : Launch} {E : ux_E} {M : ux_M} {x1 : Int32} {qo : Nat} {v0 : Int64} (hE : ux_THok E) (hqo : ¬ ux_A E qo) (hM : fx_Met l E y_136 10 [aR 4 655365 0, aI x1] M fx_IO) : hx_Met l E yh_136 hh_136 [aR 4 655365 0, aI x1] qo v0 M (fun r v M1 => r = 1 ∧ v = v0 ∧ M1 = M) := by
  refine hx_ofW (by decide +kernel) ?_
  intro p e s m args below meth c s₁ B hml hv
  obtain ⟨rfl, ⟨hRep, hK⟩, ho⟩ := hv
  have hx := B.exec
  have hb : c.code = yh_136.2.1 := B.bytes
  have hr := B.returns
  have hlocks := B.notSynchronized
  have S := hx_fix B hml
  have hts := atoms_spec (ws := hx_ws yh_136 hh_136) B.pre
  have htab : c.exceptionTable.toList = tableOf hh_136 := vx_table (x := yh_136.1) B (hts _ List.mem_cons_self)
  have hl2 := lv_entry ([.ref (E.1 4 655365 0), .int x1, .ref qo]) (n := 4) (Nat.le_of_ble_eq_true rfl)
  show W p l e (fx_room 60) s m _ below meth c s.heap [] 0 0 _ (entryFrame m ([.ref (E.1 4 655365 0), .int x1, .ref qo] : List Value).toArray 4)
  rw [lg_entry_eq]
  generalize (lg_sl ([.ref (E.1 4 655365 0), .int x1, .ref qo]) ++ List.replicate (4 - (lg_sl ([.ref (E.1 4 655365 0), .int x1, .ref qo])).length) Slot.unset).toArray = ls at hl2 ⊢
  have hl2 : lv_has ls 4 [(0, .ref (E.1 4 655365 0)), (1, .int x1), (2, .ref qo)] := hl2
  have hVS : va_S (ux_A E) s.heap s.heap [] := va_S.rf
  refine lv_aload_n hx hb dh_136_0 rfl (lv_at hl2 2 rfl) ?_
  refine lv_iconst (v := 0) hx hb dh_136_1 (by decide) ?_
  refine lv_aload_n hx hb dh_136_2 rfl (lv_at hl2 0 rfl) ?_
  refine lv_iload_n hx hb dh_136_3 rfl (lv_at hl2 1 rfl) ?_
  obtain ⟨-, -, ⟨hc1, hc2⟩, hnc, -⟩ := hE s s.heap hK.2.2.2.2
  refine fx_thrv (d := 10) (y2 := y_136) (q := (4, 655365, 0)) (ci := 0) (As := [.inl x1]) (rest := [.int 0, .ref qo]) (k := 1) S hx_sub hts hK (by decide +kernel) wl_136 wm_136 we_136 mo_136 (by decide +kernel) (by decide) rfl (by decide) rfl rfl (Nat.le_of_ble_eq_true rfl) hM ⟨Nat.le_of_ble_eq_true rfl, Nat.le_of_ble_eq_true rfl⟩ ⟨Nat.le_of_ble_eq_true rfl, Nat.le_of_ble_eq_true rfl⟩ hRep hVS hl2.1 dh_136_4 (fun ce q9 H1 locs1 hR1 hS1 _ hk1 g1 g2 g3 => ?_)
  have ho1 := ho.keep hqo hk1
  refine vx_catch (name := fx_IO) (E := fx_IO) S.2.2.2.1 [] ⟨0, 9, 12, 13⟩ [] (by rw [htab]; rfl) (fun z hz => by cases hz) (by decide) (by decide) (hx_wd hts hx_c13 rfl) (va_Nw.use rfl hc1) g1 g2 g3 ?_
  refine lv_astore_n (lv' := [(3, .ref q9), (0, .ref (E.1 4 655365 0)), (1, .int x1), (2, .ref qo)]) hx hb dh_136_12 rfl hl2 (by decide) rfl (fun ls hl2 => ?_)
  refine lv_iconst (v := 1) hx hb dh_136_13 (by decide) ?_
  exact W.iret (hlocks := hlocks) hx hb hr (fun t ht hW => ⟨1, v0, M, rfl, ⟨rfl, rfl, rfl⟩, by rw [ht]; exact hR1, by rw [ht]; exact ho1, (hx_up hS1).F ht⟩) (hx_up hS1).2.2 dh_136_14
theorem hn_137 {l : Launch} {E : ux_E} {M : ux_M} {x1 : Int32} {qo : Nat} {v0 : Int64} {d : Nat} (hd37 : d ≤ 40) (hqo : ¬ ux_A E qo) {QQ : Int32 → ux_M → Prop} (hcall : ux_Call l E d y_137 [aR 4 655365 0, aI x1] M (ux_CI QQ)) : hx_Met l E yh_137 hh_137 [aR 4 655365 0, aI x1] qo v0 M (fun r v M1 => r = 0 ∧ ∃ a, QQ a M1 ∧ v = a.toInt64) := by
  refine hx_ofW (by decide +kernel) ?_
  intro p e s m args below meth c s₁ B hml hv
  obtain ⟨rfl, ⟨hRep, hK⟩, ho⟩ := hv
  have hx := B.exec
  have hb : c.code = yh_137.2.1 := B.bytes
  have hr := B.returns
  have hlocks := B.notSynchronized
  have S := hx_fix B hml
  have hts := atoms_spec (ws := hx_ws yh_137 hh_137) B.pre
  have htab : c.exceptionTable.toList = tableOf hh_137 := vx_table (x := yh_137.1) B (hts _ List.mem_cons_self)
  have hl2 := lv_entry ([.ref (E.1 4 655365 0), .int x1, .ref qo]) (n := 4) (Nat.le_of_ble_eq_true rfl)
  show W p l e (fx_room 60) s m _ below meth c s.heap [] 0 0 _ (entryFrame m ([.ref (E.1 4 655365 0), .int x1, .ref qo] : List Value).toArray 4)
  rw [lg_entry_eq]
  generalize (lg_sl ([.ref (E.1 4 655365 0), .int x1, .ref qo]) ++ List.replicate (4 - (lg_sl ([.ref (E.1 4 655365 0), .int x1, .ref qo])).length) Slot.unset).toArray = ls at hl2 ⊢
  have hl2 : lv_has ls 4 [(0, .ref (E.1 4 655365 0)), (1, .int x1), (2, .ref qo)] := hl2
  have hVS : va_S (ux_A E) s.heap s.heap [] := va_S.rf
  refine lv_aload_n hx hb dh_137_0 rfl (lv_at hl2 2 rfl) ?_
  refine lv_iconst (v := 0) hx hb dh_137_1 (by decide) ?_
  refine lv_aload_n hx hb dh_137_2 rfl (lv_at hl2 0 rfl) ?_
  refine lv_iload_n hx hb dh_137_3 rfl (lv_at hl2 1 rfl) ?_
  refine fx_callv (d := d) (y2 := y_137) (q := (4, 655365, 0)) (ci := 0) (As := [.inl x1]) (rest := [.int 0, .ref qo]) (k := 1) S hx_sub hts hK (by decide +kernel) wl_137 wm_137 we_137 (by decide +kernel) (by decide) rfl (by decide) rfl rfl (fun v hv => by rw [List.mem_singleton.mp hv]; trivial) (Nat.le_of_ble_eq_true rfl) hcall ⟨by show d + 5 ≤ 60; omega, by show 60 * d + 360 ≤ 60 * 60 + 300; omega⟩ ⟨Nat.zero_le _, Nat.zero_le _⟩ hRep hVS hl2.1 dh_137_4 (fun r0 M1 H1 locs1 hq hR1 hS1 _ hk1 => ?_)
  obtain ⟨a, rfl, hq⟩ := hq
  have ho1 := ho.keep hqo hk1
  refine lv_i2l hx hb dh_137_7 rfl ?_
  refine hx_last hx hb hK hqo ho1 hR1 (hx_up hS1) dh_137_8 (fun H2 locs2 hR2 ho2 hS2 => ?_)
  refine lv_goto (tgt := 15) hx hb dh_137_9 (by decide) ?_
  refine lv_iconst (v := 0) hx hb dh_137_15 (by decide) ?_
  refine W.widen (k := 1) (n := 6) (Nat.zero_le _) (Nat.zero_le _) ?_
  exact W.iret (hlocks := hlocks) hx hb hr (fun t ht hW => ⟨0, _, M1, rfl, ⟨rfl, a, hq, rfl⟩, by rw [ht]; exact hR2, by rw [ht]; exact ho2, hS2.F ht⟩) hS2.2.2 dh_137_16
theorem ht_137_0 {l : Launch} {E : ux_E} {M : ux_M} {x1 : Int32} {qo : Nat} {v0 : Int64} (hE : ux_THok E) (hqo : ¬ ux_A E qo) (hM : fx_Met l E y_137 10 [aR 4 655365 0, aI x1] M fx_IO) : hx_Met l E yh_137 hh_137 [aR 4 655365 0, aI x1] qo v0 M (fun r v M1 => r = 1 ∧ v = v0 ∧ M1 = M) := by
  refine hx_ofW (by decide +kernel) ?_
  intro p e s m args below meth c s₁ B hml hv
  obtain ⟨rfl, ⟨hRep, hK⟩, ho⟩ := hv
  have hx := B.exec
  have hb : c.code = yh_137.2.1 := B.bytes
  have hr := B.returns
  have hlocks := B.notSynchronized
  have S := hx_fix B hml
  have hts := atoms_spec (ws := hx_ws yh_137 hh_137) B.pre
  have htab : c.exceptionTable.toList = tableOf hh_137 := vx_table (x := yh_137.1) B (hts _ List.mem_cons_self)
  have hl2 := lv_entry ([.ref (E.1 4 655365 0), .int x1, .ref qo]) (n := 4) (Nat.le_of_ble_eq_true rfl)
  show W p l e (fx_room 60) s m _ below meth c s.heap [] 0 0 _ (entryFrame m ([.ref (E.1 4 655365 0), .int x1, .ref qo] : List Value).toArray 4)
  rw [lg_entry_eq]
  generalize (lg_sl ([.ref (E.1 4 655365 0), .int x1, .ref qo]) ++ List.replicate (4 - (lg_sl ([.ref (E.1 4 655365 0), .int x1, .ref qo])).length) Slot.unset).toArray = ls at hl2 ⊢
  have hl2 : lv_has ls 4 [(0, .ref (E.1 4 655365 0)), (1, .int x1), (2, .ref qo)] := hl2
  have hVS : va_S (ux_A E) s.heap s.heap [] := va_S.rf
  refine lv_aload_n hx hb dh_137_0 rfl (lv_at hl2 2 rfl) ?_
  refine lv_iconst (v := 0) hx hb dh_137_1 (by decide) ?_
  refine lv_aload_n hx hb dh_137_2 rfl (lv_at hl2 0 rfl) ?_
  refine lv_iload_n hx hb dh_137_3 rfl (lv_at hl2 1 rfl) ?_
  obtain ⟨-, -, ⟨hc1, hc2⟩, hnc, -⟩ := hE s s.heap hK.2.2.2.2
  refine fx_thrv (d := 10) (y2 := y_137) (q := (4, 655365, 0)) (ci := 0) (As := [.inl x1]) (rest := [.int 0, .ref qo]) (k := 1) S hx_sub hts hK (by decide +kernel) wl_137 wm_137 we_137 mo_137 (by decide +kernel) (by decide) rfl (by decide) rfl rfl (Nat.le_of_ble_eq_true rfl) hM ⟨Nat.le_of_ble_eq_true rfl, Nat.le_of_ble_eq_true rfl⟩ ⟨Nat.le_of_ble_eq_true rfl, Nat.le_of_ble_eq_true rfl⟩ hRep hVS hl2.1 dh_137_4 (fun ce q9 H1 locs1 hR1 hS1 _ hk1 g1 g2 g3 => ?_)
  have ho1 := ho.keep hqo hk1
  refine vx_catch (name := fx_IO) (E := fx_IO) S.2.2.2.1 [] ⟨0, 9, 12, 13⟩ [] (by rw [htab]; rfl) (fun z hz => by cases hz) (by decide) (by decide) (hx_wd hts hx_c13 rfl) (va_Nw.use rfl hc1) g1 g2 g3 ?_
  refine lv_astore_n (lv' := [(3, .ref q9), (0, .ref (E.1 4 655365 0)), (1, .int x1), (2, .ref qo)]) hx hb dh_137_12 rfl hl2 (by decide) rfl (fun ls hl2 => ?_)
  refine lv_iconst (v := 1) hx hb dh_137_13 (by decide) ?_
  exact W.iret (hlocks := hlocks) hx hb hr (fun t ht hW => ⟨1, v0, M, rfl, ⟨rfl, rfl, rfl⟩, by rw [ht]; exact hR1, by rw [ht]; exact ho1, (hx_up hS1).F ht⟩) (hx_up hS1).2.2 dh_137_14
theorem hn_138 {l : Launch} {E : ux_E} {M : ux_M} {x1 : Int32} {qo : Nat} {v0 : Int64} {d : Nat} (hd37 : d ≤ 40) (hqo : ¬ ux_A E qo) {QQ : Int32 → ux_M → Prop} (hcall : ux_Call l E d y_138 [aR 4 655365 0, aI x1] M (ux_CI QQ)) : hx_Met l E yh_138 hh_138 [aR 4 655365 0, aI x1] qo v0 M (fun r v M1 => r = 0 ∧ ∃ a, QQ a M1 ∧ v = a.toInt64) := by
  refine hx_ofW (by decide +kernel) ?_
  intro p e s m args below meth c s₁ B hml hv
  obtain ⟨rfl, ⟨hRep, hK⟩, ho⟩ := hv
  have hx := B.exec
  have hb : c.code = yh_138.2.1 := B.bytes
  have hr := B.returns
  have hlocks := B.notSynchronized
  have S := hx_fix B hml
  have hts := atoms_spec (ws := hx_ws yh_138 hh_138) B.pre
  have htab : c.exceptionTable.toList = tableOf hh_138 := vx_table (x := yh_138.1) B (hts _ List.mem_cons_self)
  have hl2 := lv_entry ([.ref (E.1 4 655365 0), .int x1, .ref qo]) (n := 4) (Nat.le_of_ble_eq_true rfl)
  show W p l e (fx_room 60) s m _ below meth c s.heap [] 0 0 _ (entryFrame m ([.ref (E.1 4 655365 0), .int x1, .ref qo] : List Value).toArray 4)
  rw [lg_entry_eq]
  generalize (lg_sl ([.ref (E.1 4 655365 0), .int x1, .ref qo]) ++ List.replicate (4 - (lg_sl ([.ref (E.1 4 655365 0), .int x1, .ref qo])).length) Slot.unset).toArray = ls at hl2 ⊢
  have hl2 : lv_has ls 4 [(0, .ref (E.1 4 655365 0)), (1, .int x1), (2, .ref qo)] := hl2
  have hVS : va_S (ux_A E) s.heap s.heap [] := va_S.rf
  refine lv_aload_n hx hb dh_138_0 rfl (lv_at hl2 2 rfl) ?_
  refine lv_iconst (v := 0) hx hb dh_138_1 (by decide) ?_
  refine lv_aload_n hx hb dh_138_2 rfl (lv_at hl2 0 rfl) ?_
  refine lv_iload_n hx hb dh_138_3 rfl (lv_at hl2 1 rfl) ?_
  refine fx_callv (d := d) (y2 := y_138) (q := (4, 655365, 0)) (ci := 0) (As := [.inl x1]) (rest := [.int 0, .ref qo]) (k := 1) S hx_sub hts hK (by decide +kernel) wl_138 wm_138 we_138 (by decide +kernel) (by decide) rfl (by decide) rfl rfl (fun v hv => by rw [List.mem_singleton.mp hv]; trivial) (Nat.le_of_ble_eq_true rfl) hcall ⟨by show d + 5 ≤ 60; omega, by show 60 * d + 360 ≤ 60 * 60 + 300; omega⟩ ⟨Nat.zero_le _, Nat.zero_le _⟩ hRep hVS hl2.1 dh_138_4 (fun r0 M1 H1 locs1 hq hR1 hS1 _ hk1 => ?_)
  obtain ⟨a, rfl, hq⟩ := hq
  have ho1 := ho.keep hqo hk1
  refine lv_i2l hx hb dh_138_7 rfl ?_
  refine hx_last hx hb hK hqo ho1 hR1 (hx_up hS1) dh_138_8 (fun H2 locs2 hR2 ho2 hS2 => ?_)
  refine lv_goto (tgt := 15) hx hb dh_138_9 (by decide) ?_
  refine lv_iconst (v := 0) hx hb dh_138_15 (by decide) ?_
  refine W.widen (k := 1) (n := 6) (Nat.zero_le _) (Nat.zero_le _) ?_
  exact W.iret (hlocks := hlocks) hx hb hr (fun t ht hW => ⟨0, _, M1, rfl, ⟨rfl, a, hq, rfl⟩, by rw [ht]; exact hR2, by rw [ht]; exact ho2, hS2.F ht⟩) hS2.2.2 dh_138_16
theorem ht_138_0 {l : Launch} {E : ux_E} {M : ux_M} {x1 : Int32} {qo : Nat} {v0 : Int64} (hE : ux_THok E) (hqo : ¬ ux_A E qo) (hM : fx_Met l E y_138 10 [aR 4 655365 0, aI x1] M fx_IO) : hx_Met l E yh_138 hh_138 [aR 4 655365 0, aI x1] qo v0 M (fun r v M1 => r = 1 ∧ v = v0 ∧ M1 = M) := by
  refine hx_ofW (by decide +kernel) ?_
  intro p e s m args below meth c s₁ B hml hv
  obtain ⟨rfl, ⟨hRep, hK⟩, ho⟩ := hv
  have hx := B.exec
  have hb : c.code = yh_138.2.1 := B.bytes
  have hr := B.returns
  have hlocks := B.notSynchronized
  have S := hx_fix B hml
  have hts := atoms_spec (ws := hx_ws yh_138 hh_138) B.pre
  have htab : c.exceptionTable.toList = tableOf hh_138 := vx_table (x := yh_138.1) B (hts _ List.mem_cons_self)
  have hl2 := lv_entry ([.ref (E.1 4 655365 0), .int x1, .ref qo]) (n := 4) (Nat.le_of_ble_eq_true rfl)
  show W p l e (fx_room 60) s m _ below meth c s.heap [] 0 0 _ (entryFrame m ([.ref (E.1 4 655365 0), .int x1, .ref qo] : List Value).toArray 4)
  rw [lg_entry_eq]
  generalize (lg_sl ([.ref (E.1 4 655365 0), .int x1, .ref qo]) ++ List.replicate (4 - (lg_sl ([.ref (E.1 4 655365 0), .int x1, .ref qo])).length) Slot.unset).toArray = ls at hl2 ⊢
  have hl2 : lv_has ls 4 [(0, .ref (E.1 4 655365 0)), (1, .int x1), (2, .ref qo)] := hl2
  have hVS : va_S (ux_A E) s.heap s.heap [] := va_S.rf
  refine lv_aload_n hx hb dh_138_0 rfl (lv_at hl2 2 rfl) ?_
  refine lv_iconst (v := 0) hx hb dh_138_1 (by decide) ?_
  refine lv_aload_n hx hb dh_138_2 rfl (lv_at hl2 0 rfl) ?_
  refine lv_iload_n hx hb dh_138_3 rfl (lv_at hl2 1 rfl) ?_
  obtain ⟨-, -, ⟨hc1, hc2⟩, hnc, -⟩ := hE s s.heap hK.2.2.2.2
  refine fx_thrv (d := 10) (y2 := y_138) (q := (4, 655365, 0)) (ci := 0) (As := [.inl x1]) (rest := [.int 0, .ref qo]) (k := 1) S hx_sub hts hK (by decide +kernel) wl_138 wm_138 we_138 mo_138 (by decide +kernel) (by decide) rfl (by decide) rfl rfl (Nat.le_of_ble_eq_true rfl) hM ⟨Nat.le_of_ble_eq_true rfl, Nat.le_of_ble_eq_true rfl⟩ ⟨Nat.le_of_ble_eq_true rfl, Nat.le_of_ble_eq_true rfl⟩ hRep hVS hl2.1 dh_138_4 (fun ce q9 H1 locs1 hR1 hS1 _ hk1 g1 g2 g3 => ?_)
  have ho1 := ho.keep hqo hk1
  refine vx_catch (name := fx_IO) (E := fx_IO) S.2.2.2.1 [] ⟨0, 9, 12, 13⟩ [] (by rw [htab]; rfl) (fun z hz => by cases hz) (by decide) (by decide) (hx_wd hts hx_c13 rfl) (va_Nw.use rfl hc1) g1 g2 g3 ?_
  refine lv_astore_n (lv' := [(3, .ref q9), (0, .ref (E.1 4 655365 0)), (1, .int x1), (2, .ref qo)]) hx hb dh_138_12 rfl hl2 (by decide) rfl (fun ls hl2 => ?_)
  refine lv_iconst (v := 1) hx hb dh_138_13 (by decide) ?_
  exact W.iret (hlocks := hlocks) hx hb hr (fun t ht hW => ⟨1, v0, M, rfl, ⟨rfl, rfl, rfl⟩, by rw [ht]; exact hR1, by rw [ht]; exact ho1, (hx_up hS1).F ht⟩) (hx_up hS1).2.2 dh_138_14
theorem hn_139 {l : Launch} {E : ux_E} {M : ux_M} {x1 x2 : Int32} {qo : Nat} {v0 : Int64} {d : Nat} (hd37 : d ≤ 40) (hqo : ¬ ux_A E qo) {QQ : Int32 → ux_M → Prop} (hcall : ux_Call l E d y_139 [aR 4 655365 0, aI x1, aI x2] M (ux_CI QQ)) : hx_Met l E yh_139 hh_139 [aR 4 655365 0, aI x1, aI x2] qo v0 M (fun r v M1 => r = 0 ∧ ∃ a, QQ a M1 ∧ v = a.toInt64) := by
  refine hx_ofW (by decide +kernel) ?_
  intro p e s m args below meth c s₁ B hml hv
  obtain ⟨rfl, ⟨hRep, hK⟩, ho⟩ := hv
  have hx := B.exec
  have hb : c.code = yh_139.2.1 := B.bytes
  have hr := B.returns
  have hlocks := B.notSynchronized
  have S := hx_fix B hml
  have hts := atoms_spec (ws := hx_ws yh_139 hh_139) B.pre
  have htab : c.exceptionTable.toList = tableOf hh_139 := vx_table (x := yh_139.1) B (hts _ List.mem_cons_self)
  have hl2 := lv_entry ([.ref (E.1 4 655365 0), .int x1, .int x2, .ref qo]) (n := 5) (Nat.le_of_ble_eq_true rfl)
  show W p l e (fx_room 60) s m _ below meth c s.heap [] 0 0 _ (entryFrame m ([.ref (E.1 4 655365 0), .int x1, .int x2, .ref qo] : List Value).toArray 5)
  rw [lg_entry_eq]
  generalize (lg_sl ([.ref (E.1 4 655365 0), .int x1, .int x2, .ref qo]) ++ List.replicate (5 - (lg_sl ([.ref (E.1 4 655365 0), .int x1, .int x2, .ref qo])).length) Slot.unset).toArray = ls at hl2 ⊢
  have hl2 : lv_has ls 5 [(0, .ref (E.1 4 655365 0)), (1, .int x1), (2, .int x2), (3, .ref qo)] := hl2
  have hVS : va_S (ux_A E) s.heap s.heap [] := va_S.rf
  refine lv_aload_n hx hb dh_139_0 rfl (lv_at hl2 3 rfl) ?_
  refine lv_iconst (v := 0) hx hb dh_139_1 (by decide) ?_
  refine lv_aload_n hx hb dh_139_2 rfl (lv_at hl2 0 rfl) ?_
  refine lv_iload_n hx hb dh_139_3 rfl (lv_at hl2 1 rfl) ?_
  refine lv_iload_n hx hb dh_139_4 rfl (lv_at hl2 2 rfl) ?_
  refine fx_callv (d := d) (y2 := y_139) (q := (4, 655365, 0)) (ci := 0) (As := [.inl x1, .inl x2]) (rest := [.int 0, .ref qo]) (k := 2) S hx_sub hts hK (by decide +kernel) wl_139 wm_139 we_139 (by decide +kernel) (by decide) rfl (by decide) rfl rfl (fun v hv => by
      simp only [List.mem_cons, List.not_mem_nil, or_false] at hv
      rcases hv with rfl | rfl <;> trivial) (Nat.le_of_ble_eq_true rfl) hcall ⟨by show d + 5 ≤ 60; omega, by show 60 * d + 360 ≤ 60 * 60 + 300; omega⟩ ⟨Nat.zero_le _, Nat.zero_le _⟩ hRep hVS hl2.1 dh_139_5 (fun r0 M1 H1 locs1 hq hR1 hS1 _ hk1 => ?_)
  obtain ⟨a, rfl, hq⟩ := hq
  have ho1 := ho.keep hqo hk1
  refine lv_i2l hx hb dh_139_8 rfl ?_
  refine hx_last hx hb hK hqo ho1 hR1 (hx_up hS1) dh_139_9 (fun H2 locs2 hR2 ho2 hS2 => ?_)
  refine lv_goto (tgt := 21) hx hb dh_139_10 (by decide) ?_
  refine lv_iconst (v := 0) hx hb dh_139_21 (by decide) ?_
  refine W.widen (k := 1) (n := 6) (Nat.zero_le _) (Nat.zero_le _) ?_
  exact W.iret (hlocks := hlocks) hx hb hr (fun t ht hW => ⟨0, _, M1, rfl, ⟨rfl, a, hq, rfl⟩, by rw [ht]; exact hR2, by rw [ht]; exact ho2, hS2.F ht⟩) hS2.2.2 dh_139_22
theorem ht_139_0 {l : Launch} {E : ux_E} {M : ux_M} {x1 x2 : Int32} {qo : Nat} {v0 : Int64} (hE : ux_THok E) (hqo : ¬ ux_A E qo) (hM : fx_Met l E y_139 10 [aR 4 655365 0, aI x1, aI x2] M fx_IO) : hx_Met l E yh_139 hh_139 [aR 4 655365 0, aI x1, aI x2] qo v0 M (fun r v M1 => r = 1 ∧ v = v0 ∧ M1 = M) := by
  refine hx_ofW (by decide +kernel) ?_
  intro p e s m args below meth c s₁ B hml hv
  obtain ⟨rfl, ⟨hRep, hK⟩, ho⟩ := hv
  have hx := B.exec
  have hb : c.code = yh_139.2.1 := B.bytes
  have hr := B.returns
  have hlocks := B.notSynchronized
  have S := hx_fix B hml
  have hts := atoms_spec (ws := hx_ws yh_139 hh_139) B.pre
  have htab : c.exceptionTable.toList = tableOf hh_139 := vx_table (x := yh_139.1) B (hts _ List.mem_cons_self)
  have hl2 := lv_entry ([.ref (E.1 4 655365 0), .int x1, .int x2, .ref qo]) (n := 5) (Nat.le_of_ble_eq_true rfl)
  show W p l e (fx_room 60) s m _ below meth c s.heap [] 0 0 _ (entryFrame m ([.ref (E.1 4 655365 0), .int x1, .int x2, .ref qo] : List Value).toArray 5)
  rw [lg_entry_eq]
  generalize (lg_sl ([.ref (E.1 4 655365 0), .int x1, .int x2, .ref qo]) ++ List.replicate (5 - (lg_sl ([.ref (E.1 4 655365 0), .int x1, .int x2, .ref qo])).length) Slot.unset).toArray = ls at hl2 ⊢
  have hl2 : lv_has ls 5 [(0, .ref (E.1 4 655365 0)), (1, .int x1), (2, .int x2), (3, .ref qo)] := hl2
  have hVS : va_S (ux_A E) s.heap s.heap [] := va_S.rf
  refine lv_aload_n hx hb dh_139_0 rfl (lv_at hl2 3 rfl) ?_
  refine lv_iconst (v := 0) hx hb dh_139_1 (by decide) ?_
  refine lv_aload_n hx hb dh_139_2 rfl (lv_at hl2 0 rfl) ?_
  refine lv_iload_n hx hb dh_139_3 rfl (lv_at hl2 1 rfl) ?_
  refine lv_iload_n hx hb dh_139_4 rfl (lv_at hl2 2 rfl) ?_
  obtain ⟨-, -, ⟨hc1, hc2⟩, hnc, -⟩ := hE s s.heap hK.2.2.2.2
  refine fx_thrv (d := 10) (y2 := y_139) (q := (4, 655365, 0)) (ci := 0) (As := [.inl x1, .inl x2]) (rest := [.int 0, .ref qo]) (k := 2) S hx_sub hts hK (by decide +kernel) wl_139 wm_139 we_139 mo_139 (by decide +kernel) (by decide) rfl (by decide) rfl rfl (Nat.le_of_ble_eq_true rfl) hM ⟨Nat.le_of_ble_eq_true rfl, Nat.le_of_ble_eq_true rfl⟩ ⟨Nat.le_of_ble_eq_true rfl, Nat.le_of_ble_eq_true rfl⟩ hRep hVS hl2.1 dh_139_5 (fun ce q9 H1 locs1 hR1 hS1 _ hk1 g1 g2 g3 => ?_)
  have ho1 := ho.keep hqo hk1
  refine vx_catch (name := fx_IO) (E := fx_IO) S.2.2.2.1 [] ⟨0, 10, 13, 13⟩ [⟨0, 10, 17, 22⟩] (by rw [htab]; rfl) (fun z hz => by cases hz) (by decide) (by decide) (hx_wd hts hx_c13 rfl) (va_Nw.use rfl hc1) g1 g2 g3 ?_
  refine lv_astore (lv' := [(4, .ref q9), (0, .ref (E.1 4 655365 0)), (1, .int x1), (2, .int x2), (3, .ref qo)]) hx hb dh_139_13 hl2 (by decide) rfl (fun ls hl2 => ?_)
  refine lv_iconst (v := 1) hx hb dh_139_15 (by decide) ?_
  exact W.iret (hlocks := hlocks) hx hb hr (fun t ht hW => ⟨1, v0, M, rfl, ⟨rfl, rfl, rfl⟩, by rw [ht]; exact hR1, by rw [ht]; exact ho1, (hx_up hS1).F ht⟩) (hx_up hS1).2.2 dh_139_16
theorem ht_139_1 {l : Launch} {E : ux_E} {M : ux_M} {x1 x2 : Int32} {qo : Nat} {v0 : Int64} (hE : ux_THok E) (hqo : ¬ ux_A E qo) (hM : fx_Met l E y_139 10 [aR 4 655365 0, aI x1, aI x2] M fx_IA) : hx_Met l E yh_139 hh_139 [aR 4 655365 0, aI x1, aI x2] qo v0 M (fun r v M1 => r = 2 ∧ v = v0 ∧ M1 = M) := by
  refine hx_ofW (by decide +kernel) ?_
  intro p e s m args below meth c s₁ B hml hv
  obtain ⟨rfl, ⟨hRep, hK⟩, ho⟩ := hv
  have hx := B.exec
  have hb : c.code = yh_139.2.1 := B.bytes
  have hr := B.returns
  have hlocks := B.notSynchronized
  have S := hx_fix B hml
  have hts := atoms_spec (ws := hx_ws yh_139 hh_139) B.pre
  have htab : c.exceptionTable.toList = tableOf hh_139 := vx_table (x := yh_139.1) B (hts _ List.mem_cons_self)
  have hl2 := lv_entry ([.ref (E.1 4 655365 0), .int x1, .int x2, .ref qo]) (n := 5) (Nat.le_of_ble_eq_true rfl)
  show W p l e (fx_room 60) s m _ below meth c s.heap [] 0 0 _ (entryFrame m ([.ref (E.1 4 655365 0), .int x1, .int x2, .ref qo] : List Value).toArray 5)
  rw [lg_entry_eq]
  generalize (lg_sl ([.ref (E.1 4 655365 0), .int x1, .int x2, .ref qo]) ++ List.replicate (5 - (lg_sl ([.ref (E.1 4 655365 0), .int x1, .int x2, .ref qo])).length) Slot.unset).toArray = ls at hl2 ⊢
  have hl2 : lv_has ls 5 [(0, .ref (E.1 4 655365 0)), (1, .int x1), (2, .int x2), (3, .ref qo)] := hl2
  have hVS : va_S (ux_A E) s.heap s.heap [] := va_S.rf
  refine lv_aload_n hx hb dh_139_0 rfl (lv_at hl2 3 rfl) ?_
  refine lv_iconst (v := 0) hx hb dh_139_1 (by decide) ?_
  refine lv_aload_n hx hb dh_139_2 rfl (lv_at hl2 0 rfl) ?_
  refine lv_iload_n hx hb dh_139_3 rfl (lv_at hl2 1 rfl) ?_
  refine lv_iload_n hx hb dh_139_4 rfl (lv_at hl2 2 rfl) ?_
  obtain ⟨-, -, ⟨hc1, hc2⟩, hnc, -⟩ := hE s s.heap hK.2.2.2.2
  refine fx_thrv (d := 10) (y2 := y_139) (q := (4, 655365, 0)) (ci := 0) (As := [.inl x1, .inl x2]) (rest := [.int 0, .ref qo]) (k := 2) S hx_sub hts hK (by decide +kernel) wl_139 wm_139 we_139 mo_139 (by decide +kernel) (by decide) rfl (by decide) rfl rfl (Nat.le_of_ble_eq_true rfl) hM ⟨Nat.le_of_ble_eq_true rfl, Nat.le_of_ble_eq_true rfl⟩ ⟨Nat.le_of_ble_eq_true rfl, Nat.le_of_ble_eq_true rfl⟩ hRep hVS hl2.1 dh_139_5 (fun ce q9 H1 locs1 hR1 hS1 _ hk1 g1 g2 g3 => ?_)
  have ho1 := ho.keep hqo hk1
  refine vx_catch (name := fx_IA) (E := fx_IA) S.2.2.2.1 [⟨0, 10, 13, 13⟩] ⟨0, 10, 17, 22⟩ [] (by rw [htab]; rfl) (fun z hz => by rw [List.mem_singleton.mp hz]; exact .inr ⟨by decide, fx_IO, hx_wd hts hx_c13 rfl, hnc⟩) (by decide) (by decide) (hx_wd hts hx_c22 rfl) (va_Nw.use rfl hc2) g1 g2 g3 ?_
  refine lv_astore (lv' := [(4, .ref q9), (0, .ref (E.1 4 655365 0)), (1, .int x1), (2, .int x2), (3, .ref qo)]) hx hb dh_139_17 hl2 (by decide) rfl (fun ls hl2 => ?_)
  refine lv_iconst (v := 2) hx hb dh_139_19 (by decide) ?_
  exact W.iret (hlocks := hlocks) hx hb hr (fun t ht hW => ⟨2, v0, M, rfl, ⟨rfl, rfl, rfl⟩, by rw [ht]; exact hR1, by rw [ht]; exact ho1, (hx_up hS1).F ht⟩) (hx_up hS1).2.2 dh_139_20
theorem hn_140 {l : Launch} {E : ux_E} {M : ux_M} {x1 x2 : Int32} {qo : Nat} {v0 : Int64} {d : Nat} (hd37 : d ≤ 40) (hqo : ¬ ux_A E qo) {QQ : Int32 → ux_M → Prop} (hcall : ux_Call l E d y_140 [aR 4 655365 0, aI x1, aI x2] M (ux_CI QQ)) : hx_Met l E yh_140 hh_140 [aR 4 655365 0, aI x1, aI x2] qo v0 M (fun r v M1 => r = 0 ∧ ∃ a, QQ a M1 ∧ v = a.toInt64) := by
  refine hx_ofW (by decide +kernel) ?_
  intro p e s m args below meth c s₁ B hml hv
  obtain ⟨rfl, ⟨hRep, hK⟩, ho⟩ := hv
  have hx := B.exec
  have hb : c.code = yh_140.2.1 := B.bytes
  have hr := B.returns
  have hlocks := B.notSynchronized
  have S := hx_fix B hml
  have hts := atoms_spec (ws := hx_ws yh_140 hh_140) B.pre
  have htab : c.exceptionTable.toList = tableOf hh_140 := vx_table (x := yh_140.1) B (hts _ List.mem_cons_self)
  have hl2 := lv_entry ([.ref (E.1 4 655365 0), .int x1, .int x2, .ref qo]) (n := 5) (Nat.le_of_ble_eq_true rfl)
  show W p l e (fx_room 60) s m _ below meth c s.heap [] 0 0 _ (entryFrame m ([.ref (E.1 4 655365 0), .int x1, .int x2, .ref qo] : List Value).toArray 5)
  rw [lg_entry_eq]
  generalize (lg_sl ([.ref (E.1 4 655365 0), .int x1, .int x2, .ref qo]) ++ List.replicate (5 - (lg_sl ([.ref (E.1 4 655365 0), .int x1, .int x2, .ref qo])).length) Slot.unset).toArray = ls at hl2 ⊢
  have hl2 : lv_has ls 5 [(0, .ref (E.1 4 655365 0)), (1, .int x1), (2, .int x2), (3, .ref qo)] := hl2
  have hVS : va_S (ux_A E) s.heap s.heap [] := va_S.rf
  refine lv_aload_n hx hb dh_140_0 rfl (lv_at hl2 3 rfl) ?_
  refine lv_iconst (v := 0) hx hb dh_140_1 (by decide) ?_
  refine lv_aload_n hx hb dh_140_2 rfl (lv_at hl2 0 rfl) ?_
  refine lv_iload_n hx hb dh_140_3 rfl (lv_at hl2 1 rfl) ?_
  refine lv_iload_n hx hb dh_140_4 rfl (lv_at hl2 2 rfl) ?_
  refine fx_callv (d := d) (y2 := y_140) (q := (4, 655365, 0)) (ci := 0) (As := [.inl x1, .inl x2]) (rest := [.int 0, .ref qo]) (k := 2) S hx_sub hts hK (by decide +kernel) wl_140 wm_140 we_140 (by decide +kernel) (by decide) rfl (by decide) rfl rfl (fun v hv => by
      simp only [List.mem_cons, List.not_mem_nil, or_false] at hv
      rcases hv with rfl | rfl <;> trivial) (Nat.le_of_ble_eq_true rfl) hcall ⟨by show d + 5 ≤ 60; omega, by show 60 * d + 360 ≤ 60 * 60 + 300; omega⟩ ⟨Nat.zero_le _, Nat.zero_le _⟩ hRep hVS hl2.1 dh_140_5 (fun r0 M1 H1 locs1 hq hR1 hS1 _ hk1 => ?_)
  obtain ⟨a, rfl, hq⟩ := hq
  have ho1 := ho.keep hqo hk1
  refine lv_i2l hx hb dh_140_8 rfl ?_
  refine hx_last hx hb hK hqo ho1 hR1 (hx_up hS1) dh_140_9 (fun H2 locs2 hR2 ho2 hS2 => ?_)
  refine lv_goto (tgt := 21) hx hb dh_140_10 (by decide) ?_
  refine lv_iconst (v := 0) hx hb dh_140_21 (by decide) ?_
  refine W.widen (k := 1) (n := 6) (Nat.zero_le _) (Nat.zero_le _) ?_
  exact W.iret (hlocks := hlocks) hx hb hr (fun t ht hW => ⟨0, _, M1, rfl, ⟨rfl, a, hq, rfl⟩, by rw [ht]; exact hR2, by rw [ht]; exact ho2, hS2.F ht⟩) hS2.2.2 dh_140_22
theorem ht_140_0 {l : Launch} {E : ux_E} {M : ux_M} {x1 x2 : Int32} {qo : Nat} {v0 : Int64} (hE : ux_THok E) (hqo : ¬ ux_A E qo) (hM : fx_Met l E y_140 10 [aR 4 655365 0, aI x1, aI x2] M fx_IO) : hx_Met l E yh_140 hh_140 [aR 4 655365 0, aI x1, aI x2] qo v0 M (fun r v M1 => r = 1 ∧ v = v0 ∧ M1 = M) := by
  refine hx_ofW (by decide +kernel) ?_
  intro p e s m args below meth c s₁ B hml hv
  obtain ⟨rfl, ⟨hRep, hK⟩, ho⟩ := hv
  have hx := B.exec
  have hb : c.code = yh_140.2.1 := B.bytes
  have hr := B.returns
  have hlocks := B.notSynchronized
  have S := hx_fix B hml
  have hts := atoms_spec (ws := hx_ws yh_140 hh_140) B.pre
  have htab : c.exceptionTable.toList = tableOf hh_140 := vx_table (x := yh_140.1) B (hts _ List.mem_cons_self)
  have hl2 := lv_entry ([.ref (E.1 4 655365 0), .int x1, .int x2, .ref qo]) (n := 5) (Nat.le_of_ble_eq_true rfl)
  show W p l e (fx_room 60) s m _ below meth c s.heap [] 0 0 _ (entryFrame m ([.ref (E.1 4 655365 0), .int x1, .int x2, .ref qo] : List Value).toArray 5)
  rw [lg_entry_eq]
  generalize (lg_sl ([.ref (E.1 4 655365 0), .int x1, .int x2, .ref qo]) ++ List.replicate (5 - (lg_sl ([.ref (E.1 4 655365 0), .int x1, .int x2, .ref qo])).length) Slot.unset).toArray = ls at hl2 ⊢
  have hl2 : lv_has ls 5 [(0, .ref (E.1 4 655365 0)), (1, .int x1), (2, .int x2), (3, .ref qo)] := hl2
  have hVS : va_S (ux_A E) s.heap s.heap [] := va_S.rf
  refine lv_aload_n hx hb dh_140_0 rfl (lv_at hl2 3 rfl) ?_
  refine lv_iconst (v := 0) hx hb dh_140_1 (by decide) ?_
  refine lv_aload_n hx hb dh_140_2 rfl (lv_at hl2 0 rfl) ?_
  refine lv_iload_n hx hb dh_140_3 rfl (lv_at hl2 1 rfl) ?_
  refine lv_iload_n hx hb dh_140_4 rfl (lv_at hl2 2 rfl) ?_
  obtain ⟨-, -, ⟨hc1, hc2⟩, hnc, -⟩ := hE s s.heap hK.2.2.2.2
  refine fx_thrv (d := 10) (y2 := y_140) (q := (4, 655365, 0)) (ci := 0) (As := [.inl x1, .inl x2]) (rest := [.int 0, .ref qo]) (k := 2) S hx_sub hts hK (by decide +kernel) wl_140 wm_140 we_140 mo_140 (by decide +kernel) (by decide) rfl (by decide) rfl rfl (Nat.le_of_ble_eq_true rfl) hM ⟨Nat.le_of_ble_eq_true rfl, Nat.le_of_ble_eq_true rfl⟩ ⟨Nat.le_of_ble_eq_true rfl, Nat.le_of_ble_eq_true rfl⟩ hRep hVS hl2.1 dh_140_5 (fun ce q9 H1 locs1 hR1 hS1 _ hk1 g1 g2 g3 => ?_)
  have ho1 := ho.keep hqo hk1
  refine vx_catch (name := fx_IO) (E := fx_IO) S.2.2.2.1 [] ⟨0, 10, 13, 13⟩ [⟨0, 10, 17, 22⟩] (by rw [htab]; rfl) (fun z hz => by cases hz) (by decide) (by decide) (hx_wd hts hx_c13 rfl) (va_Nw.use rfl hc1) g1 g2 g3 ?_
  refine lv_astore (lv' := [(4, .ref q9), (0, .ref (E.1 4 655365 0)), (1, .int x1), (2, .int x2), (3, .ref qo)]) hx hb dh_140_13 hl2 (by decide) rfl (fun ls hl2 => ?_)
  refine lv_iconst (v := 1) hx hb dh_140_15 (by decide) ?_
  exact W.iret (hlocks := hlocks) hx hb hr (fun t ht hW => ⟨1, v0, M, rfl, ⟨rfl, rfl, rfl⟩, by rw [ht]; exact hR1, by rw [ht]; exact ho1, (hx_up hS1).F ht⟩) (hx_up hS1).2.2 dh_140_16
theorem ht_140_1 {l : Launch} {E : ux_E} {M : ux_M} {x1 x2 : Int32} {qo : Nat} {v0 : Int64} (hE : ux_THok E) (hqo : ¬ ux_A E qo) (hM : fx_Met l E y_140 10 [aR 4 655365 0, aI x1, aI x2] M fx_IA) : hx_Met l E yh_140 hh_140 [aR 4 655365 0, aI x1, aI x2] qo v0 M (fun r v M1 => r = 2 ∧ v = v0 ∧ M1 = M) := by
  refine hx_ofW (by decide +kernel) ?_
  intro p e s m args below meth c s₁ B hml hv
  obtain ⟨rfl, ⟨hRep, hK⟩, ho⟩ := hv
  have hx := B.exec
  have hb : c.code = yh_140.2.1 := B.bytes
  have hr := B.returns
  have hlocks := B.notSynchronized
  have S := hx_fix B hml
  have hts := atoms_spec (ws := hx_ws yh_140 hh_140) B.pre
  have htab : c.exceptionTable.toList = tableOf hh_140 := vx_table (x := yh_140.1) B (hts _ List.mem_cons_self)
  have hl2 := lv_entry ([.ref (E.1 4 655365 0), .int x1, .int x2, .ref qo]) (n := 5) (Nat.le_of_ble_eq_true rfl)
  show W p l e (fx_room 60) s m _ below meth c s.heap [] 0 0 _ (entryFrame m ([.ref (E.1 4 655365 0), .int x1, .int x2, .ref qo] : List Value).toArray 5)
  rw [lg_entry_eq]
  generalize (lg_sl ([.ref (E.1 4 655365 0), .int x1, .int x2, .ref qo]) ++ List.replicate (5 - (lg_sl ([.ref (E.1 4 655365 0), .int x1, .int x2, .ref qo])).length) Slot.unset).toArray = ls at hl2 ⊢
  have hl2 : lv_has ls 5 [(0, .ref (E.1 4 655365 0)), (1, .int x1), (2, .int x2), (3, .ref qo)] := hl2
  have hVS : va_S (ux_A E) s.heap s.heap [] := va_S.rf
  refine lv_aload_n hx hb dh_140_0 rfl (lv_at hl2 3 rfl) ?_
  refine lv_iconst (v := 0) hx hb dh_140_1 (by decide) ?_
  refine lv_aload_n hx hb dh_140_2 rfl (lv_at hl2 0 rfl) ?_
  refine lv_iload_n hx hb dh_140_3 rfl (lv_at hl2 1 rfl) ?_
  refine lv_iload_n hx hb dh_140_4 rfl (lv_at hl2 2 rfl) ?_
  obtain ⟨-, -, ⟨hc1, hc2⟩, hnc, -⟩ := hE s s.heap hK.2.2.2.2
  refine fx_thrv (d := 10) (y2 := y_140) (q := (4, 655365, 0)) (ci := 0) (As := [.inl x1, .inl x2]) (rest := [.int 0, .ref qo]) (k := 2) S hx_sub hts hK (by decide +kernel) wl_140 wm_140 we_140 mo_140 (by decide +kernel) (by decide) rfl (by decide) rfl rfl (Nat.le_of_ble_eq_true rfl) hM ⟨Nat.le_of_ble_eq_true rfl, Nat.le_of_ble_eq_true rfl⟩ ⟨Nat.le_of_ble_eq_true rfl, Nat.le_of_ble_eq_true rfl⟩ hRep hVS hl2.1 dh_140_5 (fun ce q9 H1 locs1 hR1 hS1 _ hk1 g1 g2 g3 => ?_)
  have ho1 := ho.keep hqo hk1
  refine vx_catch (name := fx_IA) (E := fx_IA) S.2.2.2.1 [⟨0, 10, 13, 13⟩] ⟨0, 10, 17, 22⟩ [] (by rw [htab]; rfl) (fun z hz => by rw [List.mem_singleton.mp hz]; exact .inr ⟨by decide, fx_IO, hx_wd hts hx_c13 rfl, hnc⟩) (by decide) (by decide) (hx_wd hts hx_c22 rfl) (va_Nw.use rfl hc2) g1 g2 g3 ?_
  refine lv_astore (lv' := [(4, .ref q9), (0, .ref (E.1 4 655365 0)), (1, .int x1), (2, .int x2), (3, .ref qo)]) hx hb dh_140_17 hl2 (by decide) rfl (fun ls hl2 => ?_)
  refine lv_iconst (v := 2) hx hb dh_140_19 (by decide) ?_
  exact W.iret (hlocks := hlocks) hx hb hr (fun t ht hW => ⟨2, v0, M, rfl, ⟨rfl, rfl, rfl⟩, by rw [ht]; exact hR1, by rw [ht]; exact ho1, (hx_up hS1).F ht⟩) (hx_up hS1).2.2 dh_140_20
theorem hn_141 {l : Launch} {E : ux_E} {M : ux_M} {x1 : Int32} {qo : Nat} {v0 : Int64} {d : Nat} (hd37 : d ≤ 40) (hqo : ¬ ux_A E qo) {QQ : Int32 → ux_M → Prop} (hcall : ux_Call l E d y_141 [aR 4 655365 0, aI x1] M (ux_CI QQ)) : hx_Met l E yh_141 hh_141 [aR 4 655365 0, aI x1] qo v0 M (fun r v M1 => r = 0 ∧ ∃ a, QQ a M1 ∧ v = a.toInt64) := by
  refine hx_ofW (by decide +kernel) ?_
  intro p e s m args below meth c s₁ B hml hv
  obtain ⟨rfl, ⟨hRep, hK⟩, ho⟩ := hv
  have hx := B.exec
  have hb : c.code = yh_141.2.1 := B.bytes
  have hr := B.returns
  have hlocks := B.notSynchronized
  have S := hx_fix B hml
  have hts := atoms_spec (ws := hx_ws yh_141 hh_141) B.pre
  have htab : c.exceptionTable.toList = tableOf hh_141 := vx_table (x := yh_141.1) B (hts _ List.mem_cons_self)
  have hl2 := lv_entry ([.ref (E.1 4 655365 0), .int x1, .ref qo]) (n := 4) (Nat.le_of_ble_eq_true rfl)
  show W p l e (fx_room 60) s m _ below meth c s.heap [] 0 0 _ (entryFrame m ([.ref (E.1 4 655365 0), .int x1, .ref qo] : List Value).toArray 4)
  rw [lg_entry_eq]
  generalize (lg_sl ([.ref (E.1 4 655365 0), .int x1, .ref qo]) ++ List.replicate (4 - (lg_sl ([.ref (E.1 4 655365 0), .int x1, .ref qo])).length) Slot.unset).toArray = ls at hl2 ⊢
  have hl2 : lv_has ls 4 [(0, .ref (E.1 4 655365 0)), (1, .int x1), (2, .ref qo)] := hl2
  have hVS : va_S (ux_A E) s.heap s.heap [] := va_S.rf
  refine lv_aload_n hx hb dh_141_0 rfl (lv_at hl2 2 rfl) ?_
  refine lv_iconst (v := 0) hx hb dh_141_1 (by decide) ?_
  refine lv_aload_n hx hb dh_141_2 rfl (lv_at hl2 0 rfl) ?_
  refine lv_iload_n hx hb dh_141_3 rfl (lv_at hl2 1 rfl) ?_
  refine fx_callv (d := d) (y2 := y_141) (q := (4, 655365, 0)) (ci := 0) (As := [.inl x1]) (rest := [.int 0, .ref qo]) (k := 1) S hx_sub hts hK (by decide +kernel) wl_141 wm_141 we_141 (by decide +kernel) (by decide) rfl (by decide) rfl rfl (fun v hv => by rw [List.mem_singleton.mp hv]; trivial) (Nat.le_of_ble_eq_true rfl) hcall ⟨by show d + 5 ≤ 60; omega, by show 60 * d + 360 ≤ 60 * 60 + 300; omega⟩ ⟨Nat.zero_le _, Nat.zero_le _⟩ hRep hVS hl2.1 dh_141_4 (fun r0 M1 H1 locs1 hq hR1 hS1 _ hk1 => ?_)
  obtain ⟨a, rfl, hq⟩ := hq
  have ho1 := ho.keep hqo hk1
  refine lv_i2l hx hb dh_141_7 rfl ?_
  refine hx_last hx hb hK hqo ho1 hR1 (hx_up hS1) dh_141_8 (fun H2 locs2 hR2 ho2 hS2 => ?_)
  refine lv_goto (tgt := 15) hx hb dh_141_9 (by decide) ?_
  refine lv_iconst (v := 0) hx hb dh_141_15 (by decide) ?_
  refine W.widen (k := 1) (n := 6) (Nat.zero_le _) (Nat.zero_le _) ?_
  exact W.iret (hlocks := hlocks) hx hb hr (fun t ht hW => ⟨0, _, M1, rfl, ⟨rfl, a, hq, rfl⟩, by rw [ht]; exact hR2, by rw [ht]; exact ho2, hS2.F ht⟩) hS2.2.2 dh_141_16
theorem ht_141_0 {l : Launch} {E : ux_E} {M : ux_M} {x1 : Int32} {qo : Nat} {v0 : Int64} (hE : ux_THok E) (hqo : ¬ ux_A E qo) (hM : fx_Met l E y_141 10 [aR 4 655365 0, aI x1] M fx_IO) : hx_Met l E yh_141 hh_141 [aR 4 655365 0, aI x1] qo v0 M (fun r v M1 => r = 1 ∧ v = v0 ∧ M1 = M) := by
  refine hx_ofW (by decide +kernel) ?_
  intro p e s m args below meth c s₁ B hml hv
  obtain ⟨rfl, ⟨hRep, hK⟩, ho⟩ := hv
  have hx := B.exec
  have hb : c.code = yh_141.2.1 := B.bytes
  have hr := B.returns
  have hlocks := B.notSynchronized
  have S := hx_fix B hml
  have hts := atoms_spec (ws := hx_ws yh_141 hh_141) B.pre
  have htab : c.exceptionTable.toList = tableOf hh_141 := vx_table (x := yh_141.1) B (hts _ List.mem_cons_self)
  have hl2 := lv_entry ([.ref (E.1 4 655365 0), .int x1, .ref qo]) (n := 4) (Nat.le_of_ble_eq_true rfl)
  show W p l e (fx_room 60) s m _ below meth c s.heap [] 0 0 _ (entryFrame m ([.ref (E.1 4 655365 0), .int x1, .ref qo] : List Value).toArray 4)
  rw [lg_entry_eq]
  generalize (lg_sl ([.ref (E.1 4 655365 0), .int x1, .ref qo]) ++ List.replicate (4 - (lg_sl ([.ref (E.1 4 655365 0), .int x1, .ref qo])).length) Slot.unset).toArray = ls at hl2 ⊢
  have hl2 : lv_has ls 4 [(0, .ref (E.1 4 655365 0)), (1, .int x1), (2, .ref qo)] := hl2
  have hVS : va_S (ux_A E) s.heap s.heap [] := va_S.rf
  refine lv_aload_n hx hb dh_141_0 rfl (lv_at hl2 2 rfl) ?_
  refine lv_iconst (v := 0) hx hb dh_141_1 (by decide) ?_
  refine lv_aload_n hx hb dh_141_2 rfl (lv_at hl2 0 rfl) ?_
  refine lv_iload_n hx hb dh_141_3 rfl (lv_at hl2 1 rfl) ?_
  obtain ⟨-, -, ⟨hc1, hc2⟩, hnc, -⟩ := hE s s.heap hK.2.2.2.2
  refine fx_thrv (d := 10) (y2 := y_141) (q := (4, 655365, 0)) (ci := 0) (As := [.inl x1]) (rest := [.int 0, .ref qo]) (k := 1) S hx_sub hts hK (by decide +kernel) wl_141 wm_141 we_141 mo_141 (by decide +kernel) (by decide) rfl (by decide) rfl rfl (Nat.le_of_ble_eq_true rfl) hM ⟨Nat.le_of_ble_eq_true rfl, Nat.le_of_ble_eq_true rfl⟩ ⟨Nat.le_of_ble_eq_true rfl, Nat.le_of_ble_eq_true rfl⟩ hRep hVS hl2.1 dh_141_4 (fun ce q9 H1 locs1 hR1 hS1 _ hk1 g1 g2 g3 => ?_)
  have ho1 := ho.keep hqo hk1
  refine vx_catch (name := fx_IO) (E := fx_IO) S.2.2.2.1 [] ⟨0, 9, 12, 13⟩ [] (by rw [htab]; rfl) (fun z hz => by cases hz) (by decide) (by decide) (hx_wd hts hx_c13 rfl) (va_Nw.use rfl hc1) g1 g2 g3 ?_
  refine lv_astore_n (lv' := [(3, .ref q9), (0, .ref (E.1 4 655365 0)), (1, .int x1), (2, .ref qo)]) hx hb dh_141_12 rfl hl2 (by decide) rfl (fun ls hl2 => ?_)
  refine lv_iconst (v := 1) hx hb dh_141_13 (by decide) ?_
  exact W.iret (hlocks := hlocks) hx hb hr (fun t ht hW => ⟨1, v0, M, rfl, ⟨rfl, rfl, rfl⟩, by rw [ht]; exact hR1, by rw [ht]; exact ho1, (hx_up hS1).F ht⟩) (hx_up hS1).2.2 dh_141_14
theorem hn_143 {l : Launch} {E : ux_E} {M : ux_M} {x1 : Int32} {qo : Nat} {v0 : Int64} {d : Nat} (hd37 : d ≤ 40) (hqo : ¬ ux_A E qo) {QQ : Int32 → ux_M → Prop} (hcall : ux_Call l E d y_143 [aR 4 655365 0, aI x1] M (ux_CI QQ)) : hx_Met l E yh_143 hh_143 [aR 4 655365 0, aI x1] qo v0 M (fun r v M1 => r = 0 ∧ ∃ a, QQ a M1 ∧ v = a.toInt64) := by
  refine hx_ofW (by decide +kernel) ?_
  intro p e s m args below meth c s₁ B hml hv
  obtain ⟨rfl, ⟨hRep, hK⟩, ho⟩ := hv
  have hx := B.exec
  have hb : c.code = yh_143.2.1 := B.bytes
  have hr := B.returns
  have hlocks := B.notSynchronized
  have S := hx_fix B hml
  have hts := atoms_spec (ws := hx_ws yh_143 hh_143) B.pre
  have htab : c.exceptionTable.toList = tableOf hh_143 := vx_table (x := yh_143.1) B (hts _ List.mem_cons_self)
  have hl2 := lv_entry ([.ref (E.1 4 655365 0), .int x1, .ref qo]) (n := 4) (Nat.le_of_ble_eq_true rfl)
  show W p l e (fx_room 60) s m _ below meth c s.heap [] 0 0 _ (entryFrame m ([.ref (E.1 4 655365 0), .int x1, .ref qo] : List Value).toArray 4)
  rw [lg_entry_eq]
  generalize (lg_sl ([.ref (E.1 4 655365 0), .int x1, .ref qo]) ++ List.replicate (4 - (lg_sl ([.ref (E.1 4 655365 0), .int x1, .ref qo])).length) Slot.unset).toArray = ls at hl2 ⊢
  have hl2 : lv_has ls 4 [(0, .ref (E.1 4 655365 0)), (1, .int x1), (2, .ref qo)] := hl2
  have hVS : va_S (ux_A E) s.heap s.heap [] := va_S.rf
  refine lv_aload_n hx hb dh_143_0 rfl (lv_at hl2 2 rfl) ?_
  refine lv_iconst (v := 0) hx hb dh_143_1 (by decide) ?_
  refine lv_aload_n hx hb dh_143_2 rfl (lv_at hl2 0 rfl) ?_
  refine lv_iload_n hx hb dh_143_3 rfl (lv_at hl2 1 rfl) ?_
  refine fx_callv (d := d) (y2 := y_143) (q := (4, 655365, 0)) (ci := 0) (As := [.inl x1]) (rest := [.int 0, .ref qo]) (k := 1) S hx_sub hts hK (by decide +kernel) wl_143 wm_143 we_143 (by decide +kernel) (by decide) rfl (by decide) rfl rfl (fun v hv => by rw [List.mem_singleton.mp hv]; trivial) (Nat.le_of_ble_eq_true rfl) hcall ⟨by show d + 5 ≤ 60; omega, by show 60 * d + 360 ≤ 60 * 60 + 300; omega⟩ ⟨Nat.zero_le _, Nat.zero_le _⟩ hRep hVS hl2.1 dh_143_4 (fun r0 M1 H1 locs1 hq hR1 hS1 _ hk1 => ?_)
  obtain ⟨a, rfl, hq⟩ := hq
  have ho1 := ho.keep hqo hk1
  refine lv_i2l hx hb dh_143_7 rfl ?_
  refine hx_last hx hb hK hqo ho1 hR1 (hx_up hS1) dh_143_8 (fun H2 locs2 hR2 ho2 hS2 => ?_)
  refine lv_goto (tgt := 15) hx hb dh_143_9 (by decide) ?_
  refine lv_iconst (v := 0) hx hb dh_143_15 (by decide) ?_
  refine W.widen (k := 1) (n := 6) (Nat.zero_le _) (Nat.zero_le _) ?_
  exact W.iret (hlocks := hlocks) hx hb hr (fun t ht hW => ⟨0, _, M1, rfl, ⟨rfl, a, hq, rfl⟩, by rw [ht]; exact hR2, by rw [ht]; exact ho2, hS2.F ht⟩) hS2.2.2 dh_143_16
theorem ht_143_0 {l : Launch} {E : ux_E} {M : ux_M} {x1 : Int32} {qo : Nat} {v0 : Int64} (hE : ux_THok E) (hqo : ¬ ux_A E qo) (hM : fx_Met l E y_143 10 [aR 4 655365 0, aI x1] M fx_IA) : hx_Met l E yh_143 hh_143 [aR 4 655365 0, aI x1] qo v0 M (fun r v M1 => r = 1 ∧ v = v0 ∧ M1 = M) := by
  refine hx_ofW (by decide +kernel) ?_
  intro p e s m args below meth c s₁ B hml hv
  obtain ⟨rfl, ⟨hRep, hK⟩, ho⟩ := hv
  have hx := B.exec
  have hb : c.code = yh_143.2.1 := B.bytes
  have hr := B.returns
  have hlocks := B.notSynchronized
  have S := hx_fix B hml
  have hts := atoms_spec (ws := hx_ws yh_143 hh_143) B.pre
  have htab : c.exceptionTable.toList = tableOf hh_143 := vx_table (x := yh_143.1) B (hts _ List.mem_cons_self)
  have hl2 := lv_entry ([.ref (E.1 4 655365 0), .int x1, .ref qo]) (n := 4) (Nat.le_of_ble_eq_true rfl)
  show W p l e (fx_room 60) s m _ below meth c s.heap [] 0 0 _ (entryFrame m ([.ref (E.1 4 655365 0), .int x1, .ref qo] : List Value).toArray 4)
  rw [lg_entry_eq]
  generalize (lg_sl ([.ref (E.1 4 655365 0), .int x1, .ref qo]) ++ List.replicate (4 - (lg_sl ([.ref (E.1 4 655365 0), .int x1, .ref qo])).length) Slot.unset).toArray = ls at hl2 ⊢
  have hl2 : lv_has ls 4 [(0, .ref (E.1 4 655365 0)), (1, .int x1), (2, .ref qo)] := hl2
  have hVS : va_S (ux_A E) s.heap s.heap [] := va_S.rf
  refine lv_aload_n hx hb dh_143_0 rfl (lv_at hl2 2 rfl) ?_
  refine lv_iconst (v := 0) hx hb dh_143_1 (by decide) ?_
  refine lv_aload_n hx hb dh_143_2 rfl (lv_at hl2 0 rfl) ?_
  refine lv_iload_n hx hb dh_143_3 rfl (lv_at hl2 1 rfl) ?_
  obtain ⟨-, -, ⟨hc1, hc2⟩, hnc, -⟩ := hE s s.heap hK.2.2.2.2
  refine fx_thrv (d := 10) (y2 := y_143) (q := (4, 655365, 0)) (ci := 0) (As := [.inl x1]) (rest := [.int 0, .ref qo]) (k := 1) S hx_sub hts hK (by decide +kernel) wl_143 wm_143 we_143 mo_143 (by decide +kernel) (by decide) rfl (by decide) rfl rfl (Nat.le_of_ble_eq_true rfl) hM ⟨Nat.le_of_ble_eq_true rfl, Nat.le_of_ble_eq_true rfl⟩ ⟨Nat.le_of_ble_eq_true rfl, Nat.le_of_ble_eq_true rfl⟩ hRep hVS hl2.1 dh_143_4 (fun ce q9 H1 locs1 hR1 hS1 _ hk1 g1 g2 g3 => ?_)
  have ho1 := ho.keep hqo hk1
  refine vx_catch (name := fx_IA) (E := fx_IA) S.2.2.2.1 [] ⟨0, 9, 12, 22⟩ [] (by rw [htab]; rfl) (fun z hz => by cases hz) (by decide) (by decide) (hx_wd hts hx_c22 rfl) (va_Nw.use rfl hc2) g1 g2 g3 ?_
  refine lv_astore_n (lv' := [(3, .ref q9), (0, .ref (E.1 4 655365 0)), (1, .int x1), (2, .ref qo)]) hx hb dh_143_12 rfl hl2 (by decide) rfl (fun ls hl2 => ?_)
  refine lv_iconst (v := 1) hx hb dh_143_13 (by decide) ?_
  exact W.iret (hlocks := hlocks) hx hb hr (fun t ht hW => ⟨1, v0, M, rfl, ⟨rfl, rfl, rfl⟩, by rw [ht]; exact hR1, by rw [ht]; exact ho1, (hx_up hS1).F ht⟩) (hx_up hS1).2.2 dh_143_14
theorem hn_144 {l : Launch} {E : ux_E} {M : ux_M} {x1 : Int32} {qo : Nat} {v0 : Int64} {d : Nat} (hd37 : d ≤ 40) (hqo : ¬ ux_A E qo) {QQ : Int32 → ux_M → Prop} (hcall : ux_Call l E d y_144 [aR 4 655365 0, aI x1] M (ux_CI QQ)) : hx_Met l E yh_144 hh_144 [aR 4 655365 0, aI x1] qo v0 M (fun r v M1 => r = 0 ∧ ∃ a, QQ a M1 ∧ v = a.toInt64) := by
  refine hx_ofW (by decide +kernel) ?_
  intro p e s m args below meth c s₁ B hml hv
  obtain ⟨rfl, ⟨hRep, hK⟩, ho⟩ := hv
  have hx := B.exec
  have hb : c.code = yh_144.2.1 := B.bytes
  have hr := B.returns
  have hlocks := B.notSynchronized
  have S := hx_fix B hml
  have hts := atoms_spec (ws := hx_ws yh_144 hh_144) B.pre
  have htab : c.exceptionTable.toList = tableOf hh_144 := vx_table (x := yh_144.1) B (hts _ List.mem_cons_self)
  have hl2 := lv_entry ([.ref (E.1 4 655365 0), .int x1, .ref qo]) (n := 4) (Nat.le_of_ble_eq_true rfl)
  show W p l e (fx_room 60) s m _ below meth c s.heap [] 0 0 _ (entryFrame m ([.ref (E.1 4 655365 0), .int x1, .ref qo] : List Value).toArray 4)
  rw [lg_entry_eq]
  generalize (lg_sl ([.ref (E.1 4 655365 0), .int x1, .ref qo]) ++ List.replicate (4 - (lg_sl ([.ref (E.1 4 655365 0), .int x1, .ref qo])).length) Slot.unset).toArray = ls at hl2 ⊢
  have hl2 : lv_has ls 4 [(0, .ref (E.1 4 655365 0)), (1, .int x1), (2, .ref qo)] := hl2
  have hVS : va_S (ux_A E) s.heap s.heap [] := va_S.rf
  refine lv_aload_n hx hb dh_144_0 rfl (lv_at hl2 2 rfl) ?_
  refine lv_iconst (v := 0) hx hb dh_144_1 (by decide) ?_
  refine lv_aload_n hx hb dh_144_2 rfl (lv_at hl2 0 rfl) ?_
  refine lv_iload_n hx hb dh_144_3 rfl (lv_at hl2 1 rfl) ?_
  refine fx_callv (d := d) (y2 := y_144) (q := (4, 655365, 0)) (ci := 0) (As := [.inl x1]) (rest := [.int 0, .ref qo]) (k := 1) S hx_sub hts hK (by decide +kernel) wl_144 wm_144 we_144 (by decide +kernel) (by decide) rfl (by decide) rfl rfl (fun v hv => by rw [List.mem_singleton.mp hv]; trivial) (Nat.le_of_ble_eq_true rfl) hcall ⟨by show d + 5 ≤ 60; omega, by show 60 * d + 360 ≤ 60 * 60 + 300; omega⟩ ⟨Nat.zero_le _, Nat.zero_le _⟩ hRep hVS hl2.1 dh_144_4 (fun r0 M1 H1 locs1 hq hR1 hS1 _ hk1 => ?_)
  obtain ⟨a, rfl, hq⟩ := hq
  have ho1 := ho.keep hqo hk1
  refine lv_i2l hx hb dh_144_7 rfl ?_
  refine hx_last hx hb hK hqo ho1 hR1 (hx_up hS1) dh_144_8 (fun H2 locs2 hR2 ho2 hS2 => ?_)
  refine lv_goto (tgt := 15) hx hb dh_144_9 (by decide) ?_
  refine lv_iconst (v := 0) hx hb dh_144_15 (by decide) ?_
  refine W.widen (k := 1) (n := 6) (Nat.zero_le _) (Nat.zero_le _) ?_
  exact W.iret (hlocks := hlocks) hx hb hr (fun t ht hW => ⟨0, _, M1, rfl, ⟨rfl, a, hq, rfl⟩, by rw [ht]; exact hR2, by rw [ht]; exact ho2, hS2.F ht⟩) hS2.2.2 dh_144_16
theorem ht_144_0 {l : Launch} {E : ux_E} {M : ux_M} {x1 : Int32} {qo : Nat} {v0 : Int64} (hE : ux_THok E) (hqo : ¬ ux_A E qo) (hM : fx_Met l E y_144 10 [aR 4 655365 0, aI x1] M fx_IA) : hx_Met l E yh_144 hh_144 [aR 4 655365 0, aI x1] qo v0 M (fun r v M1 => r = 1 ∧ v = v0 ∧ M1 = M) := by
  refine hx_ofW (by decide +kernel) ?_
  intro p e s m args below meth c s₁ B hml hv
  obtain ⟨rfl, ⟨hRep, hK⟩, ho⟩ := hv
  have hx := B.exec
  have hb : c.code = yh_144.2.1 := B.bytes
  have hr := B.returns
  have hlocks := B.notSynchronized
  have S := hx_fix B hml
  have hts := atoms_spec (ws := hx_ws yh_144 hh_144) B.pre
  have htab : c.exceptionTable.toList = tableOf hh_144 := vx_table (x := yh_144.1) B (hts _ List.mem_cons_self)
  have hl2 := lv_entry ([.ref (E.1 4 655365 0), .int x1, .ref qo]) (n := 4) (Nat.le_of_ble_eq_true rfl)
  show W p l e (fx_room 60) s m _ below meth c s.heap [] 0 0 _ (entryFrame m ([.ref (E.1 4 655365 0), .int x1, .ref qo] : List Value).toArray 4)
  rw [lg_entry_eq]
  generalize (lg_sl ([.ref (E.1 4 655365 0), .int x1, .ref qo]) ++ List.replicate (4 - (lg_sl ([.ref (E.1 4 655365 0), .int x1, .ref qo])).length) Slot.unset).toArray = ls at hl2 ⊢
  have hl2 : lv_has ls 4 [(0, .ref (E.1 4 655365 0)), (1, .int x1), (2, .ref qo)] := hl2
  have hVS : va_S (ux_A E) s.heap s.heap [] := va_S.rf
  refine lv_aload_n hx hb dh_144_0 rfl (lv_at hl2 2 rfl) ?_
  refine lv_iconst (v := 0) hx hb dh_144_1 (by decide) ?_
  refine lv_aload_n hx hb dh_144_2 rfl (lv_at hl2 0 rfl) ?_
  refine lv_iload_n hx hb dh_144_3 rfl (lv_at hl2 1 rfl) ?_
  obtain ⟨-, -, ⟨hc1, hc2⟩, hnc, -⟩ := hE s s.heap hK.2.2.2.2
  refine fx_thrv (d := 10) (y2 := y_144) (q := (4, 655365, 0)) (ci := 0) (As := [.inl x1]) (rest := [.int 0, .ref qo]) (k := 1) S hx_sub hts hK (by decide +kernel) wl_144 wm_144 we_144 mo_144 (by decide +kernel) (by decide) rfl (by decide) rfl rfl (Nat.le_of_ble_eq_true rfl) hM ⟨Nat.le_of_ble_eq_true rfl, Nat.le_of_ble_eq_true rfl⟩ ⟨Nat.le_of_ble_eq_true rfl, Nat.le_of_ble_eq_true rfl⟩ hRep hVS hl2.1 dh_144_4 (fun ce q9 H1 locs1 hR1 hS1 _ hk1 g1 g2 g3 => ?_)
  have ho1 := ho.keep hqo hk1
  refine vx_catch (name := fx_IA) (E := fx_IA) S.2.2.2.1 [] ⟨0, 9, 12, 22⟩ [] (by rw [htab]; rfl) (fun z hz => by cases hz) (by decide) (by decide) (hx_wd hts hx_c22 rfl) (va_Nw.use rfl hc2) g1 g2 g3 ?_
  refine lv_astore_n (lv' := [(3, .ref q9), (0, .ref (E.1 4 655365 0)), (1, .int x1), (2, .ref qo)]) hx hb dh_144_12 rfl hl2 (by decide) rfl (fun ls hl2 => ?_)
  refine lv_iconst (v := 1) hx hb dh_144_13 (by decide) ?_
  exact W.iret (hlocks := hlocks) hx hb hr (fun t ht hW => ⟨1, v0, M, rfl, ⟨rfl, rfl, rfl⟩, by rw [ht]; exact hR1, by rw [ht]; exact ho1, (hx_up hS1).F ht⟩) (hx_up hS1).2.2 dh_144_14
