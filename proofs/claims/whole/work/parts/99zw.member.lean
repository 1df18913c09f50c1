/-! the further members, 2: Math.floorMod, String.length and charAt, constants, constant rows -/
/-- a method from its body, plain or not overridden -/
theorem uy_ofW {l : Launch} {y : ux_Y} {d : Nat} {Pc : Array Value → State → Prop} {Qc : Array Value → State → Outcome → State → Prop} {free : Addr → Prop} (hy : plainFor y.1 = true)
    (body : ∀ p e s m args below meth c s₁, BodyLoose p l y.1 (headSpec (ux_ws y) (uy_room d)) y.2.1 y.2.2.1 y.2.2.2 e s m args below meth c s₁ → c.maxLocals = y.2.2.1 → Pc args s →
      W p l e (uy_room d) s m args below meth c s.heap [] 0 0 (MQ below Qc args s 0 0 free) (entryFrame m args y.2.2.1)) : Met l y.1 (ux_ws y) (uy_room d) Pc Qc 0 0 free := by
  refine MetFree.of_bodySF (code := y.2.1) (maxLocals := y.2.2.1) (ret := y.2.2.2) hy ?_ ?_
  · intro args s m h hn
    obtain ⟨meth, c, h1, h2, h3, h4, h5, h6, -, -⟩ := Cond.code_spec hn (atoms_spec (ws := ux_ws y) h _ List.mem_cons_self)
    exact ⟨meth, c, h1, h2, h3, h4, h5, h6⟩
  · intro p e s m args below meth c s₁ B hml hP _
    have hh0 : s₁.heap = s.heap := by rw [B.state]; rfl
    obtain ⟨t, a1, o, b1, b2, b3⟩ := body p e s m args below meth c s₁ B hml hP s₁ hh0 (Stand.of_body B)
    exact ⟨t, o, a1, b1, b2, ⟨b3.1, b3.2⟩⟩
/-- a method that only reads -/
def uy_Met (l : Launch) (y : ux_Y) (d : Nat) (av : List Value) (B : State → Prop) (v : Option Value) : Prop :=
  Met l y.1 (ux_ws y) (uy_room d) (va_Pc av B) (fun _ st o t => o = .returned v ∧ t.heap = st.heap) 0 0 (fun _ => False)
abbrev uy_N : Nat → Prop := fun _ => False
/-- what is asked of a constant text: its object a, its bytes at t -/
def uy_S (a t n : Nat) (f : Nat → Int32) (A : Nat → Prop) (U : State) (H : Heap) : Prop :=
  va_O "java/lang/String" a A U H ∧ va_OF "java/lang/String" "coder" "B" (.int 0) a A U H ∧ va_OF "java/lang/String" "value" "[B" (.ref t) a A U H ∧ va_T .byte t n (fun j => .int (f j)) A U H
/-- statics of the JDK -/
def uy_J (A : Nat → Prop) (U : State) (H : Heap) : Prop :=
  va_Z "java/lang/String" "COMPACT_STRINGS" "Z" (.int 1) A U H ∧ va_Zq "jdk/internal/util/Preconditions" "SIOOBE_FORMATTER" "Ljava/util/function/BiFunction;" A U H
section UYA
variable {p : Program} {l : Launch} {e : Env} {s : State} {m : MethodId} {args : Array Value} {below : List Frame} {meth : Method} {c : Code} {H : Heap} {locs : List Loc} {cells slots : Nat} {Q : State → Prop} {d : Nat} {A A' : Nat → Prop} {u U : State} {H1 : Heap} {a t n : Nat} {f : Nat → Int32}
theorem uy_S.moved (hvm : u.vm.Alike U.vm) (h : uy_S a t n f A u H) : uy_S a t n f A U H := ⟨h.1.moved hvm, va_OF.moved hvm h.2.1, va_OF.moved hvm h.2.2.1, va_T.moved hvm h.2.2.2⟩
theorem uy_S.kept (h : uy_S a t n f A U H) (hq : ∀ a : Nat, a < H.size → ¬ A a → H1[a]? = H[a]?) : uy_S a t n f A U H1 := ⟨h.1.kept hq, h.2.1.kept hq, h.2.2.1.kept hq, h.2.2.2.kept hq⟩
theorem uy_S.narrow (h : uy_S a t n f A U H) (hq : ∀ q, A' q → A q) : uy_S a t n f A' U H := ⟨h.1.narrow hq, h.2.1.narrow hq, h.2.2.1.narrow hq, h.2.2.2.narrow hq⟩
theorem uy_J.moved (hvm : u.vm.Alike U.vm) (h : uy_J A u H) : uy_J A U H := ⟨va_Z.moved hvm h.1, va_Zq.moved hvm h.2⟩
theorem uy_J.kept (h : uy_J A U H) (hq : ∀ a : Nat, a < H.size → ¬ A a → H1[a]? = H[a]?) : uy_J A U H1 := ⟨h.1.kept hq, h.2.kept hq⟩
theorem uy_J.narrow (h : uy_J A U H) (hq : ∀ q, A' q → A q) : uy_J A' U H := ⟨h.1.narrow hq, h.2.narrow hq⟩
/-- behind a call of a method that only reads -/
theorem uy_after {R : Room} {pc : Nat} {ls : Array Slot} {st0 rest : List Value} {v0 : Option Value} (hr : va_Run p l e R s m args below meth c H locs cells slots 0 0 (F0 m pc ls st0) rest (fun st o t => o = .returned v0 ∧ t.heap = st.heap) (fun _ => False))
    (kk : W p l e R s m args below meth c H locs cells slots Q (F0 m (pc + 3) ls (v0.toList ++ rest))) : W p l e R s m args below meth c H locs cells slots Q (F0 m pc ls st0) := by
  intro T hT X
  obtain ⟨v, st₀, t, T', L, h0, X', hL, e1, e2, ⟨hv, hh⟩, st⟩ := hr T hT X
  cases hv
  have hl : L = [] := by
    cases L with
    | nil => rfl
    | cons x xs => exact (hL x List.mem_cons_self).elim
  subst hl
  rw [List.append_nil] at X'
  obtain ⟨t2, a1, b1⟩ := kk T' (by rw [e1, hh, h0]) X'
  exact ⟨t2, st t2 a1, b1⟩
theorem uy_callv {y y2 : ux_Y} (hx : p.tables.exec = Jvm.exec) (hb : c.code = y.2.1) (hml : c.maxLocals = y.2.2.1) (hown : s.vm.findClass y.1.cls = some m.cls) (hts : ∀ w ∈ ux_ws y, w.before args s = true) {i k pp p1 p2 p3 p4 : Nat}
    (hk : (parseMethodDescriptor y2.1.desc).map (fun d => d.parameters.length) = some k) (hw : lw_tbl[pp]? = some (.methodLink y.1.cls i y2.1)) (hw1 : lw_tbl[p1]? = some (.instanceMethod y2.1)) (hw2 : lw_tbl[p2]? = some (.selects y2.1.cls y2.1 y2.1)) (hw3 : lw_tbl[p3]? = some (.initialized y2.1.cls)) (hw4 : lw_tbl[p4]? = some (.code y2.1 y2.2.1 y2.2.2.1 y2.2.2.2))
    (m4 : y2.1.cls ≠ "java/lang/invoke/MethodHandle" ∧ y2.1.cls ≠ "java/lang/invoke/VarHandle") (m5 : y2.2.2.1 ≤ 30)
    {As rest : List Value} {b : Nat} {B : State → Prop} {v0 : Option Value} {pc : Nat} {ls : Array Slot} (hM : uy_Met l y2 d (.ref b :: As) B v0) (hBl : ∀ (a : Array Value) (U : State) (g : JFrame) (mk : MethodId), B U → B (U.calling g mk a))
    (hrec : ∃ cell : Cell, H[b]? = some cell ∧ cell.vm.isStatics = false ∧ s.vm.findClass y2.1.cls = some cell.cls) (hpre : ∀ U : State, U.heap = H → s.WarmedH U.vm → B U) (hAs : As.length = k) (hcat : (rest.map fun v => v.category).sum ≤ 8) (hls : ls.size = y.2.2.1) (hd : decode y.2.1 pc = .ok (.invokevirtual i, 3))
    (kk : W p l e (uy_room (d + 1)) s m args below meth c H locs 0 0 Q (F0 m (pc + 3) ls (v0.toList ++ rest))) : W p l e (uy_room (d + 1)) s m args below meth c H locs 0 0 Q (F0 m pc ls (As.reverse ++ .ref b :: rest)) := by
  have hroom : (uy_room d).frames + 1 ≤ (uy_room (d + 1)).frames ∧ 8 + (y2.2.2.1 + 11) + (uy_room d).locals ≤ (uy_room (d + 1)).locals := ⟨Nat.le_refl _, by show 8 + (y2.2.2.1 + 11) + (60 * d + 60) ≤ 60 * (d + 1) + 60; omega⟩
  have hG : GoodIn (ux_ws y) (wsV y.1.cls i y2.1.cls y2.1 (ux_ws y2)) := by
    intro w hwm
    unfold wsV at hwm
    rcases List.mem_append.mp hwm with h | h
    · simp only [List.mem_cons, List.not_mem_nil, or_false] at h
      rcases h with rfl | rfl | rfl | rfl
      · exact ⟨List.mem_cons_of_mem _ (ux_mem_good (ux_at hw) rfl), good_of_word rfl⟩
      · exact ⟨List.mem_cons_of_mem _ (ux_mem_good (ux_at hw1) rfl), good_of_word rfl⟩
      · exact ⟨List.mem_cons_of_mem _ (ux_mem_good (ux_at hw2) rfl), good_of_word rfl⟩
      · exact ⟨List.mem_cons_of_mem _ (ux_mem_good (ux_at hw3) rfl), good_of_word rfl⟩
    · exact ux_goodIn y y2 (ux_at hw4) w h
  exact uy_after (va_runV (As := As) ⟨hx, hb, hml, hown, hts⟩ hM (cwV k hts hG rfl rfl rfl ⟨rfl, m4.1, m4.2, hk⟩ hroom) ⟨fun a U g mk q => ⟨q.1, hBl a U g mk q.2⟩, hrec, fun U hU hW => ⟨rfl, hpre U hU hW⟩⟩ rfl hAs hls rfl (lv_room hcat) hd ⟨Nat.le_refl _, Nat.le_refl _⟩) kk
theorem uy_calls {y y2 : ux_Y} (hx : p.tables.exec = Jvm.exec) (hb : c.code = y.2.1) (hml : c.maxLocals = y.2.2.1) (hown : s.vm.findClass y.1.cls = some m.cls) (hts : ∀ w ∈ ux_ws y, w.before args s = true) {i k pp p1 p3 p4 : Nat}
    (hk : (parseMethodDescriptor y2.1.desc).map (fun d => d.parameters.length) = some k) (hw : lw_tbl[pp]? = some (.methodLink y.1.cls i y2.1)) (hw1 : lw_tbl[p1]? = some (.static y2.1)) (hw3 : lw_tbl[p3]? = some (.initialized y2.1.cls)) (hw4 : lw_tbl[p4]? = some (.code y2.1 y2.2.1 y2.2.2.1 y2.2.2.2))
    (m4 : y2.1.cls ≠ "java/lang/invoke/MethodHandle" ∧ y2.1.cls ≠ "java/lang/invoke/VarHandle") (m5 : y2.2.2.1 ≤ 30)
    {As rest : List Value} {B : State → Prop} {v0 : Option Value} {pc : Nat} {ls : Array Slot} (hM : uy_Met l y2 d As B v0) (hBl : ∀ (a : Array Value) (U : State) (g : JFrame) (mk : MethodId), B U → B (U.calling g mk a))
    (hpre : ∀ U : State, U.heap = H → s.WarmedH U.vm → B U) (hAs : As.length = k) (hcat : (rest.map fun v => v.category).sum ≤ 8) (hls : ls.size = y.2.2.1) (hd : decode y.2.1 pc = .ok (.invokestatic i, 3))
    (kk : W p l e (uy_room (d + 1)) s m args below meth c H locs 0 0 Q (F0 m (pc + 3) ls (v0.toList ++ rest))) : W p l e (uy_room (d + 1)) s m args below meth c H locs 0 0 Q (F0 m pc ls (As.reverse ++ rest)) := by
  have hroom : (uy_room d).frames + 1 ≤ (uy_room (d + 1)).frames ∧ 8 + (y2.2.2.1 + 11) + (uy_room d).locals ≤ (uy_room (d + 1)).locals := ⟨Nat.le_refl _, by show 8 + (y2.2.2.1 + 11) + (60 * d + 60) ≤ 60 * (d + 1) + 60; omega⟩
  have hG : GoodIn (ux_ws y) (va_wsS y.1.cls i y2.1 (ux_ws y2)) := by
    intro w hwm
    unfold va_wsS at hwm
    rcases List.mem_append.mp hwm with h | h
    · simp only [List.mem_cons, List.not_mem_nil, or_false] at h
      rcases h with rfl | rfl | rfl
      · exact ⟨List.mem_cons_of_mem _ (ux_mem_good (ux_at hw) rfl), good_of_word rfl⟩
      · exact ⟨List.mem_cons_of_mem _ (ux_mem_good (ux_at hw1) rfl), good_of_word rfl⟩
      · exact ⟨List.mem_cons_of_mem _ (ux_mem_good (ux_at hw3) rfl), good_of_word rfl⟩
    · exact ux_goodIn y y2 (ux_at hw4) w h
  exact uy_after (va_runS (As := As) ⟨hx, hb, hml, hown, hts⟩ hM (va_cwS k hts hG rfl rfl rfl ⟨m4.1, m4.2, hk⟩ hroom) ⟨fun a U g mk q => ⟨q.1, hBl a U g mk q.2⟩, fun U hU hW => ⟨rfl, hpre U hU hW⟩⟩ rfl hAs hls rfl (lv_room hcat) hd ⟨Nat.le_refl _, Nat.le_refl _⟩) kk
end UYA
def y_coder : ux_Y := (⟨"java/lang/String", "coder", "()B"⟩, prog_15_method_152_code, 1, some .byte)
def y_latin : ux_Y := (⟨"java/lang/String", "isLatin1", "()Z"⟩, prog_15_method_154_code, 1, some .boolean)
def y_slen : ux_Y := (⟨"java/lang/String", "length", "()I"⟩, prog_15_method_54_code, 1, some .int)
def y_schr : ux_Y := (⟨"java/lang/String", "charAt", "(I)C"⟩, prog_15_method_56_code, 2, some .char)
def y_lchr : ux_Y := (⟨"java/lang/StringLatin1", "charAt", "([BI)C"⟩, prog_16_method_2_code, 2, some .char)
def y_sidx : ux_Y := (⟨"java/lang/String", "checkIndex", "(II)V"⟩, prog_15_method_155_code, 2, none)
def y_pidx : ux_Y := (⟨"jdk/internal/util/Preconditions", "checkIndex", "(IILjava/util/function/BiFunction;)I"⟩, prog_20_method_11_code, 3, some .int)
theorem uy_nh1 : "java/lang/String" ≠ "java/lang/invoke/MethodHandle" ∧ "java/lang/String" ≠ "java/lang/invoke/VarHandle" := by decide +kernel
theorem uy_nh2 : "java/lang/StringLatin1" ≠ "java/lang/invoke/MethodHandle" ∧ "java/lang/StringLatin1" ≠ "java/lang/invoke/VarHandle" := by decide +kernel
theorem uy_nh3 : "jdk/internal/util/Preconditions" ≠ "java/lang/invoke/MethodHandle" ∧ "jdk/internal/util/Preconditions" ≠ "java/lang/invoke/VarHandle" := by decide +kernel
theorem uy_nh4 : "java/lang/Math" ≠ "java/lang/invoke/MethodHandle" ∧ "java/lang/Math" ≠ "java/lang/invoke/VarHandle" := by decide +kernel
theorem uy_i1 : lw_tbl[183]? = some (.initialized "java/lang/String") := by decide +kernel
theorem uy_i2 : lw_tbl[184]? = some (.initialized "java/lang/StringLatin1") := by decide +kernel
theorem uy_i3 : lw_tbl[185]? = some (.initialized "jdk/internal/util/Preconditions") := by decide +kernel
theorem uy_w532 : lw_tbl[532]? = some (.instanceMethod y_slen.1) := by decide +kernel
theorem uy_w533 : lw_tbl[533]? = some (.selects "java/lang/String" y_slen.1 y_slen.1) := by decide +kernel
theorem uy_w534 : lw_tbl[534]? = some (.code y_slen.1 y_slen.2.1 y_slen.2.2.1 y_slen.2.2.2) := by decide +kernel
theorem uy_w535 : lw_tbl[535]? = some (.methodLink "java/lang/String" 335 y_coder.1) := by decide +kernel
theorem uy_w536 : lw_tbl[536]? = some (.instanceMethod y_coder.1) := by decide +kernel
theorem uy_w537 : lw_tbl[537]? = some (.selects "java/lang/String" y_coder.1 y_coder.1) := by decide +kernel
theorem uy_w538 : lw_tbl[538]? = some (.code y_coder.1 y_coder.2.1 y_coder.2.2.1 y_coder.2.2.2) := by decide +kernel
theorem uy_w539 : lw_tbl[539]? = some (.fieldLink "java/lang/String" 38 "java/lang/String" "COMPACT_STRINGS" "Z") := by decide +kernel
theorem uy_w542 : lw_tbl[542]? = some (.instanceMethod y_schr.1) := by decide +kernel
theorem uy_w543 : lw_tbl[543]? = some (.selects "java/lang/String" y_schr.1 y_schr.1) := by decide +kernel
theorem uy_w544 : lw_tbl[544]? = some (.code y_schr.1 y_schr.2.1 y_schr.2.2.1 y_schr.2.2.2) := by decide +kernel
theorem uy_w545 : lw_tbl[545]? = some (.methodLink "java/lang/String" 492 y_latin.1) := by decide +kernel
theorem uy_w546 : lw_tbl[546]? = some (.instanceMethod y_latin.1) := by decide +kernel
theorem uy_w547 : lw_tbl[547]? = some (.selects "java/lang/String" y_latin.1 y_latin.1) := by decide +kernel
theorem uy_w548 : lw_tbl[548]? = some (.code y_latin.1 y_latin.2.1 y_latin.2.2.1 y_latin.2.2.2) := by decide +kernel
theorem uy_w549 : lw_tbl[549]? = some (.methodLink "java/lang/String" 495 y_lchr.1) := by decide +kernel
theorem uy_w550 : lw_tbl[550]? = some (.static y_lchr.1) := by decide +kernel
theorem uy_w551 : lw_tbl[551]? = some (.code y_lchr.1 y_lchr.2.1 y_lchr.2.2.1 y_lchr.2.2.2) := by decide +kernel
theorem uy_w552 : lw_tbl[552]? = some (.methodLink "java/lang/StringLatin1" 9 y_sidx.1) := by decide +kernel
theorem uy_w553 : lw_tbl[553]? = some (.static y_sidx.1) := by decide +kernel
theorem uy_w554 : lw_tbl[554]? = some (.code y_sidx.1 y_sidx.2.1 y_sidx.2.2.1 y_sidx.2.2.2) := by decide +kernel
theorem uy_w555 : lw_tbl[555]? = some (.fieldLink "java/lang/String" 1053 "jdk/internal/util/Preconditions" "SIOOBE_FORMATTER" "Ljava/util/function/BiFunction;") := by decide +kernel
theorem uy_w557 : lw_tbl[557]? = some (.methodLink "java/lang/String" 1059 y_pidx.1) := by decide +kernel
theorem uy_w558 : lw_tbl[558]? = some (.static y_pidx.1) := by decide +kernel
theorem uy_w559 : lw_tbl[559]? = some (.code y_pidx.1 y_pidx.2.1 y_pidx.2.2.1 y_pidx.2.2.2) := by decide +kernel
theorem uy_w2093 : lw_tbl[2093]? = some (.fieldLink "java/lang/String" 9 "java/lang/String" "value" "[B") := by decide +kernel
theorem uy_w2094 : lw_tbl[2094]? = some (.fieldLink "java/lang/String" 15 "java/lang/String" "coder" "B") := by decide +kernel
theorem d_cod_0 : decode prog_15_method_152_code 0 = .ok (.getstatic 38, 3) := by decide +kernel
theorem d_cod_3 : decode prog_15_method_152_code 3 = .ok (.ifCond .eq 10, 3) := by decide +kernel
theorem d_cod_6 : decode prog_15_method_152_code 6 = .ok (.aload_n 0, 1) := by decide +kernel
theorem d_cod_7 : decode prog_15_method_152_code 7 = .ok (.getfield 15, 3) := by decide +kernel
theorem d_cod_10 : decode prog_15_method_152_code 10 = .ok (.goto 4, 3) := by decide +kernel
theorem d_cod_14 : decode prog_15_method_152_code 14 = .ok (.ireturn, 1) := by decide +kernel
theorem d_lat_0 : decode prog_15_method_154_code 0 = .ok (.getstatic 38, 3) := by decide +kernel
theorem d_lat_3 : decode prog_15_method_154_code 3 = .ok (.ifCond .eq 14, 3) := by decide +kernel
theorem d_lat_6 : decode prog_15_method_154_code 6 = .ok (.aload_n 0, 1) := by decide +kernel
theorem d_lat_7 : decode prog_15_method_154_code 7 = .ok (.getfield 15, 3) := by decide +kernel
theorem d_lat_10 : decode prog_15_method_154_code 10 = .ok (.ifCond .ne 7, 3) := by decide +kernel
theorem d_lat_13 : decode prog_15_method_154_code 13 = .ok (.iconst 1, 1) := by decide +kernel
theorem d_lat_14 : decode prog_15_method_154_code 14 = .ok (.goto 4, 3) := by decide +kernel
theorem d_lat_18 : decode prog_15_method_154_code 18 = .ok (.ireturn, 1) := by decide +kernel
theorem d_len_0 : decode prog_15_method_54_code 0 = .ok (.aload_n 0, 1) := by decide +kernel
theorem d_len_1 : decode prog_15_method_54_code 1 = .ok (.getfield 9, 3) := by decide +kernel
theorem d_len_4 : decode prog_15_method_54_code 4 = .ok (.arraylength, 1) := by decide +kernel
theorem d_len_5 : decode prog_15_method_54_code 5 = .ok (.aload_n 0, 1) := by decide +kernel
theorem d_len_6 : decode prog_15_method_54_code 6 = .ok (.invokevirtual 335, 3) := by decide +kernel
theorem d_len_9 : decode prog_15_method_54_code 9 = .ok (.ishr, 1) := by decide +kernel
theorem d_len_10 : decode prog_15_method_54_code 10 = .ok (.ireturn, 1) := by decide +kernel
theorem d_chr_0 : decode prog_15_method_56_code 0 = .ok (.aload_n 0, 1) := by decide +kernel
theorem d_chr_1 : decode prog_15_method_56_code 1 = .ok (.invokevirtual 492, 3) := by decide +kernel
theorem d_chr_4 : decode prog_15_method_56_code 4 = .ok (.ifCond .eq 12, 3) := by decide +kernel
theorem d_chr_7 : decode prog_15_method_56_code 7 = .ok (.aload_n 0, 1) := by decide +kernel
theorem d_chr_8 : decode prog_15_method_56_code 8 = .ok (.getfield 9, 3) := by decide +kernel
theorem d_chr_11 : decode prog_15_method_56_code 11 = .ok (.iload_n 1, 1) := by decide +kernel
theorem d_chr_12 : decode prog_15_method_56_code 12 = .ok (.invokestatic 495, 3) := by decide +kernel
theorem d_chr_15 : decode prog_15_method_56_code 15 = .ok (.ireturn, 1) := by decide +kernel
theorem d_lch_0 : decode prog_16_method_2_code 0 = .ok (.iload_n 1, 1) := by decide +kernel
theorem d_lch_1 : decode prog_16_method_2_code 1 = .ok (.aload_n 0, 1) := by decide +kernel
theorem d_lch_2 : decode prog_16_method_2_code 2 = .ok (.arraylength, 1) := by decide +kernel
theorem d_lch_3 : decode prog_16_method_2_code 3 = .ok (.invokestatic 9, 3) := by decide +kernel
theorem d_lch_6 : decode prog_16_method_2_code 6 = .ok (.aload_n 0, 1) := by decide +kernel
theorem d_lch_7 : decode prog_16_method_2_code 7 = .ok (.iload_n 1, 1) := by decide +kernel
theorem d_lch_8 : decode prog_16_method_2_code 8 = .ok (.baload, 1) := by decide +kernel
theorem d_lch_9 : decode prog_16_method_2_code 9 = .ok (.sipush 255, 3) := by decide +kernel
theorem d_lch_12 : decode prog_16_method_2_code 12 = .ok (.iand, 1) := by decide +kernel
theorem d_lch_13 : decode prog_16_method_2_code 13 = .ok (.i2c, 1) := by decide +kernel
theorem d_lch_14 : decode prog_16_method_2_code 14 = .ok (.ireturn, 1) := by decide +kernel
theorem d_six_0 : decode prog_15_method_155_code 0 = .ok (.iload_n 0, 1) := by decide +kernel
theorem d_six_1 : decode prog_15_method_155_code 1 = .ok (.iload_n 1, 1) := by decide +kernel
theorem d_six_2 : decode prog_15_method_155_code 2 = .ok (.getstatic 1053, 3) := by decide +kernel
theorem d_six_5 : decode prog_15_method_155_code 5 = .ok (.invokestatic 1059, 3) := by decide +kernel
theorem d_six_8 : decode prog_15_method_155_code 8 = .ok (.pop, 1) := by decide +kernel
theorem d_six_9 : decode prog_15_method_155_code 9 = .ok (.return_, 1) := by decide +kernel
theorem d_pix_0 : decode prog_20_method_11_code 0 = .ok (.iload_n 0, 1) := by decide +kernel
theorem d_pix_1 : decode prog_20_method_11_code 1 = .ok (.ifCond .lt 8, 3) := by decide +kernel
theorem d_pix_4 : decode prog_20_method_11_code 4 = .ok (.iload_n 0, 1) := by decide +kernel
theorem d_pix_5 : decode prog_20_method_11_code 5 = .ok (.iload_n 1, 1) := by decide +kernel
theorem d_pix_6 : decode prog_20_method_11_code 6 = .ok (.if_icmp .lt 10, 3) := by decide +kernel
theorem d_pix_16 : decode prog_20_method_11_code 16 = .ok (.iload_n 0, 1) := by decide +kernel
theorem d_pix_17 : decode prog_20_method_11_code 17 = .ok (.ireturn, 1) := by decide +kernel
section UYB
variable {l : Launch} {d a t n : Nat} {f : Nat → Int32} {i : Int32}
abbrev uy_B (a t n : Nat) (f : Nat → Int32) (U : State) : Prop := uy_S a t n f uy_N U U.heap ∧ uy_J uy_N U U.heap
theorem uy_B.calling (x : Array Value) (U : State) (g : JFrame) (mk : MethodId) (h : uy_B a t n f U) : uy_B a t n f (U.calling g mk x) := ⟨uy_S.moved (u := U) (U := U.calling g mk x) (Vm.Alike.refl U.vm) h.1, uy_J.moved (u := U) (U := U.calling g mk x) (Vm.Alike.refl U.vm) h.2⟩
theorem uy_B.warm {s U : State} (h : uy_B a t n f s) (hU : U.heap = s.heap) (hW : s.WarmedH U.vm) : uy_B a t n f U := ⟨by rw [hU]; exact h.1.moved hW.alike, by rw [hU]; exact h.2.moved hW.alike⟩
theorem c_coder : uy_Met l y_coder d [.ref a] (uy_B a t n f) (some (.int 0)) := by
  refine uy_ofW (by decide +kernel) ?_
  intro p e s m args below meth c s₁ B hml hv
  obtain ⟨rfl, hB⟩ := hv
  have hx := B.exec
  have hb := B.bytes
  have hr := B.returns
  have hts := atoms_spec (ws := ux_ws y_coder) B.pre
  have hown : s.vm.findClass "java/lang/String" = some m.cls := findClass_of_methodNamed B.named
  have hlocks := B.notSynchronized
  have hS : va_S uy_N s.heap s.heap [] := va_S.rf
  have hl := lv_entry ([.ref a]) (n := 1) (Nat.le_of_ble_eq_true rfl)
  show W _ _ _ _ _ _ _ _ _ _ _ _ _ _ _ (entryFrame m ([Value.ref a] : List Value).toArray 1)
  rw [lg_entry_eq]
  generalize (lg_sl ([.ref a]) ++ List.replicate (1 - (lg_sl ([.ref a])).length) Slot.unset).toArray = ls at hl ⊢
  have hl : lv_has ls 1 [(0, .ref a)] := hl
  refine va_gets hx hb hB.2.1 hS hown (hts _ (List.mem_cons_of_mem _ (ux_mem_good (ux_at uy_w539) rfl))) (fun _ h => h) d_cod_0 ?_
  refine lv_if_eq (tgt := 13) hx hb d_cod_3 (by decide) (fun z => absurd z (by decide)) (fun _ => ?_)
  refine lv_aload_n hx hb d_cod_6 rfl (lv_at hl 0 rfl) ?_
  refine vk_getf hx hb hB.1.2.1 hS hown (hts _ (List.mem_cons_of_mem _ (ux_mem_good (ux_at uy_w2094) rfl))) (fun _ h => h) d_cod_7 ?_
  refine lv_goto (tgt := 14) hx hb d_cod_10 (by decide) ?_
  exact W.zret (hlocks := hlocks) hx hb hr (by decide +kernel) (fun t ht hW => ⟨rfl, ht⟩) (fun q h => by cases h) d_cod_14
theorem c_latin : uy_Met l y_latin d [.ref a] (uy_B a t n f) (some (.int 1)) := by
  refine uy_ofW (by decide +kernel) ?_
  intro p e s m args below meth c s₁ B hml hv
  obtain ⟨rfl, hB⟩ := hv
  have hx := B.exec
  have hb := B.bytes
  have hr := B.returns
  have hts := atoms_spec (ws := ux_ws y_latin) B.pre
  have hown : s.vm.findClass "java/lang/String" = some m.cls := findClass_of_methodNamed B.named
  have hlocks := B.notSynchronized
  have hS : va_S uy_N s.heap s.heap [] := va_S.rf
  have hl := lv_entry ([.ref a]) (n := 1) (Nat.le_of_ble_eq_true rfl)
  show W _ _ _ _ _ _ _ _ _ _ _ _ _ _ _ (entryFrame m ([Value.ref a] : List Value).toArray 1)
  rw [lg_entry_eq]
  generalize (lg_sl ([.ref a]) ++ List.replicate (1 - (lg_sl ([.ref a])).length) Slot.unset).toArray = ls at hl ⊢
  have hl : lv_has ls 1 [(0, .ref a)] := hl
  refine va_gets hx hb hB.2.1 hS hown (hts _ (List.mem_cons_of_mem _ (ux_mem_good (ux_at uy_w539) rfl))) (fun _ h => h) d_lat_0 ?_
  refine lv_if_eq (tgt := 17) hx hb d_lat_3 (by decide) (fun z => absurd z (by decide)) (fun _ => ?_)
  refine lv_aload_n hx hb d_lat_6 rfl (lv_at hl 0 rfl) ?_
  refine vk_getf hx hb hB.1.2.1 hS hown (hts _ (List.mem_cons_of_mem _ (ux_mem_good (ux_at uy_w2094) rfl))) (fun _ h => h) d_lat_7 ?_
  refine lv_if_ne (tgt := 17) hx hb d_lat_10 (by decide) (fun z => absurd rfl z) (fun _ => ?_)
  refine lv_iconst (v := 1) hx hb d_lat_13 (by decide) ?_
  refine lv_goto (tgt := 18) hx hb d_lat_14 (by decide) ?_
  exact W.zret (hlocks := hlocks) hx hb hr (by decide +kernel) (fun t ht hW => ⟨rfl, ht⟩) (fun q h => by cases h) d_lat_18
theorem uy_shr0 (x : Int32) : x >>> ((0 : Int32) &&& 31) = x := by
  refine Int32.toBitVec_inj.mp ?_
  rw [show ((0 : Int32) &&& 31) = 0 by decide]
  simp
theorem c_slen (hn : n < 2000000000) : uy_Met l y_slen (d + 1) [.ref a] (uy_B a t n f) (some (.int (Int32.ofNat n))) := by
  refine uy_ofW (by decide +kernel) ?_
  intro p e s m args below meth c s₁ B hml hv
  obtain ⟨rfl, hB⟩ := hv
  have hx := B.exec
  have hb := B.bytes
  have hr := B.returns
  have hts := atoms_spec (ws := ux_ws y_slen) B.pre
  have hown : s.vm.findClass "java/lang/String" = some m.cls := findClass_of_methodNamed B.named
  have hlocks := B.notSynchronized
  have hS : va_S uy_N s.heap s.heap [] := va_S.rf
  have hl := lv_entry ([.ref a]) (n := 1) (Nat.le_of_ble_eq_true rfl)
  show W _ _ _ _ _ _ _ _ _ _ _ _ _ _ _ (entryFrame m ([Value.ref a] : List Value).toArray 1)
  rw [lg_entry_eq]
  generalize (lg_sl ([.ref a]) ++ List.replicate (1 - (lg_sl ([.ref a])).length) Slot.unset).toArray = ls at hl ⊢
  have hl : lv_has ls 1 [(0, .ref a)] := hl
  refine lv_aload_n hx hb d_len_0 rfl (lv_at hl 0 rfl) ?_
  refine vk_getf hx hb hB.1.2.2.1 hS hown (hts _ (List.mem_cons_of_mem _ (ux_mem_good (ux_at uy_w2093) rfl))) (fun _ h => h) d_len_1 ?_
  refine va_tlen hx hb hB.1.2.2.2 hS rfl d_len_4 ?_
  refine lv_aload_n hx hb d_len_5 rfl (lv_at hl 0 rfl) ?_
  obtain ⟨cell, q1, q2, q3, -⟩ := hB.1.1
  refine uy_callv (y := y_slen) (y2 := y_coder) (As := []) (rest := [.int (Int32.ofNat n)]) hx hb hml hown hts (by decide +kernel) uy_w535 uy_w536 uy_w537 uy_i1 uy_w538 uy_nh1 (by decide) (c_coder (a := a) (t := t) (n := n) (f := f)) uy_B.calling ⟨cell, q1, q2, q3⟩ (fun U hU hW => hB.warm hU hW) rfl (Nat.le_of_ble_eq_true rfl) hl.1 d_len_6 ?_
  refine lv_ishr hx hb d_len_9 ?_
  rw [uy_shr0]
  exact W.iret (hlocks := hlocks) hx hb hr (fun t ht hW => ⟨rfl, ht⟩) (fun q h => by cases h) d_len_10
theorem c_pidx {v : Value} (hv0 : v = .null ∨ ∃ q : Nat, v = .ref q) (h0 : ¬ i < 0) (h1 : i < Int32.ofNat n) : uy_Met l y_pidx d [.int i, .int (Int32.ofNat n), v] (fun _ => True) (some (.int i)) := by
  refine uy_ofW (by decide +kernel) ?_
  intro p e s m args below meth c s₁ B hml hv
  obtain ⟨rfl, -⟩ := hv
  have hx := B.exec
  have hb := B.bytes
  have hr := B.returns
  have hlocks := B.notSynchronized
  have key : ∀ ls : Array Slot, lv_has ls 3 [(0, .int i), (1, .int (Int32.ofNat n))] → W p l e (uy_room d) s m ([.int i, .int (Int32.ofNat n), v] : List Value).toArray below meth c s.heap [] 0 0 (MQ below (fun _ st o t => o = .returned (some (.int i)) ∧ t.heap = st.heap) ([.int i, .int (Int32.ofNat n), v] : List Value).toArray s 0 0 (fun _ => False)) (F0 m 0 ls []) := by
    intro ls hl
    refine lv_iload_n hx hb d_pix_0 rfl (lv_at hl 0 rfl) ?_
    refine lv_if_lt (tgt := 9) hx hb d_pix_1 (by decide) (fun z => absurd z h0) (fun _ => ?_)
    refine lv_iload_n hx hb d_pix_4 rfl (lv_at hl 0 rfl) ?_
    refine lv_iload_n hx hb d_pix_5 rfl (lv_at hl 1 rfl) ?_
    refine lv_icmp_lt (tgt := 16) hx hb d_pix_6 (by decide) (fun _ => ?_) (fun z => absurd h1 z)
    refine lv_iload_n hx hb d_pix_16 rfl (lv_at hl 0 rfl) ?_
    exact W.iret (hlocks := hlocks) hx hb hr (fun t ht hW => ⟨rfl, ht⟩) (fun q h => by cases h) d_pix_17
  rcases hv0 with rfl | ⟨q, rfl⟩
  · have hl := lv_entry ([.int i, .int (Int32.ofNat n), .null]) (n := 3) (Nat.le_of_ble_eq_true rfl)
    show W _ _ _ _ _ _ _ _ _ _ _ _ _ _ _ (entryFrame m ([.int i, .int (Int32.ofNat n), .null] : List Value).toArray 3)
    rw [lg_entry_eq]
    exact key _ (lv_sub hl [0, 1] rfl)
  · have hl := lv_entry ([.int i, .int (Int32.ofNat n), .ref q]) (n := 3) (Nat.le_of_ble_eq_true rfl)
    show W _ _ _ _ _ _ _ _ _ _ _ _ _ _ _ (entryFrame m ([.int i, .int (Int32.ofNat n), .ref q] : List Value).toArray 3)
    rw [lg_entry_eq]
    exact key _ (lv_sub hl [0, 1] rfl)
theorem c_sidx (h0 : ¬ i < 0) (h1 : i < Int32.ofNat n) : uy_Met l y_sidx (d + 1) [.int i, .int (Int32.ofNat n)] (fun U => uy_J uy_N U U.heap) none := by
  refine uy_ofW (by decide +kernel) ?_
  intro p e s m args below meth c s₁ B hml hv
  obtain ⟨rfl, hJ⟩ := hv
  have hx := B.exec
  have hb := B.bytes
  have hr := B.returns
  have hts := atoms_spec (ws := ux_ws y_sidx) B.pre
  have hown : s.vm.findClass "java/lang/String" = some m.cls := findClass_of_methodNamed B.named
  have hlocks := B.notSynchronized
  have hS : va_S uy_N s.heap s.heap [] := va_S.rf
  have hl := lv_entry ([.int i, .int (Int32.ofNat n)]) (n := 2) (Nat.le_of_ble_eq_true rfl)
  show W _ _ _ _ _ _ _ _ _ _ _ _ _ _ _ (entryFrame m ([.int i, .int (Int32.ofNat n)] : List Value).toArray 2)
  rw [lg_entry_eq]
  generalize (lg_sl ([.int i, .int (Int32.ofNat n)]) ++ List.replicate (2 - (lg_sl ([.int i, .int (Int32.ofNat n)])).length) Slot.unset).toArray = ls at hl ⊢
  have hl : lv_has ls 2 [(0, .int i), (1, .int (Int32.ofNat n))] := hl
  obtain ⟨v, hv0, hZ⟩ : ∃ v : Value, (v = .null ∨ ∃ q : Nat, v = .ref q) ∧ va_Z "jdk/internal/util/Preconditions" "SIOOBE_FORMATTER" "Ljava/util/function/BiFunction;" v uy_N s s.heap := by
    rcases hJ.2 with h | ⟨q, h⟩
    · exact ⟨_, .inl rfl, h⟩
    · exact ⟨_, .inr ⟨q, rfl⟩, h⟩
  refine lv_iload_n hx hb d_six_0 rfl (lv_at hl 0 rfl) ?_
  refine lv_iload_n hx hb d_six_1 rfl (lv_at hl 1 rfl) ?_
  refine va_gets hx hb hZ hS hown (hts _ (List.mem_cons_of_mem _ (ux_mem_good (ux_at uy_w555) rfl))) (fun _ h => h) d_six_2 ?_
  refine uy_calls (y := y_sidx) (y2 := y_pidx) (As := [.int i, .int (Int32.ofNat n), v]) (rest := []) (B := fun _ => True) hx hb hml hown hts (by show _ = some 3; decide +kernel) uy_w557 uy_w558 uy_i3 uy_w559 uy_nh3 (by decide) (c_pidx hv0 h0 h1) (fun _ _ _ _ h => h) (fun _ _ _ => trivial) rfl (Nat.le_of_ble_eq_true rfl) hl.1 d_six_5 ?_
  refine lv_pop hx hb d_six_8 rfl ?_
  exact W.vret (hlocks := hlocks) hx hb hr (fun t ht hW => ⟨rfl, ht⟩) (fun q h => by cases h) d_six_9
theorem uy_ch : ∀ k, k < 128 → (((nI k &&& 255).toUInt32 % 65536).toInt32 = nI k ∧ narrow .char (.int (nI k)) = .int (nI k)) := by decide +kernel
theorem c_lchr {w : Nat} (h0 : ¬ i < 0) (h1 : i < Int32.ofNat n) (hi : vp_in i n) (hw : f i.toNatClampNeg = nI w) (hw2 : w < 128) : uy_Met l y_lchr (d + 2) [.ref t, .int i] (fun U => va_T .byte t n (fun j => .int (f j)) uy_N U U.heap ∧ uy_J uy_N U U.heap) (some (.int (nI w))) := by
  refine uy_ofW (by decide +kernel) ?_
  intro p e s m args below meth c s₁ B hml hv
  obtain ⟨rfl, hT, hJ⟩ := hv
  have hx := B.exec
  have hb := B.bytes
  have hr := B.returns
  have hts := atoms_spec (ws := ux_ws y_lchr) B.pre
  have hown : s.vm.findClass "java/lang/StringLatin1" = some m.cls := findClass_of_methodNamed B.named
  have hlocks := B.notSynchronized
  have hS : va_S uy_N s.heap s.heap [] := va_S.rf
  have hl := lv_entry ([.ref t, .int i]) (n := 2) (Nat.le_of_ble_eq_true rfl)
  show W _ _ _ _ _ _ _ _ _ _ _ _ _ _ _ (entryFrame m ([.ref t, .int i] : List Value).toArray 2)
  rw [lg_entry_eq]
  generalize (lg_sl ([.ref t, .int i]) ++ List.replicate (2 - (lg_sl ([.ref t, .int i])).length) Slot.unset).toArray = ls at hl ⊢
  have hl : lv_has ls 2 [(0, .ref t), (1, .int i)] := hl
  refine lv_iload_n hx hb d_lch_0 rfl (lv_at hl 1 rfl) ?_
  refine lv_aload_n hx hb d_lch_1 rfl (lv_at hl 0 rfl) ?_
  refine va_tlen hx hb hT hS rfl d_lch_2 ?_
  refine uy_calls (y := y_lchr) (y2 := y_sidx) (As := [.int i, .int (Int32.ofNat n)]) (rest := []) (B := fun U => uy_J uy_N U U.heap) hx hb hml hown hts (by show _ = some 2; decide +kernel) uy_w552 uy_w553 uy_i1 uy_w554 uy_nh1 (by decide) (c_sidx h0 h1) (fun x U g mk h => uy_J.moved (u := U) (U := U.calling g mk x) (Vm.Alike.refl U.vm) h) (fun U hU hW => by rw [hU]; exact hJ.moved hW.alike) rfl (Nat.le_of_ble_eq_true rfl) hl.1 d_lch_3 ?_
  refine lv_aload_n hx hb d_lch_6 rfl (lv_at hl 0 rfl) ?_
  refine lv_iload_n hx hb d_lch_7 rfl (lv_at hl 1 rfl) ?_
  refine va_tb hx hb hT hS hi rfl d_lch_8 ?_
  rw [hw]
  refine lv_sipush (v := 255) hx hb d_lch_9 (by decide) ?_
  refine lv_iand hx hb d_lch_12 ?_
  refine lv_i2c hx hb d_lch_13 (uy_ch w hw2).1 ?_
  exact W.zret (hlocks := hlocks) hx hb hr (uy_ch w hw2).2 (fun t ht hW => ⟨rfl, ht⟩) (fun q h => by cases h) d_lch_14
theorem c_schr {w : Nat} (h0 : ¬ i < 0) (h1 : i < Int32.ofNat n) (hi : vp_in i n) (hw : f i.toNatClampNeg = nI w) (hw2 : w < 128) : uy_Met l y_schr (d + 3) [.ref a, .int i] (uy_B a t n f) (some (.int (nI w))) := by
  refine uy_ofW (by decide +kernel) ?_
  intro p e s m args below meth c s₁ B hml hv
  obtain ⟨rfl, hB⟩ := hv
  have hx := B.exec
  have hb := B.bytes
  have hr := B.returns
  have hts := atoms_spec (ws := ux_ws y_schr) B.pre
  have hown : s.vm.findClass "java/lang/String" = some m.cls := findClass_of_methodNamed B.named
  have hlocks := B.notSynchronized
  have hS : va_S uy_N s.heap s.heap [] := va_S.rf
  have hl := lv_entry ([.ref a, .int i]) (n := 2) (Nat.le_of_ble_eq_true rfl)
  show W _ _ _ _ _ _ _ _ _ _ _ _ _ _ _ (entryFrame m ([.ref a, .int i] : List Value).toArray 2)
  rw [lg_entry_eq]
  generalize (lg_sl ([.ref a, .int i]) ++ List.replicate (2 - (lg_sl ([.ref a, .int i])).length) Slot.unset).toArray = ls at hl ⊢
  have hl : lv_has ls 2 [(0, .ref a), (1, .int i)] := hl
  refine lv_aload_n hx hb d_chr_0 rfl (lv_at hl 0 rfl) ?_
  obtain ⟨cell, q1, q2, q3, -⟩ := hB.1.1
  refine uy_callv (y := y_schr) (y2 := y_latin) (As := []) (rest := []) hx hb hml hown hts (by decide +kernel) uy_w545 uy_w546 uy_w547 uy_i1 uy_w548 uy_nh1 (by decide) (c_latin (a := a) (t := t) (n := n) (f := f)) uy_B.calling ⟨cell, q1, q2, q3⟩ (fun U hU hW => hB.warm hU hW) rfl (Nat.le_of_ble_eq_true rfl) hl.1 d_chr_1 ?_
  refine lv_if_eq (tgt := 16) hx hb d_chr_4 (by decide) (fun z => absurd z (by decide)) (fun _ => ?_)
  refine lv_aload_n hx hb d_chr_7 rfl (lv_at hl 0 rfl) ?_
  refine vk_getf hx hb hB.1.2.2.1 hS hown (hts _ (List.mem_cons_of_mem _ (ux_mem_good (ux_at uy_w2093) rfl))) (fun _ h => h) d_chr_8 ?_
  refine lv_iload_n hx hb d_chr_11 rfl (lv_at hl 1 rfl) ?_
  refine uy_calls (y := y_schr) (y2 := y_lchr) (As := [.ref t, .int i]) (rest := []) (B := fun U => va_T .byte t n (fun j => .int (f j)) uy_N U U.heap ∧ uy_J uy_N U U.heap) hx hb hml hown hts (by show _ = some 2; decide +kernel) uy_w549 uy_w550 uy_i2 uy_w551 uy_nh2 (by decide) (c_lchr h0 h1 hi hw hw2) (fun x U g mk h => ⟨va_T.moved (u := U) (U := U.calling g mk x) (Vm.Alike.refl U.vm) h.1, uy_J.moved (u := U) (U := U.calling g mk x) (Vm.Alike.refl U.vm) h.2⟩) (fun U hU hW => by rw [hU]; exact ⟨va_T.moved hW.alike hB.1.2.2.2, hB.2.moved hW.alike⟩) rfl (Nat.le_of_ble_eq_true rfl) hl.1 d_chr_12 ?_
  exact W.zret (hlocks := hlocks) hx hb hr (uy_ch w hw2).2 (fun t ht hW => ⟨rfl, ht⟩) (fun q h => by cases h) d_chr_15
end UYB
