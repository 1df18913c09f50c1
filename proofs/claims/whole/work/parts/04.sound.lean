/-- the words, the numbers and the bytes that an instruction of the small machine rests on -/
def ux_wf (b : Nat) (own : String) (idx : Nat) (q : String × String × String × Bool) : Cond := if b = 0 then .fieldLink own idx q.1 q.2.1 q.2.2.1 else .fieldLinkNest own idx q.1 q.2.1 q.2.2.1 "ServiceManager"
def ux_wm (b : Nat) (own : String) (idx : Nat) (y : MethodName) : Cond := if b = 0 then .methodLink own idx y else .methodLinkNest own idx y "ServiceManager"
def ux_tps (pc : Nat) : Nat → List Int → List Nat
  | v, o :: os => v :: ((pc : Int) + o).toNat :: ux_tps pc (v + 1) os
  | _, [] => []
def ux_lps (pc : Nat) : List (Int × Int) → List Nat
  | (a, o) :: os => a.toNat :: ((pc : Int) + o).toNat :: ux_lps pc os
  | [] => []
abbrev ux_Chs : Type := String → Nat → Instr → Nat → Nat → List Nat → Bool
def ux_chd (chs : ux_Chs) (own : String) (ret : Option FieldType) (pc : Nat) : ux_op → Bool
  | (ig, n, 9 :: j :: da, _, _) => chs own pc ig n j da
  | (.iconst a, n, [], v, _) => decide (n = 1 ∧ Int32.ofInt a = v)
  | (.bipush a, n, [], v, _) => decide (n = 2 ∧ (Int8.ofInt a).toInt32 = v)
  | (.sipush a, n, [], v, _) => decide (n = 3 ∧ (Int16.ofInt a).toInt32 = v)
  | (.ldc i, n, [p], v, _) => decide (n = 2 ∧ lw_tbl[p]? = some (.constant own i v))
  | (.ldc_w i, n, [p], v, _) => decide (n = 3 ∧ lw_tbl[p]? = some (.constant own i v))
  | (.lconst a, n, [], v, _) => decide (n = 1 ∧ Int64.ofNat (a : Nat) = v.toInt64)
  | (.ldc2_w i, n, [0, a, p], _, _) => decide (n = 3 ∧ lw_tbl[p]? = some (.constantLong own i (Int64.ofNat a)))
  | (.iload_n k, n, [i], _, _) => decide (n = 1 ∧ (k : Nat) = i)
  | (.iload k, n, [i], _, _) => decide (n = 2 ∧ k = i)
  | (.lload_n k, n, [i], _, _) => decide (n = 1 ∧ (k : Nat) = i)
  | (.lload k, n, [i], _, _) => decide (n = 2 ∧ k = i)
  | (.aload_n k, n, [i], _, _) => decide (n = 1 ∧ (k : Nat) = i)
  | (.aload k, n, [i], _, _) => decide (n = 2 ∧ k = i)
  | (.istore_n k, n, [i], _, _) => decide (n = 1 ∧ (k : Nat) = i)
  | (.istore k, n, [i], _, _) => decide (n = 2 ∧ k = i)
  | (.astore_n k, n, [i], _, _) => decide (n = 1 ∧ (k : Nat) = i)
  | (.astore k, n, [i], _, _) => decide (n = 2 ∧ k = i)
  | (.lstore_n k, n, [i], _, _) => decide (n = 1 ∧ (k : Nat) = i)
  | (.lstore k, n, [i], _, _) => decide (n = 2 ∧ k = i)
  | (.iinc k a, n, [i], v, _) => decide (n = 3 ∧ k = i ∧ Int32.ofInt a = v)
  | (.goto a, n, [t], _, _) => decide (n = 3 ∧ (pc : Int) + a = (t : Int))
  | (.ifCond _ a, n, [t], _, _) => decide (n = 3 ∧ (pc : Int) + a = (t : Int))
  | (.if_icmp _ a, n, [t], _, _) => decide (n = 3 ∧ (pc : Int) + a = (t : Int))
  | (.getfield i, n, [0, c, f, ty, m, t, b, p], _, _) => decide (n = 3 ∧ c < 7 ∧ f < ux_nf c ∧ ux_fs c f = (ty, m, t) ∧ lw_tbl[p]? = some (ux_wf b own i (ux_fM c f)))
  | (.putfield i, n, [0, c, f, ty, m, t, b, p], _, _) => decide (n = 3 ∧ c < 7 ∧ f < ux_nf c ∧ ux_fs c f = (ty, m, t) ∧ lw_tbl[p]? = some (ux_wf b own i (ux_fM c f)) ∧ (ux_fM c f).2.2.2 = false ∧ (ux_fM c f).2.2.1 = (if ty = 0 then "I" else if ty = 3 then "Z" else "[I"))
  | (.invokevirtual i, n, [0, c, k, _, b, p, p1, p2], _, y) => decide (n = 3 ∧ c < 7 ∧ ux_rM c = y.1.cls ∧ (parseMethodDescriptor y.1.desc).map (fun d => d.parameters.length) = some k ∧ lw_tbl[p]? = some (ux_wm b own i y.1) ∧ lw_tbl[p1]? = some (.instanceMethod y.1) ∧ lw_tbl[p2]? = some (.selects y.1.cls y.1 y.1))
  | (.invokestatic i, n, [0, p1, k, _, b, p], _, y) => decide (n = 3 ∧ (parseMethodDescriptor y.1.desc).map (fun d => d.parameters.length) = some k ∧ lw_tbl[p]? = some (ux_wm b own i y.1) ∧ lw_tbl[p1]? = some (.static y.1))
  | (.tableswitch df lo hi offs, _, 10 :: td :: ps, _, _) => decide ((pc : Int) + df = (td : Int) ∧ 0 ≤ lo ∧ ux_tps pc lo.toNat offs.toList = ps ∧ hi + 1 = lo + (offs.toList.length : Int) ∧ hi < 1000000 ∧ ∀ o ∈ offs.toList, 0 ≤ (pc : Int) + o)
  | (.lookupswitch df prs, _, 10 :: td :: ps, _, _) => decide ((pc : Int) + df = (td : Int) ∧ ux_lps pc prs.toList = ps ∧ (prs.toList.zip (prs.toList.drop 1)).all (fun (a, next) => a.1 < next.1) = true ∧ ∀ q ∈ prs.toList, 0 ≤ q.1 ∧ q.1 < 1000000 ∧ 0 ≤ (pc : Int) + q.2)
  | (.ireturn, n, [ty], _, _) => decide (n = 1 ∧ ret = some (if ty = 0 then .int else .boolean))
  | (.areturn, n, [], _, _) => decide (n = 1 ∧ ret = some (.array .int))
  | (.return_, n, [], _, _) => decide (n = 1 ∧ ret = none)
  | (.iadd, n, [], _, _) => decide (n = 1)
  | (.isub, n, [], _, _) => decide (n = 1)
  | (.imul, n, [], _, _) => decide (n = 1)
  | (.irem, n, [], _, _) => decide (n = 1)
  | (.ineg, n, [], _, _) => decide (n = 1)
  | (.iand, n, [], _, _) => decide (n = 1)
  | (.ior, n, [], _, _) => decide (n = 1)
  | (.ixor, n, [], _, _) => decide (n = 1)
  | (.ishl, n, [], _, _) => decide (n = 1)
  | (.ishr, n, [], _, _) => decide (n = 1)
  | (.land, n, [], _, _) => decide (n = 1)
  | (.lor, n, [], _, _) => decide (n = 1)
  | (.ladd, n, [], _, _) => decide (n = 1)
  | (.lsub, n, [], _, _) => decide (n = 1)
  | (.lmul, n, [], _, _) => decide (n = 1)
  | (.lushr, n, [], _, _) => decide (n = 1)
  | (.lshl, n, [], _, _) => decide (n = 1)
  | (.lcmp, n, [], _, _) => decide (n = 1)
  | (.i2l, n, [], _, _) => decide (n = 1)
  | (.l2i, n, [], _, _) => decide (n = 1)
  | (.dup, n, [], _, _) => decide (n = 1)
  | (.dup2, n, [], _, _) => decide (n = 1)
  | (.pop, n, [], _, _) => decide (n = 1)
  | (.iaload, n, [], _, _) => decide (n = 1)
  | (.baload, n, [], _, _) => decide (n = 1)
  | (.iastore, n, [], _, _) => decide (n = 1)
  | (.bastore, n, [], _, _) => decide (n = 1)
  | (.aaload, n, [], _, _) => decide (n = 1)
  | (.laload, n, [], _, _) => decide (n = 1)
  | (.lastore, n, [], _, _) => decide (n = 1)
  | (.iushr, n, [], _, _) => decide (n = 1)
  | (.arraylength, n, [], _, _) => decide (n = 1)
  | _ => false
def ux_chk (chs : ux_Chs) (own : String) (ret : Option FieldType) (b : ByteArray) (pc : Nat) (op : ux_op) : Bool := decide (decode b pc = .ok (op.1, op.2.1)) && ux_chd chs own ret pc op
def ux_chks (chs : ux_Chs) (own : String) (ret : Option FieldType) (b : ByteArray) : Nat → List ux_op → Bool
  | _, [] => true
  | pc, op :: ops => ux_chk chs own ret b pc op && ux_chks chs own ret b (pc + op.2.1) ops
/-! words of the tables -/
theorem ux_mem_good {w : Cond} (h : w ∈ lw_tbl) (g : goodWord w = true) : w ∈ ux_good := List.mem_filter.mpr ⟨h, g⟩
theorem ux_at {p : Nat} {w : Cond} (h : lw_tbl[p]? = some w) : w ∈ lw_tbl := List.mem_of_getElem? h
theorem ux_goodIn (y y2 : ux_Y) (hc : Cond.code y2.1 y2.2.1 y2.2.2.1 y2.2.2.2 ∈ lw_tbl) : GoodIn (ux_ws y) (ux_ws y2) := by
  intro w hw
  have key : w ∈ ux_good := by
    rcases List.mem_cons.mp hw with rfl | h
    · exact ux_mem_good hc rfl
    · exact h
  exact ⟨List.mem_cons_of_mem _ key, good_of_word (List.mem_filter.mp key).2⟩
def ux_G (l : Launch) (E : ux_E) (y : ux_Y) (p : Program) (s : State) (m : MethodId) (args : Array Value) (meth : Method) (c : Code) : Prop :=
  p.tables.exec = Jvm.exec ∧ c.code = y.2.1 ∧ c.maxLocals = y.2.2.1 ∧ s.vm.findClass y.1.cls = some m.cls ∧ (∀ w ∈ ux_ws y, w.before args s = true) ∧ ux_K E s s.heap ∧ meth.locks = false ∧ meth.sig.returnType = y.2.2.2
def ux_lr (E : ux_E) (ls : Array Slot) (n : Nat) (L : ux_L) : Prop := ls.size = n ∧ lv_wf ls ∧ L.length ≤ n ∧ ∀ (i : Nat) (v : ux_V), L[i]? = some (some v) → ls[i]? = some (.val (ux_rho E v))
/-- the frame stands at pc, over these locals, this stack, this memory, and comes to its end with R -/
def ux_Wt (l : Launch) (E : ux_E) (d : Nat) (y : ux_Y) (p : Program) (e : Env) (s : State) (m : MethodId) (args : Array Value) (below : List Frame) (meth : Method) (c : Code) (R : Option ux_V → ux_M → Prop) (pc : Nat) (L : ux_L) (st : List ux_V) (M : ux_M) : Prop :=
  ∀ (H : Heap) (locs : List Loc) (ls : Array Slot), ux_lr E ls y.2.2.1 L → (∀ (i : Nat) (v : ux_V), L[i]? = some (some v) → ux_okV v) → (∀ v ∈ st, ux_okV v) → ux_Rep E M H → va_S (ux_A E) s.heap H locs →
    W p l e (ux_room d) s m args below meth c H locs 0 0 (MQ below (ux_post E R) args s 0 0 (ux_A E)) (F0 m pc ls (st.map (ux_rho E)))
/-- A PLACE IN A METHOD: from there, with these locals, this stack and this memory, it comes to its end with Q -/
def ux_At (l : Launch) (E : ux_E) (d : Nat) (y : ux_Y) (pc : Nat) (L : ux_L) (st : List ux_V) (M : ux_M) (Q : Option ux_V → ux_M → Prop) : Prop :=
  ∀ (p : Program) (e : Env) (s : State) (m : MethodId) (args : Array Value) (below : List Frame) (meth : Method) (c : Code), ux_G l E y p s m args meth c → ux_Wt l E d y p e s m args below meth c Q pc L st M
theorem ux_tl {a : ux_V} {st : List ux_V} (h : ∀ v ∈ a :: st, ux_okV v) : ∀ v ∈ st, ux_okV v := fun v hv => h v (List.mem_cons_of_mem _ hv)
theorem ux_hd {a : ux_V} {st : List ux_V} (h : ∀ v ∈ a :: st, ux_okV v) : ux_okV a := h a List.mem_cons_self
theorem ux_cn {a : ux_V} {st : List ux_V} (ha : ux_okV a) (h : ∀ v ∈ st, ux_okV v) : ∀ v ∈ a :: st, ux_okV v := List.forall_mem_cons.mpr ⟨ha, h⟩
theorem ux_lg_spec {L : ux_L} {i : Nat} {v : ux_V} (h : ux_lg L i = some v) : L[i]? = some (some v) := by
  unfold ux_lg at h
  split at h
  · rename_i w hw; cases h; exact hw
  · cases h
theorem ux_cat (E : ux_E) (v : ux_V) : (ux_rho E v).category = (match v with | .inr (.inl _) => 2 | _ => 1) := by
  rcases v with x | x | q <;> rfl
theorem ux_lr_lt {E : ux_E} {ls : Array Slot} {n i : Nat} {L : ux_L} {v : ux_V} (h : ux_lr E ls n L) (hi : L[i]? = some (some v)) : i < n := by
  have := (List.getElem?_eq_some_iff.mp hi).1
  have := h.2.2.1
  omega
/-- the locals as the kit's list -/
def ux_al (E : ux_E) (L : ux_L) : List (Nat × Value) := (List.range L.length).filterMap (fun i => (ux_lg L i).map (fun v => (i, ux_rho E v)))
theorem ux_al_mem {E : ux_E} {L : ux_L} {i : Nat} {w : Value} : (i, w) ∈ ux_al E L ↔ ∃ v, L[i]? = some (some v) ∧ w = ux_rho E v := by
  unfold ux_al
  rw [List.mem_filterMap]
  constructor
  · rintro ⟨j, -, hj⟩
    rw [Option.map_eq_some_iff] at hj
    obtain ⟨v, h1, h2⟩ := hj
    cases h2
    exact ⟨v, ux_lg_spec h1, rfl⟩
  · rintro ⟨v, h1, rfl⟩
    refine ⟨i, List.mem_range.mpr (List.getElem?_eq_some_iff.mp h1).1, ?_⟩
    unfold ux_lg
    rw [h1]
    rfl
theorem ux_al_has {E : ux_E} {ls : Array Slot} {n : Nat} {L : ux_L} (h : ux_lr E ls n L) : lv_has ls n (ux_al E L) := by
  refine ⟨h.1, h.2.1, fun q hq => ?_⟩
  obtain ⟨i, w⟩ := q
  obtain ⟨v, h1, rfl⟩ := ux_al_mem.mp hq
  exact h.2.2.2 i v h1
theorem ux_cut_len (L : ux_L) (i : Nat) : (ux_cut L i).length = L.length := by
  unfold ux_cut
  split
  · rfl
  · split <;> simp
theorem ux_cut_at {L : ux_L} {i j : Nat} {v : ux_V} (h : (ux_cut L i)[j]? = some (some v)) : L[j]? = some (some v) ∧ ¬ (j + 1 = i ∧ ∃ x, v = .inr (.inl x)) := by
  unfold ux_cut at h
  split at h
  · exact ⟨h, fun q => by omega⟩
  · rename_i k
    split at h
    · rename_i x hx
      rw [List.getElem?_set] at h
      split at h
      · split at h <;> simp at h
      · exact ⟨h, fun q => by omega⟩
    · rename_i hn
      refine ⟨h, fun q => ?_⟩
      obtain ⟨q1, x, rfl⟩ := q
      have q2 : j = k := by omega
      subst q2
      exact hn x (by unfold ux_lg; rw [h])
theorem ux_st_len (L : ux_L) (i : Nat) (v : ux_V) : (ux_st L i v).length = L.length := by simp [ux_st, ux_cut_len]
theorem ux_st_at {L : ux_L} {i j : Nat} {v w : ux_V} (h : (ux_st L i v)[j]? = some (some w)) : (j = i ∧ w = v) ∨ (j ≠ i ∧ L[j]? = some (some w) ∧ ¬ (j + 1 = i ∧ ∃ x, w = .inr (.inl x))) := by
  unfold ux_st at h
  rw [List.getElem?_set] at h
  split at h
  · rename_i hij
    split at h
    · have h := Option.some.inj h; have h := Option.some.inj h
      exact Or.inl ⟨hij.symm, h.symm⟩
    · cases h
  · rename_i hij
    obtain ⟨h1, h2⟩ := ux_cut_at h
    exact Or.inr ⟨fun q => hij q.symm, h1, h2⟩
theorem ux_st2_at {L : ux_L} {i j : Nat} {v w : ux_V} (h : (ux_st2 L i v)[j]? = some (some w)) : (j = i ∧ w = v) ∨ (j ≠ i ∧ j ≠ i + 1 ∧ L[j]? = some (some w) ∧ ¬ (j + 1 = i ∧ ∃ x, w = .inr (.inl x))) := by
  unfold ux_st2 at h
  rw [List.getElem?_set] at h
  split at h
  · split at h <;> simp at h
  · rename_i hij
    rcases ux_st_at (L := L) (i := i) (v := v) h with q | q
    · exact Or.inl q
    · exact Or.inr ⟨q.1, fun z => hij z.symm, q.2⟩
theorem ux_st_lr {E : ux_E} {ls ls' : Array Slot} {n i : Nat} {L : ux_L} {v : ux_V} (h : ux_lr E ls n L)
    (h2 : lv_has ls' n ((i, ux_rho E v) :: (ux_al E L).filter (fun q => !(q.1 == i) && !(q.1 + 1 == i && q.2.category == 2)))) : ux_lr E ls' n (ux_st L i v) := by
  refine ⟨h2.1, h2.2.1, by rw [ux_st_len]; exact h.2.2.1, fun j w hj => ?_⟩
  rcases ux_st_at hj with ⟨rfl, rfl⟩ | ⟨a1, a2, a3⟩
  · exact h2.2.2 (j, ux_rho E w) List.mem_cons_self
  · refine h2.2.2 (j, ux_rho E w) (List.mem_cons_of_mem _ (List.mem_filter.mpr ⟨ux_al_mem.mpr ⟨w, a2, rfl⟩, ?_⟩))
    rcases w with x | x | q
    · simp [a1, ux_rho, Value.category]
    · have : ¬ j + 1 = i := fun z => a3 ⟨z, x, rfl⟩
      simp [a1, this]
    · simp [a1, ux_rho, Value.category]
theorem ux_st2_lr {E : ux_E} {ls ls' : Array Slot} {n i : Nat} {L : ux_L} {v : ux_V} (h : ux_lr E ls n L)
    (h2 : lv_has ls' n ((i, ux_rho E v) :: (ux_al E L).filter (fun q => !(q.1 == i) && (!(q.1 == i + 1) && !(q.1 + 1 == i && q.2.category == 2))))) : ux_lr E ls' n (ux_st2 L i v) := by
  refine ⟨h2.1, h2.2.1, by simp [ux_st2, ux_cut_len]; exact h.2.2.1, fun j w hj => ?_⟩
  rcases ux_st2_at hj with ⟨rfl, rfl⟩ | ⟨a1, a0, a2, a3⟩
  · exact h2.2.2 (j, ux_rho E w) List.mem_cons_self
  · refine h2.2.2 (j, ux_rho E w) (List.mem_cons_of_mem _ (List.mem_filter.mpr ⟨ux_al_mem.mpr ⟨w, a2, rfl⟩, ?_⟩))
    rcases w with x | x | q
    · simp [a1, a0, ux_rho, Value.category]
    · have : ¬ j + 1 = i := fun z => a3 ⟨z, x, rfl⟩
      simp [a1, a0, this]
    · simp [a1, a0, ux_rho, Value.category]
theorem ux_st_ok {L : ux_L} {i : Nat} {v : ux_V} (h : ∀ (j : Nat) (w : ux_V), L[j]? = some (some w) → ux_okV w) (hv : ux_okV v) : ∀ (j : Nat) (w : ux_V), (ux_st L i v)[j]? = some (some w) → ux_okV w := by
  intro j w hj
  rcases ux_st_at hj with ⟨rfl, rfl⟩ | ⟨-, a2, -⟩
  · exact hv
  · exact h j w a2
theorem ux_st2_ok {L : ux_L} {i : Nat} {v : ux_V} (h : ∀ (j : Nat) (w : ux_V), L[j]? = some (some w) → ux_okV w) (hv : ux_okV v) : ∀ (j : Nat) (w : ux_V), (ux_st2 L i v)[j]? = some (some w) → ux_okV w := by
  intro j w hj
  rcases ux_st2_at hj with ⟨rfl, rfl⟩ | ⟨-, -, a2, -⟩
  · exact hv
  · exact h j w a2
