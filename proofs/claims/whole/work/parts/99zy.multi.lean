/-! CONSTRUCTORS, 1: new int[6][16], in steps -/
/-- the outer row of h with i of its places filled -/
def um_o (cO : ClassId) (h : Nat) : Nat → Cell
  | 0 => { cls := cO, slots := Array.replicate 6 .null, vm := .none }
  | i + 1 => (um_o cO h i).setSlot i (.ref (h + 1 + i))
def um_r (cI : ClassId) : Cell := { cls := cI, slots := Array.replicate 16 (.int 0), vm := .none }
/-- the state behind i rows -/
def um_T (T : State) (cO cI : ClassId) : Nat → State
  | 0 => T.pushCell (um_o cO T.heap.size 0)
  | i + 1 => ((um_T T cO cI i).pushCell (um_r cI)).setCell T.heap.size (um_o cO T.heap.size (i + 1))
section UMA
variable {T : State} {cO cI : ClassId} {h i j : Nat}
theorem um_of (cO : ClassId) (h : Nat) : ∀ i, (um_o cO h i).cls = cO ∧ (um_o cO h i).vm = .none ∧ (um_o cO h i).slots.size = 6 := by
  intro i
  induction i with
  | zero => exact ⟨rfl, rfl, by simp [um_o]⟩
  | succ i ih =>
    obtain ⟨a, b, d⟩ := ih
    exact ⟨by simp [um_o, Cell.setSlot, a], by simp [um_o, Cell.setSlot, b], by simp [um_o, Cell.setSlot, d]⟩
theorem um_os (cO : ClassId) (h : Nat) {j : Nat} (hj : j < 6) : ∀ i, (um_o cO h i).slots[j]? = some (if j < i then .ref (h + 1 + j) else .null) := by
  intro i
  induction i with
  | zero => simp [um_o, hj]
  | succ i ih =>
    have hs := (um_of cO h i).2.2
    show ((um_o cO h i).setSlot i (.ref (h + 1 + i))).slots[j]? = _
    simp only [Cell.setSlot, Array.getElem?_setIfInBounds]
    by_cases e : i = j
    · subst e; simp [hs, hj]
    · rw [if_neg e, ih]
      by_cases q : j < i
      · rw [if_pos q, if_pos (by omega)]
      · rw [if_neg q, if_neg (by omega)]
theorem um_Tf (T : State) (cO cI : ClassId) : ∀ i, (um_T T cO cI i).heap.size = T.heap.size + 1 + i ∧ (um_T T cO cI i).heap[T.heap.size]? = some (um_o cO T.heap.size i) ∧ (um_T T cO cI i).vm = T.vm ∧ (um_T T cO cI i).slotsUsed = T.slotsUsed + 6 + i * 16 := by
  intro i
  induction i with
  | zero => exact ⟨by simp [um_T], by simp [um_T], rfl, by simp [um_T, um_o]⟩
  | succ i ih =>
    obtain ⟨a, b, d, u⟩ := ih
    have hlt : T.heap.size < (um_T T cO cI i).heap.size := by omega
    have hb' : ((um_T T cO cI i).pushCell (um_r cI)).heap[T.heap.size]? = some (um_o cO T.heap.size i) := by rw [State.heap_pushCell_of_lt (h := hlt)]; exact b
    refine ⟨?_, State.heap_setCell_self hb', by simp [um_T, d], ?_⟩
    · simp [um_T, State.setCell, a]; omega
    · simp [um_T, u, um_r]; omega
theorem um_Tt (T : State) (g : JFrame) (cO cI : ClassId) : ∀ i, um_T (T.setTop g) cO cI i = (um_T T cO cI i).setTop g := by
  intro i
  induction i with
  | zero => rfl
  | succ i ih => simp only [um_T, ih, State.heap_setTop, State.pushCell_setTop, State.setCell_setTop]
theorem um_To (T : State) (cO cI : ClassId) {a : Nat} (ha : a < T.heap.size) : ∀ i, (um_T T cO cI i).heap[a]? = T.heap[a]? := by
  intro i
  induction i with
  | zero => exact State.heap_pushCell_of_lt _ _ ha
  | succ i ih =>
    have f1 := (um_Tf T cO cI i).1
    have hlt : a < (um_T T cO cI i).heap.size := by omega
    show (((um_T T cO cI i).pushCell (um_r cI)).setCell T.heap.size _).heap[a]? = _
    rw [State.heap_setCell_other (Nat.ne_of_gt ha), State.heap_pushCell_of_lt (h := hlt)]
    exact ih
theorem um_Tr (T : State) (cO cI : ClassId) : ∀ i j, j < i → (um_T T cO cI i).heap[T.heap.size + 1 + j]? = some (um_r cI) := by
  intro i
  induction i with
  | zero => intro j hj; exact absurd hj (Nat.not_lt_zero _)
  | succ i ih =>
    intro j hj
    have f1 := (um_Tf T cO cI i).1
    show (((um_T T cO cI i).pushCell (um_r cI)).setCell T.heap.size _).heap[T.heap.size + 1 + j]? = _
    rw [State.heap_setCell_other (show T.heap.size ≠ T.heap.size + 1 + j by omega)]
    by_cases e : j = i
    · subst e
      rw [← f1]
      exact State.heap_pushCell_size _ _
    · have hlt : T.heap.size + 1 + j < (um_T T cO cI i).heap.size := by omega
      rw [State.heap_pushCell_of_lt (h := hlt)]
      exact ih j (by omega)
theorem um_oA (cO : ClassId) (h : Nat) : um_o cO h 6 = arrV cO 6 (fun j => .ref (h + 1 + j)) := by
  obtain ⟨a, b, d⟩ := um_of cO h 6
  have e : (um_o cO h 6).slots = (arrV cO 6 (fun j => .ref (h + 1 + j))).slots := by
    refine Array.ext (by rw [d, arrV_size]) (fun k h1 h2 => ?_)
    have h6 : k < 6 := by rw [d] at h1; exact h1
    have e1 := um_os cO h h6 6
    rw [if_pos h6, Array.getElem?_eq_getElem h1] at e1
    have e2 := Option.some.inj e1
    rw [e2]
    simp [arrV]
  calc um_o cO h 6 = { cls := (um_o cO h 6).cls, slots := (um_o cO h 6).slots, vm := (um_o cO h 6).vm } := rfl
    _ = _ := by rw [a, b, e]; rfl
theorem um_rA (cI : ClassId) : um_r cI = arrV cI 16 (fun _ => .int 0) := by
  unfold um_r arrV
  congr 1
end UMA
section UMB
variable {p : Program} {l : Launch} {e : Env} {R : Room} {s : State} {m : MethodId} {args : Array Value} {below : List Frame} {meth : Method} {c : Code} {T : State} {H : Heap} {locs : List Loc} {cells slots : Nat} {Q : State → Prop}
theorem um_X (X : Stand p l e R s m args below meth c T locs cells slots) (cO cI : ClassId) : ∀ i, Stand p l e R s m args below meth c (um_T T cO cI i) (locs ++ (List.range i).map fun j => ⟨T.heap.size, j⟩) (cells + 1 + i) (slots + 6 + i * 16) := by
  intro i
  induction i with
  | zero =>
    have h := X.pushed (um_o cO T.heap.size 0)
    rw [(um_of cO T.heap.size 0).2.2] at h
    simpa [um_T] using h
  | succ i ih =>
    obtain ⟨f1, f2, -, -⟩ := um_Tf T cO cI i
    have hlt0 : T.heap.size < (um_T T cO cI i).heap.size := by omega
    have hcell : ((um_T T cO cI i).pushCell (um_r cI)).heap[T.heap.size]? = some (um_o cO T.heap.size i) := by rw [State.heap_pushCell_of_lt (h := hlt0)]; exact f2
    have h := (ih.pushed (um_r cI)).stored hcell i (.ref (T.heap.size + 1 + i))
    have e1 : (um_r cI).slots.size = 16 := by simp [um_r]
    rw [e1] at h
    have e2 : (locs ++ (List.range (i + 1)).map fun j => (⟨T.heap.size, j⟩ : Loc)) = (locs ++ (List.range i).map fun j => (⟨T.heap.size, j⟩ : Loc)) ++ [⟨T.heap.size, i⟩] := by simp [List.range_succ, List.append_assoc]
    have e3 : slots + 6 + (i + 1) * 16 = slots + 6 + i * 16 + 16 := by omega
    rw [e2, e3]
    exact h
/-- the machine's loop -/
theorem um_wp {E : CtlPost} {e : Env} {d : Bool} {acts : List Action} {s : State} {cO cI cc : ClassId} {kO kI : Class} (hkO : s.vm.classes[cO]? = some kO) (hO : kO.kind = .array cI (.array .int)) (hkI : s.vm.classes[cI]? = some kI) (hI : kI.kind = .array cc .int)
    (hl : ¬ 16 > e.platform.arrayLengthLimit) (hh : ¬ 64 > e.platform.maxHeapBytes) (hc : s.heap.size + 7 ≤ e.platform.maxCells) (hs : s.slotsUsed + 102 ≤ e.platform.maxSlots)
    {Q : Addr → Pre} (hq : ∀ d' acts', Q s.heap.size d' acts' (um_T s cO cI 6)) : wp (multianewarray.make cO [6, 16]) Q E e d acts s := by
  have n6 : ¬ (6 : Int32) < 0 := by decide
  have n16 : ¬ (16 : Int32) < 0 := by decide
  have z6 : ((6 : Int32) == 0) = false := by decide
  have c6 : (6 : Int32).toNatClampNeg = 6 := by decide +kernel
  have c16 : (16 : Int32).toNatClampNeg = 16 := by decide +kernel
  have b1 : componentBytes (.array .int) = 4 := rfl
  have b2 : componentBytes .int = 4 := rfl
  rw [multianewarray.make]
  simp only [wp_bind', W.ite, n6, if_false, wp_pure', W.theClass, hkO, hO, Option.some.injEq, exists_eq_left', z6, Bool.false_eq_true, c6]
  refine W.newArray_of hkO hO (by omega) (by rw [b1]; omega) (by omega) (by omega) rfl (fun acts1 => ?_)
  rw [wp_bind', Std.Legacy.Range.forIn_eq_forIn_range']
  have hsz : ([:6] : Std.Legacy.Range).size = 6 := by simp [Std.Legacy.Range.size]
  rw [hsz]
  show wp (forIn (List.range' 0 6 1) PUnit.unit _) _ E e d acts1 _
  refine wp_forIn_inv (fun rest s' => ∃ i, i ≤ 6 ∧ rest = List.range' i (6 - i) ∧ s' = um_T s cO cI i) _ _ ⟨0, by omega, rfl, rfl⟩ ?_ ?_
  · rintro x rest s' d' acts' Q' ⟨i, hi, hl2, rfl⟩ hnext
    have hlt : i < 6 := by
      apply Classical.byContradiction
      intro q
      rw [show 6 - i = 0 by omega] at hl2
      simp at hl2
    rw [show 6 - i = (6 - (i + 1)) + 1 by omega, List.range'_succ] at hl2
    obtain ⟨rfl, hrest⟩ := List.cons.inj hl2
    obtain ⟨f1, f2, f3, f4⟩ := um_Tf s cO cI x
    obtain ⟨o1, o2, o3⟩ := um_of cO s.heap.size x
    have hlt0 : s.heap.size < (um_T s cO cI x).heap.size := by omega
    rw [wp_bind', multianewarray.make]
    simp only [wp_bind', W.ite, n16, if_false, wp_pure', W.theClass, f3, hkI, hI, Option.some.injEq, exists_eq_left', c16]
    refine W.newArray_of (by rw [f3]; exact hkI) hI hl (by rw [b2]; exact hh) (by omega) (by omega) rfl (fun acts2 => ?_)
    simp only [wp_bind', W.writeLoc, wp_pure']
    refine ⟨um_o cO s.heap.size x, by rw [State.heap_pushCell_of_lt (h := hlt0)]; exact f2, by rw [o2]; simp, by rw [o3]; exact hlt, ?_, hnext _ _ _ ⟨x + 1, hlt, hrest, ?_⟩⟩
    · rw [o1, o2]
      simp [State.fitsSlot, State.slotType?, f3, hkO, hO, fits]
    · rw [f1]; rfl
  · rintro s' d' acts' ⟨i, hi, hl2, rfl⟩
    have hi6 : i = 6 := by
      apply Classical.byContradiction
      intro q
      rw [show 6 - i = (6 - (i + 1)) + 1 by omega, List.range'_succ] at hl2
      cases hl2
    subst hi6
    simp only [wp_pure']
    exact hq _ _
/-- what is known of the class of rows of rows -/
def um_K (U : State) (cI cO : ClassId) : Prop := U.vm.findClass "[[I" = some cO ∧ ∃ (kO kI : Class) (cc : ClassId), U.vm.classes[cO]? = some kO ∧ kO.kind = .array cI (.array .int) ∧ U.vm.classes[cI]? = some kI ∧ kI.kind = .array cc .int
theorem um_K.moved {u U : State} {cI cO : ClassId} (hvm : u.vm.Alike U.vm) (h : um_K u cI cO) : um_K U cI cO := by
  obtain ⟨h0, kO, kI, cc, h1, h2, h3, h4⟩ := h
  obtain ⟨kO', g1, g2⟩ := hvm.2.2 _ _ h1
  obtain ⟨kI', g3, g4⟩ := hvm.2.2 _ _ h3
  exact ⟨by rw [hvm.findClass]; exact h0, kO', kI', cc, g1, by rw [g2]; exact h2, g3, by rw [g4]; exact h4⟩
theorem um_step (X : Stand p l e R s m args below meth c T locs cells slots) (hexec : p.tables.exec = Jvm.exec) {own : String} {index : Nat} {cI cO : ClassId} (hown : s.vm.findClass own = some m.cls) (hclink : (Cond.classLink own index "[[I").before args s = true) (hK : um_K s cI cO)
    {g : JFrame} (hg : g.method = m) (hdg : decode c.code g.pc = .ok (.multianewarray index 2, 4)) {rest : List Value} (hstack : g.stack = .int 16 :: .int 6 :: rest) (hcells : cells + 7 ≤ R.cells) (hslots : slots + 102 ≤ R.slots) :
    ∃ vm₁ : Vm, s.WarmedH vm₁ ∧ Stand p l e R s m args below meth c (um_T (T.setVm vm₁) cO cI 6) (locs ++ (List.range 6).map fun j => ⟨T.heap.size, j⟩) (cells + 1 + 6) (slots + 6 + 6 * 16) ∧
      ∀ target, Steps p.tables e below ((um_T (T.setVm vm₁) cO cI 6).setTop { g with pc := g.pc + 4, stack := .ref T.heap.size :: rest }) target → Steps p.tables e below (T.setTop g) target := by
  subst hg
  have hpl : e.platform.magicAccessors = ({} : Platform).magicAccessors := by rw [X.admits.platform]
  obtain ⟨hnO, kO, kI, cc, hkO, hkindO, hkI, hkindI⟩ := hK
  obtain ⟨c0, hfc0, hcl⟩ := Cond.classLink_spec hown hclink e.platform hpl
  cases hnO.symm.trans hfc0
  obtain ⟨hg₁, hwarm₁, hready₁⟩ := State.classEntry (e := e) X.warmed hcl
  generalize T.vm.noted g.method.cls index (.cls cO) = vm₁ at hg₁ hwarm₁ hready₁
  have hal : s.vm.Alike vm₁ := hwarm₁.alike
  obtain ⟨kO₁, hkO₁, heO⟩ := hal.2.2 _ _ hkO
  obtain ⟨kI₁, hkI₁, heI⟩ := hal.2.2 _ _ hkI
  have hkindO₁ : kO₁.kind = .array cI (.array .int) := by rw [heO]; exact hkindO
  have hkindI₁ : kI₁.kind = .array cc .int := by rw [heI]; exact hkindI
  have X₁ := X.noted hwarm₁
  obtain ⟨hr1, hr2⟩ := X.roomAbove hcells hslots
  refine ⟨vm₁, hwarm₁, um_X X₁ cO cI 6, fun target hrest => ?_⟩
  have hl : ¬ 16 > e.platform.arrayLengthLimit := by rw [Launch.admits_arrayLengthLimit X.admits]; omega
  have hh : ¬ 64 > e.platform.maxHeapBytes := by rw [Launch.admits_maxHeapBytes X.admits]; omega
  jvm_step X.here [hexec, hdg]
  simp only [multianewarray.sem, wp_bind', W.resolveClassAt_links (State.method?_setTop g X.here.top) hg₁]
  rw [W.popN, if_neg (by decide)]
  refine ⟨g, State.topJava?_setTop' (s := T.setVm vm₁) g X.here.top, [.int 6, .int 16], rest, rfl, hstack, ?_⟩
  simp only [List.mapM_cons, List.mapM_nil, wp_bind', wp_pure']
  refine um_wp (kO := kO₁) (kI := kI₁) hkO₁ hkindO₁ hkI₁ hkindI₁ hl hh (by show T.heap.size + 7 ≤ _; omega) (by show T.slotsUsed + 102 ≤ _; omega) (fun d' acts' => ?_)
  have XF := um_X X₁ cO cI 6
  have eS : ((T.setTop g).setVm vm₁).setTop { g with stack := rest } = (T.setVm vm₁).setTop { g with stack := rest } := by
    show ((T.setVm vm₁).setTop g).setTop _ = _
    rw [State.setTop_setTop]
  rw [eS, um_Tt]
  simp only [wp_bind', W.mark, W.pushRef, State.topJava?_setTop' _ XF.here.top, Option.some.injEq, exists_eq_left', State.setTop_setTop, State.heap_setTop]
  intro acts
  simp [jvm, XF.here.top]
  exact hrest
/-- new int[6][16] -/
theorem um_W {cc0 : ByteArray} {pc : Nat} {ls : Array Slot} {rest : List Value} (hexec : p.tables.exec = Jvm.exec) (hb : c.code = cc0) {own : String} {index : Nat} {cI cO : ClassId} (hown : s.vm.findClass own = some m.cls) (hclink : (Cond.classLink own index "[[I").before args s = true) (hK : um_K s cI cO)
    (hdg : decode cc0 pc = .ok (.multianewarray index 2, 4)) (hcells : cells + 7 ≤ R.cells) (hslots : slots + 102 ≤ R.slots)
    (kk : ∀ H' : Heap, H'[H.size]? = some (arrV cO 6 (fun j => .ref (H.size + 1 + j))) → (∀ i, i < 6 → H'[H.size + 1 + i]? = some (arrV cI 16 (fun _ => .int 0))) → H'.size = H.size + 7 → (∀ q, q < H.size → H'[q]? = H[q]?) →
      W p l e R s m args below meth c H' locs (cells + 7) (slots + 102) Q (F0 m (pc + 4) ls (.ref H.size :: rest))) : W p l e R s m args below meth c H locs cells slots Q (F0 m pc ls (.int 16 :: .int 6 :: rest)) := by
  intro T hT X
  obtain ⟨vm₁, hW, X', st⟩ := um_step X hexec hown hclink hK (g := F0 m pc ls (.int 16 :: .int 6 :: rest)) rfl (by rw [hb]; exact hdg) (rest := rest) rfl hcells hslots
  have X2 := X'.dropFresh (fun x hx => by
    obtain ⟨j, -, rfl⟩ := List.mem_map.mp hx
    exact X.heapGrown)
  subst hT
  obtain ⟨f1, f2, -, -⟩ := um_Tf (T.setVm vm₁) cO cI 6
  obtain ⟨t, a1, b1⟩ := kk (um_T (T.setVm vm₁) cO cI 6).heap (by rw [← um_oA]; exact f2) (fun i hi => by rw [← um_rA]; exact um_Tr (T.setVm vm₁) cO cI 6 i hi) f1 (fun q hq => um_To (T.setVm vm₁) cO cI hq 6) _ rfl X2
  exact ⟨t, st t a1, b1⟩
end UMB
