/-! CONSTRUCTORS, 2 (by wip/whole/gen9a.py): what lies where is told exactly: new cells lie one behind another -/
abbrev ug_C : Type := (Nat × Nat × (Nat → Value)) ⊕ (Nat × List Value)
/-- a cell: a row (its kind, how many, what), or an object (its class, its fields) -/
def ug_at (D : va_G) (cA : Nat → ClassId) (q : Nat) (c : ug_C) (H : Heap) : Prop := match c with
  | .inl a => H[q]? = some (arrV (cA a.1) a.2.1 a.2.2)
  | .inr o => t_OB q (D.1 o.1) (ux_nf o.1) (D.2 o.1) H (vp_V o.2)
/-- from n on lie these cells -/
def ug_P (D : va_G) (cA : Nat → ClassId) (n : Nat) (L : List ug_C) (H : Heap) : Prop := ∀ (i : Nat) (c : ug_C), L[i]? = some c → ug_at D cA (n + i) c H
/-- behind L new cells: the object h0 has these fields, what was there stays -/
def ug_St (D : va_G) (cA : Nat → ClassId) (n h0 ci : Nat) (fs : List Value) (L : List ug_C) (H0 H : Heap) : Prop :=
  h0 < n ∧ H.size = n + L.length ∧ ug_P D cA n L H ∧ t_OB h0 (D.1 ci) (ux_nf ci) (D.2 ci) H (vp_V fs) ∧ ∀ q, q < n → q ≠ h0 → H[q]? = H0[q]?
def ug_K (D : va_G) (cA : Nat → ClassId) (U : State) : Prop := va_K D ux_cl [(cA 1, .int), (cA 2, .boolean), (cA 3, .long), (cA 4, .array .int)] U ∧ um_K U (cA 1) (cA 4) ∧ ∀ w ∈ lw_tbl, ux_isNest w = true → va_Nw w U
def ug_room (d mc ms : Nat) : Room := { frames := d, cells := mc, slots := ms, locals := 60 * d + 60 }
abbrev ug_a (n : Nat) : ug_C := .inl (1, n, fun _ => .int 0)
def ug_Met (l : Launch) (y : ux_Y) (d mc ms : Nat) (D : va_G) (cA : Nat → ClassId) (ci h0 n : Nat) (fs0 fs : List Value) (L : List ug_C) : Prop :=
  Met l y.1 (ux_ws y) (ug_room d mc ms) (va_Pc [.ref h0] (fun U => U.heap.size = n ∧ h0 < n ∧ t_OB h0 (D.1 ci) (ux_nf ci) (D.2 ci) U.heap (vp_V fs0) ∧ ug_K D cA U)) (fun _ st o t => o = .returned none ∧ ug_St D cA n h0 ci fs L st.heap t.heap) mc ms (fun q => q = h0)
section UGA
variable {p : Program} {l : Launch} {e : Env} {R : Room} {s : State} {m : MethodId} {args : Array Value} {below : List Frame} {meth : Method} {c : Code} {H H1 H0 : Heap} {locs : List Loc} {cells slots : Nat} {Q : State → Prop}
variable {D : va_G} {cA : Nat → ClassId} {n h0 ci q : Nat} {fs : List Value} {L L2 : List ug_C} {x : ug_C} {y : ux_Y} {pc : Nat} {ls : Array Slot} {rest : List Value} {U : State}
theorem ug_at.kept (h : ug_at D cA q x H) (hq : H1[q]? = H[q]?) : ug_at D cA q x H1 := by
  rcases x with a | o
  · exact hq.trans h
  · exact t_OB.kept h hq
theorem ug_at.lt (h : ug_at D cA q x H) : q < H.size := by
  rcases x with a | o
  · exact (Array.getElem?_eq_some_iff.mp h).1
  · obtain ⟨cell, h1, -⟩ := h
    exact (Array.getElem?_eq_some_iff.mp h1).1
theorem ug_P.kept (h : ug_P D cA n L H) (hk : ∀ q, n ≤ q → q < n + L.length → H1[q]? = H[q]?) : ug_P D cA n L H1 := fun i c hi => (h i c hi).kept (hk _ (by omega) (by have := (List.getElem?_eq_some_iff.mp hi).1; omega))
theorem ug_P.app (h : ug_P D cA n L H) (h2 : ug_P D cA (n + L.length) L2 H) : ug_P D cA n (L ++ L2) H := fun i c hi => by
  by_cases q : i < L.length
  · rw [List.getElem?_append_left q] at hi; exact h i c hi
  · rw [List.getElem?_append_right (by omega)] at hi
    have := h2 _ c hi
    rw [show n + L.length + (i - L.length) = n + i by omega] at this; exact this
theorem ug_P.cons (h : ug_at D cA n x H) (h2 : ug_P D cA (n + 1) L H) : ug_P D cA n (x :: L) H := fun i c hi => by
  cases i with
  | zero => cases hi; exact h
  | succ i =>
    have := h2 i c hi
    rw [show n + 1 + i = n + (i + 1) by omega] at this; exact this
theorem ug_P.nil : ug_P D cA n [] H := fun i c hi => by cases hi
theorem ug_K.moved {u : State} (hv : u.vm = U.vm) (h : ug_K D cA u) : ug_K D cA U := by
  have ha : u.vm.Alike U.vm := by rw [← hv]; exact Vm.Alike.refl u.vm
  exact ⟨h.1.moved ha, h.2.1.moved ha, fun w hw hn => va_Nw.same (ux_nest_tab hn) hv (h.2.2 w hw hn)⟩
theorem ug_K.warm (h : ug_K D cA s) (hW : s.WarmedH U.vm) : ug_K D cA U := ⟨h.1.moved hW.alike, h.2.1.moved hW.alike, fun w hw hn => ux_nest_warm hn hW (h.2.2 w hw hn)⟩
/-- the frame of a constructor -/
def ug_G (y : ux_Y) (p : Program) (s : State) (m : MethodId) (args : Array Value) (meth : Method) (c : Code) (D : va_G) (cA : Nat → ClassId) : Prop :=
  p.tables.exec = Jvm.exec ∧ c.code = y.2.1 ∧ c.maxLocals = y.2.2.1 ∧ s.vm.findClass y.1.cls = some m.cls ∧ (∀ w ∈ ux_ws y, w.before args s = true) ∧ ug_K D cA s ∧ meth.name = "<init>"
theorem ug_G.w (G : ug_G y p s m args meth c D cA) {pp : Nat} {w : Cond} (hp : lw_tbl[pp]? = some w) (hg : goodWord w = true) : w.before args s = true := G.2.2.2.2.1 _ (List.mem_cons_of_mem _ (ux_mem_good (ux_at hp) hg))
/-- a field is written -/
theorem ug_put (G : ug_G y p s m args meth c D cA) (hci : ci < 7) {k i pp : Nat} (hk : k < ux_nf ci) (hcl : (ux_fM ci k).1 = y.1.cls) (hp : lw_tbl[pp]? = some (.fieldLink y.1.cls i (ux_fM ci k).1 (ux_fM ci k).2.1 (ux_fM ci k).2.2.1)) {ty : FieldType} {v : Value} (hty : parseFieldDescriptor (ux_fM ci k).2.2.1 = some ty) (hnar : narrow ty v = v) (hfit : fits ty v = true) (hfl : k < fs.length)
    (hob : t_OB h0 (D.1 ci) (ux_nf ci) (D.2 ci) H (vp_V fs)) (hlo : ∀ l ∈ locs, l.base = h0) (hd : decode y.2.1 pc = .ok (.putfield i, 3))
    (kk : ∀ (H1 : Heap) (locs1 : List Loc), t_OB h0 (D.1 ci) (ux_nf ci) (D.2 ci) H1 (vp_V (fs.set k v)) → H1.size = H.size → (∀ q, q ≠ h0 → H1[q]? = H[q]?) → (∀ l ∈ locs1, l.base = h0) → W p l e R s m args below meth c H1 locs1 cells slots Q (F0 m (pc + 3) ls rest)) :
    W p l e R s m args below meth c H locs cells slots Q (F0 m pc ls (v :: .ref h0 :: rest)) := by
  obtain ⟨hx, hb, -, hown, hts, hK, hin⟩ := G
  obtain ⟨cell, q1, q2, q3, q4⟩ := hob
  have hc := ux_cl_at ci hci
  have hap := va_apart (own := y.1.cls) hts (ux_lays_ws y ci hci) (ux_ty ci) (ux_ty_ok ci hci) (ux_nm_ok ci hci) hK.1 hc
  obtain ⟨hS, hfc, kC, hkC, hkind⟩ := hK.1.1 ci _ hc
  obtain ⟨cf, kf, fi, f, hi, hsl⟩ := hS k hk
  have hlay := hts _ (ux_lays_ws y ci hci _ (u_in_lay hk))
  have hlink := hts _ (List.mem_cons_of_mem _ (ux_mem_good (ux_at hp) rfl))
  have hst := (u_facts hfc hkC (u_lays hts (ux_lays_ws y ci hci) hk) hi).1
  have fin : ∀ H' : Heap, H'[h0]? = some (cell.setSlot f.slot v) → t_OB h0 (D.1 ci) (ux_nf ci) (D.2 ci) H' (vp_V (fs.set k v)) := fun H' e1 => by
    rw [hsl] at e1
    exact t_OB.to (V := updV (vp_V fs) k v) ⟨_, e1, q2, q3, t_set q4 hap hk v⟩ (fun j _ => vp_updV_set hfl v j)
  have lo : ∀ (j : Nat), ∀ l ∈ locs ++ [(⟨h0, j⟩ : Loc)], l.base = h0 := fun j l hl => by
    rcases List.mem_append.mp hl with h | h
    · exact hlo l h
    · rw [List.mem_singleton.mp h]
  unfold u_lay at hlay
  by_cases hf : (ux_fM ci k).2.2.2 = true
  · rw [if_pos hf] at hlay
    have hcf : m.cls = cf := by
      obtain ⟨_, _, c', _, _, _, -, -, hf', -, -, -, hown2, -⟩ := Cond.laysFinal_spec hlay
      have e1 : c' = cf := by have := hi.symm.trans hf'; simp at this; exact this.1.symm
      rw [hcl] at hown2
      rw [← e1]; exact Option.some.inj (hown.symm.trans hown2)
    have h6 := u_fits hfc hkC hkind (Or.inr hlay) hi hty hnar hfit
    exact W.putFinK hx hb hown hlink hi hst hcf hin (by rw [q2]; exact h6) q1 q3 (by rw [hsl]; exact k2_hasslot (q4 k hk)) rfl rfl hd fun H' e1 e2 e3 => kk H' _ (fin H' e1) e2 e3 (lo _)
  · rw [if_neg hf] at hlay
    have h6 := u_store hfc hkC hkind hlay hi hty hnar hfit
    exact W.putK hx hb (f := f) ⟨hown, hlink, ⟨_, _, _, hi⟩, hst⟩ (by rw [q2]; exact h6) q1 q3 (by rw [hsl]; exact k2_hasslot (q4 k hk)) rfl rfl hd fun H' e1 e2 e3 => kk H' _ (fin H' e1) e2 e3 (lo _)
/-- a field is written, in the constructor -/
theorem ug_set (G : ug_G y p s m args meth c D cA) (hci : ci < 7) {k i pp : Nat} (hk : k < ux_nf ci) (hcl : (ux_fM ci k).1 = y.1.cls) (hp : lw_tbl[pp]? = some (.fieldLink y.1.cls i (ux_fM ci k).1 (ux_fM ci k).2.1 (ux_fM ci k).2.2.1)) {ty : FieldType} {v : Value} (hty : parseFieldDescriptor (ux_fM ci k).2.2.1 = some ty) (hnar : narrow ty v = v) (hfit : fits ty v = true) (hfl : k < fs.length)
    (hS : ug_St D cA n h0 ci fs L H0 H) (hlo : ∀ l ∈ locs, l.base = h0) (hd : decode y.2.1 pc = .ok (.putfield i, 3))
    (kk : ∀ (H1 : Heap) (locs1 : List Loc), ug_St D cA n h0 ci (fs.set k v) L H0 H1 → (∀ l ∈ locs1, l.base = h0) → W p l e R s m args below meth c H1 locs1 cells slots Q (F0 m (pc + 3) ls rest)) :
    W p l e R s m args below meth c H locs cells slots Q (F0 m pc ls (v :: .ref h0 :: rest)) := by
  obtain ⟨h1, h2, h3, h4, h5⟩ := hS
  exact ug_put G hci hk hcl hp hty hnar hfit hfl h4 hlo hd fun H' locs1 g1 g2 g3 g4 => kk H' locs1 ⟨h1, by rw [g2]; exact h2, h3.kept (fun q q1 _ => g3 q (by omega)), g1, fun q q1 q2 => (g3 q q2).trans (h5 q q1 q2)⟩ g4
/-- a new row into a field -/
theorem ug_arr (G : ug_G y p s m args meth c D cA) {qq : Nat} (hq : L.length = qq) (hci : ci < 7) {k i pp pa kd len : Nat} {atype : ArrayType} {ty : FieldType} {nl : Int32} (hat : newarray.typeOf atype = ty) (hpa : lw_tbl[pa]? = some (.arrayClass ty)) (hkd : ([(cA 1, FieldType.int), (cA 2, .boolean), (cA 3, .long), (cA 4, .array .int)] : List (ClassId × FieldType))[kd - 1]? = some (cA kd, ty)) (hdf : defaultValue ty = .int 0) (hra : ∀ (U : State) (k : ClassId), va_RA U k ty → U.vm.findClass ("[" ++ ty.toString) = some k)
    (hk : k < ux_nf ci) (hcl : (ux_fM ci k).1 = y.1.cls) (hp : lw_tbl[pp]? = some (.fieldLink y.1.cls i (ux_fM ci k).1 (ux_fM ci k).2.1 (ux_fM ci k).2.2.1)) {tf : FieldType} (hty : parseFieldDescriptor (ux_fM ci k).2.2.1 = some tf) (hnar : ∀ a : Nat, narrow tf (.ref a) = .ref a) (hfit : ∀ a : Nat, fits tf (.ref a) = true) (hfl : k < fs.length)
    (hn0 : ¬ nl < 0) (hlen : nl.toNatClampNeg = len) (hby : len * componentBytes ty ≤ 536870912) (hce : cells + 1 ≤ R.cells) (hsl : slots + len ≤ R.slots)
    (hS : ug_St D cA n h0 ci fs L H0 H) (hlo : ∀ l ∈ locs, l.base = h0) (hd1 : decode y.2.1 pc = .ok (.newarray atype, 2)) (hd2 : decode y.2.1 (pc + 2) = .ok (.putfield i, 3))
    (kk : ∀ (H1 : Heap) (locs1 : List Loc), ug_St D cA n h0 ci (fs.set k (.ref (n + qq))) (L ++ [.inl (kd, len, fun _ => .int 0)]) H0 H1 → (∀ l ∈ locs1, l.base = h0) → W p l e R s m args below meth c H1 locs1 (cells + 1) (slots + len) Q (F0 m (pc + 2 + 3) ls rest)) :
    W p l e R s m args below meth c H locs cells slots Q (F0 m pc ls (.int nl :: .ref h0 :: rest)) := by
  subst hq
  obtain ⟨h1, h2, h3, h4, h5⟩ := hS
  subst hat
  refine va_newaK G.1 G.2.1 (G.w hpa rfl) (g := F0 m pc ls (.int nl :: .ref h0 :: rest)) rfl hd1 (rest := .ref h0 :: rest) rfl hn0 hlen hby hce hsl h2 fun H' cB e1 z1 o1 _ hNm => ?_
  have hRA := hra s _ (G.2.2.2.2.2.1.1.2 (kd - 1) _ hkd).2
  have ec : cB = cA kd := Option.some.inj (hNm.symm.trans hRA)
  subst ec
  rw [hdf] at e1
  have hS' : ug_St D cA n h0 ci fs (L ++ [.inl (kd, len, fun _ => .int 0)]) H0 H' := by
    refine ⟨h1, by rw [z1, List.length_append]; simp only [List.length_cons, List.length_nil]; omega, (h3.kept (fun q q1 q2 => o1 q (by omega))).app (ug_P.cons e1 .nil), h4.kept (o1 h0 (by omega)), fun q q1 q2 => (o1 q (by omega)).trans (h5 q q1 q2)⟩
  exact ug_set G hci hk hcl hp hty (hnar _) (hfit _) hfl hS' hlo hd2 fun H2 locs2 g1 g2 => kk H2 locs2 g1 g2
theorem ug_raI (U : State) (k : ClassId) (h : va_RA U k .int) : U.vm.findClass ("[" ++ (FieldType.int).toString) = some k := h
theorem ug_raZ (U : State) (k : ClassId) (h : va_RA U k .boolean) : U.vm.findClass ("[" ++ (FieldType.boolean).toString) = some k := h
/-- new int[6][16] into a field -/
theorem ug_mul (G : ug_G y p s m args meth c D cA) {qq : Nat} (hq : L.length = qq) (hci : ci < 7) {k i pp pa i2 : Nat} (hpa : lw_tbl[pa]? = some (.classLink y.1.cls i2 "[[I"))
    (hk : k < ux_nf ci) (hcl : (ux_fM ci k).1 = y.1.cls) (hp : lw_tbl[pp]? = some (.fieldLink y.1.cls i (ux_fM ci k).1 (ux_fM ci k).2.1 (ux_fM ci k).2.2.1)) {tf : FieldType} (hty : parseFieldDescriptor (ux_fM ci k).2.2.1 = some tf) (hnar : ∀ a : Nat, narrow tf (.ref a) = .ref a) (hfit : ∀ a : Nat, fits tf (.ref a) = true) (hfl : k < fs.length)
    (hce : cells + 7 ≤ R.cells) (hsl : slots + 102 ≤ R.slots) (hS : ug_St D cA n h0 ci fs L H0 H) (hlo : ∀ l ∈ locs, l.base = h0) (hd1 : decode y.2.1 pc = .ok (.multianewarray i2 2, 4)) (hd2 : decode y.2.1 (pc + 4) = .ok (.putfield i, 3))
    (kk : ∀ (H1 : Heap) (locs1 : List Loc), ug_St D cA n h0 ci (fs.set k (.ref (n + qq))) (L ++ [.inl (4, 6, fun j => .ref (n + qq + 1 + j)), ug_a 16, ug_a 16, ug_a 16, ug_a 16, ug_a 16, ug_a 16]) H0 H1 → (∀ l ∈ locs1, l.base = h0) → W p l e R s m args below meth c H1 locs1 (cells + 7) (slots + 102) Q (F0 m (pc + 4 + 3) ls rest)) :
    W p l e R s m args below meth c H locs cells slots Q (F0 m pc ls (.int 16 :: .int 6 :: .ref h0 :: rest)) := by
  subst hq
  obtain ⟨h1, h2, h3, h4, h5⟩ := hS
  refine um_W G.1 G.2.1 G.2.2.2.1 (G.w hpa rfl) G.2.2.2.2.2.1.2.1 hd1 hce hsl fun H' e1 e2 z1 o1 => ?_
  rw [h2] at e1 e2 z1 o1 ⊢
  have hS' : ug_St D cA n h0 ci fs (L ++ [.inl (4, 6, fun j => .ref (n + L.length + 1 + j)), ug_a 16, ug_a 16, ug_a 16, ug_a 16, ug_a 16, ug_a 16]) H0 H' := by
    refine ⟨h1, by rw [z1, List.length_append]; simp only [List.length_cons, List.length_nil]; omega, (h3.kept (fun q q1 q2 => o1 q (by omega))).app (ug_P.cons e1 ?_), h4.kept (o1 h0 (by omega)), fun q q1 q2 => (o1 q (by omega)).trans (h5 q q1 q2)⟩
    exact ug_P.cons (e2 0 (by omega)) (ug_P.cons (e2 1 (by omega)) (ug_P.cons (e2 2 (by omega)) (ug_P.cons (e2 3 (by omega)) (ug_P.cons (e2 4 (by omega)) (ug_P.cons (e2 5 (by omega)) .nil)))))
  exact ug_set G hci hk hcl hp hty (hnar _) (hfit _) hfl hS' hlo hd2 fun H2 locs2 g1 g2 => kk H2 locs2 g1 g2
/-- behind the constructor of a new object -/
theorem ug_after {y2 : ux_Y} {pc2 a mc ms ci2 : Nat} {fs2 : List Value} {st0 : List Value} (hsz : s.heap.size ≤ a) (hr : va_Run p l e R s m args below meth c H locs cells slots mc ms (F0 m pc2 ls st0) rest (fun st o t => o = .returned none ∧ ug_St D cA (a + 1) a ci2 fs2 L2 st.heap t.heap) (fun q => q = a))
    (kk : ∀ H1 : Heap, ug_St D cA (a + 1) a ci2 fs2 L2 H H1 → W p l e R s m args below meth c H1 locs (cells + mc) (slots + ms) Q (F0 m (pc2 + 3) ls rest)) : W p l e R s m args below meth c H locs cells slots Q (F0 m pc2 ls st0) := by
  intro T hT X
  obtain ⟨v, st₀, t, T', L', g0, X', hL, e1, e2, ⟨hv, hSt⟩, st⟩ := hr T hT X
  cases hv
  rw [g0, ← e1] at hSt
  have X2 := X'.dropFresh (fun x hx => by rw [hL x hx]; exact hsz)
  obtain ⟨t2, a1, b1⟩ := kk T'.heap hSt T' rfl X2
  exact ⟨t2, st t2 a1, b1⟩
/-- a new object, its constructor, into a field -/
theorem ug_new {d mc ms : Nat} (G : ug_G y p s m args meth c D cA) (hn : s.heap.size = n) {qq : Nat} (hq : L.length = qq) (hci : ci < 7) {y2 : ux_Y} {k i1 i3 i4 pp p1 p2 p3 p4 p5 p6 ci2 : Nat} {fs0 fs2 : List Value} (hci2 : ci2 < 7) (hy2 : y2.1.cls = ux_rM ci2) (hyn : y2.1.name = "<init>") (hyd : (parseMethodDescriptor y2.1.desc).map (fun d => d.parameters.length) = some 0) (hyv : y2.2.2.2 = none) (hym : y2.2.2.1 = 1)
    (w1 : lw_tbl[p1]? = some (.classLink y.1.cls i1 (ux_rM ci2))) (w2 : lw_tbl[p2]? = some (.instantiable (ux_rM ci2) (ux_nf ci2))) (w3 : lw_tbl[p3]? = some (.initialized y2.1.cls)) (w4 : lw_tbl[p4]? = some (.methodLinkNest y.1.cls i3 y2.1 "ServiceManager")) (w5 : lw_tbl[p5]? = some (.instanceMethod y2.1)) (w6 : lw_tbl[p6]? = some (.code y2.1 y2.2.1 y2.2.2.1 y2.2.2.2)) (hnh : y2.1.cls ≠ "java/lang/invoke/MethodHandle" ∧ y2.1.cls ≠ "java/lang/invoke/VarHandle")
    (hfs0 : ∀ j, j < ux_nf ci2 → defaultValue (ux_ty ci2 j) = vp_V fs0 j) (hM : ug_Met l y2 d mc ms D cA ci2 (n + qq) (n + qq + 1) fs0 fs2 L2)
    (hk : k < ux_nf ci) (hcl : (ux_fM ci k).1 = y.1.cls) (hp : lw_tbl[pp]? = some (.fieldLink y.1.cls i4 (ux_fM ci k).1 (ux_fM ci k).2.1 (ux_fM ci k).2.2.1)) {tf : FieldType} (hty : parseFieldDescriptor (ux_fM ci k).2.2.1 = some tf) (hnar : ∀ a : Nat, narrow tf (.ref a) = .ref a) (hfit : ∀ a : Nat, fits tf (.ref a) = true) (hfl : k < fs.length)
    (hfr : d + 1 ≤ R.frames) (hlc : 60 * d + 120 ≤ R.locals) (hce : cells + 1 + mc ≤ R.cells) (hsl : slots + ux_nf ci2 + ms ≤ R.slots) (hS : ug_St D cA n h0 ci fs L H0 H) (hlo : ∀ l ∈ locs, l.base = h0) (hls : ls.size = y.2.2.1)
    (hd1 : decode y.2.1 pc = .ok (.new i1, 3)) (hd2 : decode y.2.1 (pc + 3) = .ok (.dup, 1)) (hd3 : decode y.2.1 (pc + 3 + 1) = .ok (.invokespecial i3, 3)) (hd4 : decode y.2.1 (pc + 3 + 1 + 3) = .ok (.putfield i4, 3))
    (kk : ∀ (H1 : Heap) (locs1 : List Loc), ug_St D cA n h0 ci (fs.set k (.ref (n + qq))) (L ++ (.inr (ci2, fs2) :: L2)) H0 H1 → (∀ l ∈ locs1, l.base = h0) → W p l e R s m args below meth c H1 locs1 (cells + 1 + mc) (slots + ux_nf ci2 + ms) Q (F0 m (pc + 3 + 1 + 3 + 3) ls [])) :
    W p l e R s m args below meth c H locs cells slots Q (F0 m pc ls [.ref h0]) := by
  subst hq
  obtain ⟨h1, h2, h3, h4, h5⟩ := hS
  obtain ⟨hx, hb, hml, hown, hts, hK, hin⟩ := id G
  have hKn := hK.1.1 ci2 _ (ux_cl_at ci2 hci2)
  refine W.newcK hx hb hown (G.w w1 rfl) (G.w w2 rfl) (by rw [← hy2]; exact G.w w3 rfl) (g := F0 m pc ls [.ref h0]) rfl hd1 (by omega) (by omega) hKn.2.1 h2 fun Ha kC hkC e1 z1 o1 => ?_
  have hborn : t_OB (n + L.length) (D.1 ci2) (ux_nf ci2) (D.2 ci2) Ha (vp_V fs0) := (u_born (ux_ty ci2) hts (ux_lays_ws y ci2 hci2) hKn hkC e1 (ux_ty_ok ci2 hci2)).to hfs0
  refine lv_dup hx hb hd2 rfl ?_
  refine ug_after (y2 := y2) (a := n + L.length) (rest := [.ref (n + L.length), .ref h0]) (by omega) (va_runIN (As := []) (rest := [.ref (n + L.length), .ref h0]) ⟨hx, hb, hml, hown, hts⟩ hM
    ⟨va_cnB (bytes := y2.2.1) (maxL := y2.2.2.1) (ret := none) 0 hts (ux_goodIn y y2 (ux_at w6)) (by unfold ux_ws; rw [hyv]) rfl rfl (hK.2.2 _ (ux_at w4) rfl) (G.w w3 rfl) ⟨hnh.1, hnh.2, hyd⟩ ⟨hfr, by show 8 + (y2.2.2.1 + 11) + (60 * d + 60) ≤ R.locals; rw [hym]; omega⟩, hyn, G.w w5 rfl⟩
    ⟨fun a U g mk q => ⟨q.1, q.2.1, q.2.2.1, q.2.2.2.1, ug_K.moved (u := U) (U := U.calling g mk a) rfl q.2.2.2.2⟩, fun U hU hW => ⟨rfl, by rw [hU, z1], by omega, by rw [hU]; exact hborn, hK.warm hW⟩⟩ rfl rfl hls rfl (lv_room (Nat.le_of_ble_eq_true rfl)) hd3 ⟨by show cells + 1 + mc ≤ R.cells; exact hce, by show slots + ux_nf ci2 + ms ≤ R.slots; exact hsl⟩) fun Hb hSb => ?_
  obtain ⟨-, g2, g3, g4, g5⟩ := hSb
  have hS' : ug_St D cA n h0 ci fs (L ++ (.inr (ci2, fs2) :: L2)) H0 Hb := by
    refine ⟨h1, by rw [g2, List.length_append, List.length_cons]; omega, (h3.kept (fun q q1 q2 => (g5 q (by omega) (by omega)).trans (o1 q (by omega)))).app (ug_P.cons g4 g3), h4.kept ((g5 h0 (by omega) (by omega)).trans (o1 h0 (by omega))), fun q q1 q2 => ((g5 q (by omega) (by omega)).trans (o1 q (by omega))).trans (h5 q q1 q2)⟩
  exact ug_set G hci hk hcl hp hty (hnar _) (hfit _) hfl hS' hlo hd4 fun H2 locs2 k1 k2 => kk H2 locs2 k1 k2
end UGA
/-- what lies behind a new ServiceManager$Setup: its fields, its cells from n on -/
def ug_fSetup (n : Nat) : List Value := [.int 0, .ref n, .ref (n + 1), .ref (n + 2), .ref (n + 3), .ref (n + 4), .ref (n + 5), .ref (n + 6), .ref (n + 13), .ref (n + 14), .ref (n + 15), .ref (n + 16)]
def ug_LSetup (n : Nat) : List ug_C := [.inl (1, 16, fun _ => .int 0)] ++ [.inl (1, 16, fun _ => .int 0)] ++ [.inl (1, 128, fun _ => .int 0)] ++ [.inl (1, 160, fun _ => .int 0)] ++ [.inl (1, 16, fun _ => .int 0)] ++ [.inl (1, 16, fun _ => .int 0)] ++ [.inl (4, 6, fun j => .ref (n + 6 + 1 + j))] ++ [ug_a 16] ++ [ug_a 16] ++ [ug_a 16] ++ [ug_a 16] ++ [ug_a 16] ++ [ug_a 16] ++ [.inl (1, 16, fun _ => .int 0)] ++ [.inl (1, 16, fun _ => .int 0)] ++ [.inl (1, 16, fun _ => .int 0)] ++ [.inl (1, 16, fun _ => .int 0)]
theorem ug_NSetup (n : Nat) : (ug_LSetup n).length = 17 := by unfold ug_LSetup; simp only [List.length_append, List.length_cons, List.length_nil]
theorem ug_dSetup : ∀ j, j < ux_nf 2 → defaultValue (ux_ty 2 j) = vp_V [.int 0, .null, .null, .null, .null, .null, .null, .null, .null, .null, .null, .null] j := by
  intro j hj
  have hj : j < 12 := hj
  have : j = 0 ∨ j = 1 ∨ j = 2 ∨ j = 3 ∨ j = 4 ∨ j = 5 ∨ j = 6 ∨ j = 7 ∨ j = 8 ∨ j = 9 ∨ j = 10 ∨ j = 11 := by omega
  rcases this with rfl | rfl | rfl | rfl | rfl | rfl | rfl | rfl | rfl | rfl | rfl | rfl <;> rfl
/-- what lies behind a new ServiceManager$Transaction: its fields, its cells from n on -/
def ug_fTrans (n : Nat) : List Value := [.int 0, .int 0, .int 0, .int 0, .int 0, .int 0, .int 0, .ref n, .ref (n + 1), .ref (n + 2)]
def ug_LTrans (n : Nat) : List ug_C := [.inl (1, 16, fun _ => .int 0)] ++ [.inl (1, 16, fun _ => .int 0)] ++ [.inl (1, 16, fun _ => .int 0)]
theorem ug_NTrans (n : Nat) : (ug_LTrans n).length = 3 := by unfold ug_LTrans; simp only [List.length_append, List.length_cons, List.length_nil, ug_NSetup]
theorem ug_dTrans : ∀ j, j < ux_nf 4 → defaultValue (ux_ty 4 j) = vp_V [.int 0, .int 0, .int 0, .int 0, .int 0, .int 0, .int 0, .null, .null, .null] j := by
  intro j hj
  have hj : j < 10 := hj
  have : j = 0 ∨ j = 1 ∨ j = 2 ∨ j = 3 ∨ j = 4 ∨ j = 5 ∨ j = 6 ∨ j = 7 ∨ j = 8 ∨ j = 9 := by omega
  rcases this with rfl | rfl | rfl | rfl | rfl | rfl | rfl | rfl | rfl | rfl <;> rfl
/-- what lies behind a new ServiceManager$Jobs: its fields, its cells from n on -/
def ug_fJobs (n : Nat) : List Value := [.int 0, .int 0, .int 0, .int 0, .ref n]
def ug_LJobs (n : Nat) : List ug_C := [.inl (1, 16, fun _ => .int 0)]
theorem ug_NJobs (n : Nat) : (ug_LJobs n).length = 1 := by unfold ug_LJobs; simp only [List.length_append, List.length_cons, List.length_nil, ug_NSetup, ug_NTrans]
theorem ug_dJobs : ∀ j, j < ux_nf 5 → defaultValue (ux_ty 5 j) = vp_V [.int 0, .int 0, .int 0, .int 0, .null] j := by
  intro j hj
  have hj : j < 5 := hj
  have : j = 0 ∨ j = 1 ∨ j = 2 ∨ j = 3 ∨ j = 4 := by omega
  rcases this with rfl | rfl | rfl | rfl | rfl <;> rfl
/-- what lies behind a new ServiceManager$Reader: its fields, its cells from n on -/
def ug_fReader (n : Nat) : List Value := [.ref n, .ref (n + 18), .int 0, .int 0, .int 0, .int 0, .int 0, .int 0]
def ug_LReader (n : Nat) : List ug_C := (.inr (2, ug_fSetup (n + 1)) :: ug_LSetup (n + 1)) ++ [.inl (1, 0, fun _ => .int 0)]
theorem ug_NReader (n : Nat) : (ug_LReader n).length = 19 := by unfold ug_LReader; simp only [List.length_append, List.length_cons, List.length_nil, ug_NSetup, ug_NTrans, ug_NJobs]
theorem ug_dReader : ∀ j, j < ux_nf 1 → defaultValue (ux_ty 1 j) = vp_V [.null, .null, .int 0, .int 0, .int 0, .int 0, .int 0, .int 0] j := by
  intro j hj
  have hj : j < 8 := hj
  have : j = 0 ∨ j = 1 ∨ j = 2 ∨ j = 3 ∨ j = 4 ∨ j = 5 ∨ j = 6 ∨ j = 7 := by omega
  rcases this with rfl | rfl | rfl | rfl | rfl | rfl | rfl | rfl <;> rfl
/-- what lies behind a new ServiceManager$World: its fields, its cells from n on -/
def ug_fWorld (n : Nat) : List Value := [.ref n, .ref (n + 18), .ref (n + 22), .int 0, .int 0, .ref (n + 24), .ref (n + 25), .ref (n + 26), .ref (n + 27), .ref (n + 28), .ref (n + 29), .ref (n + 30), .ref (n + 31), .ref (n + 32), .ref (n + 33), .ref (n + 34), .ref (n + 35), .ref (n + 36), .int 0]
def ug_LWorld (n : Nat) : List ug_C := (.inr (2, ug_fSetup (n + 1)) :: ug_LSetup (n + 1)) ++ (.inr (4, ug_fTrans (n + 18 + 1)) :: ug_LTrans (n + 18 + 1)) ++ (.inr (5, ug_fJobs (n + 22 + 1)) :: ug_LJobs (n + 22 + 1)) ++ [.inl (1, 16, fun _ => .int 0)] ++ [.inl (1, 16, fun _ => .int 0)] ++ [.inl (1, 16, fun _ => .int 0)] ++ [.inl (1, 16, fun _ => .int 0)] ++ [.inl (1, 16, fun _ => .int 0)] ++ [.inl (1, 16, fun _ => .int 0)] ++ [.inl (1, 144, fun _ => .int 0)] ++ [.inl (1, 16, fun _ => .int 0)] ++ [.inl (1, 16, fun _ => .int 0)] ++ [.inl (1, 16, fun _ => .int 0)] ++ [.inl (1, 16, fun _ => .int 0)] ++ [.inl (1, 16, fun _ => .int 0)] ++ [.inl (1, 180, fun _ => .int 0)]
theorem ug_NWorld (n : Nat) : (ug_LWorld n).length = 37 := by unfold ug_LWorld; simp only [List.length_append, List.length_cons, List.length_nil, ug_NSetup, ug_NTrans, ug_NJobs, ug_NReader]
theorem ug_dWorld : ∀ j, j < ux_nf 3 → defaultValue (ux_ty 3 j) = vp_V [.null, .null, .null, .int 0, .int 0, .null, .null, .null, .null, .null, .null, .null, .null, .null, .null, .null, .null, .null, .int 0] j := by
  intro j hj
  have hj : j < 19 := hj
  have : j = 0 ∨ j = 1 ∨ j = 2 ∨ j = 3 ∨ j = 4 ∨ j = 5 ∨ j = 6 ∨ j = 7 ∨ j = 8 ∨ j = 9 ∨ j = 10 ∨ j = 11 ∨ j = 12 ∨ j = 13 ∨ j = 14 ∨ j = 15 ∨ j = 16 ∨ j = 17 ∨ j = 18 := by omega
  rcases this with rfl | rfl | rfl | rfl | rfl | rfl | rfl | rfl | rfl | rfl | rfl | rfl | rfl | rfl | rfl | rfl | rfl | rfl | rfl <;> rfl
/-- what lies behind a new ServiceManager: its fields, its cells from n on -/
def ug_fSM (n : Nat) : List Value := [.ref n, .int 0, .int 0, .ref (n + 1), .ref (n + 21), .ref (n + 59), .ref (n + 97), .ref (n + 135), .int 0, .int 0]
def ug_LSM (n : Nat) : List ug_C := [.inl (1, 800, fun _ => .int 0)] ++ (.inr (1, ug_fReader (n + 1 + 1)) :: ug_LReader (n + 1 + 1)) ++ (.inr (3, ug_fWorld (n + 21 + 1)) :: ug_LWorld (n + 21 + 1)) ++ (.inr (3, ug_fWorld (n + 59 + 1)) :: ug_LWorld (n + 59 + 1)) ++ (.inr (3, ug_fWorld (n + 97 + 1)) :: ug_LWorld (n + 97 + 1)) ++ (.inr (3, ug_fWorld (n + 135 + 1)) :: ug_LWorld (n + 135 + 1))
theorem ug_NSM (n : Nat) : (ug_LSM n).length = 173 := by unfold ug_LSM; simp only [List.length_append, List.length_cons, List.length_nil, ug_NSetup, ug_NTrans, ug_NJobs, ug_NReader, ug_NWorld]
theorem ug_dSM : ∀ j, j < ux_nf 0 → defaultValue (ux_ty 0 j) = vp_V [.null, .int 0, .int 0, .null, .null, .null, .null, .null, .int 0, .int 0] j := by
  intro j hj
  have hj : j < 10 := hj
  have : j = 0 ∨ j = 1 ∨ j = 2 ∨ j = 3 ∨ j = 4 ∨ j = 5 ∨ j = 6 ∨ j = 7 ∨ j = 8 ∨ j = 9 := by omega
  rcases this with rfl | rfl | rfl | rfl | rfl | rfl | rfl | rfl | rfl | rfl <;> rfl
/-- what lies behind a new ServiceManagerModel: its fields, its cells from n on -/
def ug_fModel (n : Nat) : List Value := [.ref n, .ref (n + 1), .ref (n + 2), .ref (n + 3), .ref (n + 4), .ref (n + 5), .int 0, .ref (n + 6), .int 0, .int 0, .int 0, .int 0, .int 0, .int 0, .int 0, .ref (n + 7), .ref (n + 8), .ref (n + 9), .int 0, .int 0, .ref (n + 10), .ref (n + 11)]
def ug_LModel (n : Nat) : List ug_C := [.inl (1, 1084, fun _ => .int 0)] ++ [.inl (1, 1084, fun _ => .int 0)] ++ [.inl (1, 1084, fun _ => .int 0)] ++ [.inl (1, 1084, fun _ => .int 0)] ++ [.inl (1, 1084, fun _ => .int 0)] ++ [.inl (2, 2, fun _ => .int 0)] ++ [.inl (1, 800, fun _ => .int 0)] ++ [.inl (1, 4, fun _ => .int 0)] ++ [.inl (1, 4, fun _ => .int 0)] ++ [.inl (1, 4, fun _ => .int 0)] ++ [.inl (1, 16, fun _ => .int 0)] ++ [.inl (1, 16, fun _ => .int 0)]
theorem ug_NModel (n : Nat) : (ug_LModel n).length = 12 := by unfold ug_LModel; simp only [List.length_append, List.length_cons, List.length_nil, ug_NSetup, ug_NTrans, ug_NJobs, ug_NReader, ug_NWorld, ug_NSM]
theorem ug_dModel : ∀ j, j < ux_nf 6 → defaultValue (ux_ty 6 j) = vp_V [.null, .null, .null, .null, .null, .null, .int 0, .null, .int 0, .int 0, .int 0, .int 0, .int 0, .int 0, .int 0, .null, .null, .null, .int 0, .int 0, .null, .null] j := by
  intro j hj
  have hj : j < 22 := hj
  have : j = 0 ∨ j = 1 ∨ j = 2 ∨ j = 3 ∨ j = 4 ∨ j = 5 ∨ j = 6 ∨ j = 7 ∨ j = 8 ∨ j = 9 ∨ j = 10 ∨ j = 11 ∨ j = 12 ∨ j = 13 ∨ j = 14 ∨ j = 15 ∨ j = 16 ∨ j = 17 ∨ j = 18 ∨ j = 19 ∨ j = 20 ∨ j = 21 := by omega
  rcases this with rfl | rfl | rfl | rfl | rfl | rfl | rfl | rfl | rfl | rfl | rfl | rfl | rfl | rfl | rfl | rfl | rfl | rfl | rfl | rfl | rfl | rfl <;> rfl
theorem gw_220 : lw_tbl[220]? = some (.fieldLink "ServiceManager$Setup" 9 (ux_fM 2 1).1 (ux_fM 2 1).2.1 (ux_fM 2 1).2.2.1) := by decide +kernel
theorem gw_225 : lw_tbl[225]? = some (.fieldLink "ServiceManager$Setup" 15 (ux_fM 2 2).1 (ux_fM 2 2).2.1 (ux_fM 2 2).2.2.1) := by decide +kernel
theorem gw_227 : lw_tbl[227]? = some (.fieldLink "ServiceManager$Setup" 18 (ux_fM 2 3).1 (ux_fM 2 3).2.1 (ux_fM 2 3).2.2.1) := by decide +kernel
theorem gw_229 : lw_tbl[229]? = some (.fieldLink "ServiceManager$Setup" 21 (ux_fM 2 4).1 (ux_fM 2 4).2.1 (ux_fM 2 4).2.2.1) := by decide +kernel
theorem gw_234 : lw_tbl[234]? = some (.fieldLink "ServiceManager$Setup" 24 (ux_fM 2 5).1 (ux_fM 2 5).2.1 (ux_fM 2 5).2.2.1) := by decide +kernel
theorem gw_238 : lw_tbl[238]? = some (.fieldLink "ServiceManager$Setup" 27 (ux_fM 2 6).1 (ux_fM 2 6).2.1 (ux_fM 2 6).2.2.1) := by decide +kernel
theorem gw_241 : lw_tbl[241]? = some (.fieldLink "ServiceManager$Setup" 32 (ux_fM 2 7).1 (ux_fM 2 7).2.1 (ux_fM 2 7).2.2.1) := by decide +kernel
theorem gw_246 : lw_tbl[246]? = some (.fieldLink "ServiceManager$Setup" 35 (ux_fM 2 8).1 (ux_fM 2 8).2.1 (ux_fM 2 8).2.2.1) := by decide +kernel
theorem gw_250 : lw_tbl[250]? = some (.fieldLink "ServiceManager$Setup" 38 (ux_fM 2 9).1 (ux_fM 2 9).2.1 (ux_fM 2 9).2.2.1) := by decide +kernel
theorem gw_252 : lw_tbl[252]? = some (.fieldLink "ServiceManager$Setup" 41 (ux_fM 2 10).1 (ux_fM 2 10).2.1 (ux_fM 2 10).2.2.1) := by decide +kernel
theorem gw_255 : lw_tbl[255]? = some (.fieldLink "ServiceManager$Setup" 44 (ux_fM 2 11).1 (ux_fM 2 11).2.1 (ux_fM 2 11).2.2.1) := by decide +kernel
theorem gw_282 : lw_tbl[282]? = some (.fieldLink "ServiceManager$Reader" 12 (ux_fM 1 0).1 (ux_fM 1 0).2.1 (ux_fM 1 0).2.2.1) := by decide +kernel
theorem gw_284 : lw_tbl[284]? = some (.fieldLink "ServiceManager$Reader" 18 (ux_fM 1 1).1 (ux_fM 1 1).2.1 (ux_fM 1 1).2.2.1) := by decide +kernel
theorem gw_333 : lw_tbl[333]? = some (.fieldLink "ServiceManager$Transaction" 9 (ux_fM 4 7).1 (ux_fM 4 7).2.1 (ux_fM 4 7).2.2.1) := by decide +kernel
theorem gw_334 : lw_tbl[334]? = some (.fieldLink "ServiceManager$Transaction" 15 (ux_fM 4 8).1 (ux_fM 4 8).2.1 (ux_fM 4 8).2.2.1) := by decide +kernel
theorem gw_335 : lw_tbl[335]? = some (.fieldLink "ServiceManager$Transaction" 18 (ux_fM 4 9).1 (ux_fM 4 9).2.1 (ux_fM 4 9).2.2.1) := by decide +kernel
theorem gw_375 : lw_tbl[375]? = some (.fieldLink "ServiceManager$Jobs" 9 (ux_fM 5 4).1 (ux_fM 5 4).2.1 (ux_fM 5 4).2.2.1) := by decide +kernel
theorem gw_388 : lw_tbl[388]? = some (.fieldLink "ServiceManager$World" 12 (ux_fM 3 0).1 (ux_fM 3 0).2.1 (ux_fM 3 0).2.2.1) := by decide +kernel
theorem gw_391 : lw_tbl[391]? = some (.fieldLink "ServiceManager$World" 21 (ux_fM 3 1).1 (ux_fM 3 1).2.1 (ux_fM 3 1).2.2.1) := by decide +kernel
theorem gw_393 : lw_tbl[393]? = some (.fieldLink "ServiceManager$World" 28 (ux_fM 3 2).1 (ux_fM 3 2).2.1 (ux_fM 3 2).2.2.1) := by decide +kernel
theorem gw_401 : lw_tbl[401]? = some (.fieldLink "ServiceManager$World" 32 (ux_fM 3 5).1 (ux_fM 3 5).2.1 (ux_fM 3 5).2.2.1) := by decide +kernel
theorem gw_403 : lw_tbl[403]? = some (.fieldLink "ServiceManager$World" 36 (ux_fM 3 6).1 (ux_fM 3 6).2.1 (ux_fM 3 6).2.2.1) := by decide +kernel
theorem gw_405 : lw_tbl[405]? = some (.fieldLink "ServiceManager$World" 39 (ux_fM 3 7).1 (ux_fM 3 7).2.1 (ux_fM 3 7).2.2.1) := by decide +kernel
theorem gw_407 : lw_tbl[407]? = some (.fieldLink "ServiceManager$World" 42 (ux_fM 3 8).1 (ux_fM 3 8).2.1 (ux_fM 3 8).2.2.1) := by decide +kernel
theorem gw_409 : lw_tbl[409]? = some (.fieldLink "ServiceManager$World" 45 (ux_fM 3 9).1 (ux_fM 3 9).2.1 (ux_fM 3 9).2.2.1) := by decide +kernel
theorem gw_410 : lw_tbl[410]? = some (.fieldLink "ServiceManager$World" 48 (ux_fM 3 10).1 (ux_fM 3 10).2.1 (ux_fM 3 10).2.2.1) := by decide +kernel
theorem gw_411 : lw_tbl[411]? = some (.fieldLink "ServiceManager$World" 51 (ux_fM 3 11).1 (ux_fM 3 11).2.1 (ux_fM 3 11).2.2.1) := by decide +kernel
theorem gw_412 : lw_tbl[412]? = some (.fieldLink "ServiceManager$World" 54 (ux_fM 3 12).1 (ux_fM 3 12).2.1 (ux_fM 3 12).2.2.1) := by decide +kernel
theorem gw_414 : lw_tbl[414]? = some (.fieldLink "ServiceManager$World" 57 (ux_fM 3 13).1 (ux_fM 3 13).2.1 (ux_fM 3 13).2.2.1) := by decide +kernel
theorem gw_416 : lw_tbl[416]? = some (.fieldLink "ServiceManager$World" 60 (ux_fM 3 14).1 (ux_fM 3 14).2.1 (ux_fM 3 14).2.2.1) := by decide +kernel
theorem gw_418 : lw_tbl[418]? = some (.fieldLink "ServiceManager$World" 63 (ux_fM 3 15).1 (ux_fM 3 15).2.1 (ux_fM 3 15).2.2.1) := by decide +kernel
theorem gw_420 : lw_tbl[420]? = some (.fieldLink "ServiceManager$World" 66 (ux_fM 3 16).1 (ux_fM 3 16).2.1 (ux_fM 3 16).2.2.1) := by decide +kernel
theorem gw_422 : lw_tbl[422]? = some (.fieldLink "ServiceManager$World" 69 (ux_fM 3 17).1 (ux_fM 3 17).2.1 (ux_fM 3 17).2.2.1) := by decide +kernel
theorem gw_463 : lw_tbl[463]? = some (.fieldLink "ServiceManager" 9 (ux_fM 0 0).1 (ux_fM 0 0).2.1 (ux_fM 0 0).2.2.1) := by decide +kernel
theorem gw_464 : lw_tbl[464]? = some (.fieldLink "ServiceManager" 36 (ux_fM 0 1).1 (ux_fM 0 1).2.1 (ux_fM 0 1).2.2.1) := by decide +kernel
theorem gw_465 : lw_tbl[465]? = some (.fieldLink "ServiceManager" 40 (ux_fM 0 2).1 (ux_fM 0 2).2.1 (ux_fM 0 2).2.2.1) := by decide +kernel
theorem gw_466 : lw_tbl[466]? = some (.fieldLink "ServiceManager" 16 (ux_fM 0 3).1 (ux_fM 0 3).2.1 (ux_fM 0 3).2.2.1) := by decide +kernel
theorem gw_467 : lw_tbl[467]? = some (.fieldLink "ServiceManager" 23 (ux_fM 0 4).1 (ux_fM 0 4).2.1 (ux_fM 0 4).2.2.1) := by decide +kernel
theorem gw_468 : lw_tbl[468]? = some (.fieldLink "ServiceManager" 27 (ux_fM 0 5).1 (ux_fM 0 5).2.1 (ux_fM 0 5).2.2.1) := by decide +kernel
theorem gw_469 : lw_tbl[469]? = some (.fieldLink "ServiceManager" 30 (ux_fM 0 6).1 (ux_fM 0 6).2.1 (ux_fM 0 6).2.2.1) := by decide +kernel
theorem gw_470 : lw_tbl[470]? = some (.fieldLink "ServiceManager" 33 (ux_fM 0 7).1 (ux_fM 0 7).2.1 (ux_fM 0 7).2.2.1) := by decide +kernel
theorem gw_1377 : lw_tbl[1377]? = some (.fieldLink "ServiceManagerModel" 9 (ux_fM 6 0).1 (ux_fM 6 0).2.1 (ux_fM 6 0).2.2.1) := by decide +kernel
theorem gw_1378 : lw_tbl[1378]? = some (.fieldLink "ServiceManagerModel" 13 (ux_fM 6 1).1 (ux_fM 6 1).2.1 (ux_fM 6 1).2.2.1) := by decide +kernel
theorem gw_1379 : lw_tbl[1379]? = some (.fieldLink "ServiceManagerModel" 16 (ux_fM 6 2).1 (ux_fM 6 2).2.1 (ux_fM 6 2).2.2.1) := by decide +kernel
theorem gw_1380 : lw_tbl[1380]? = some (.fieldLink "ServiceManagerModel" 19 (ux_fM 6 3).1 (ux_fM 6 3).2.1 (ux_fM 6 3).2.2.1) := by decide +kernel
theorem gw_1381 : lw_tbl[1381]? = some (.fieldLink "ServiceManagerModel" 22 (ux_fM 6 4).1 (ux_fM 6 4).2.1 (ux_fM 6 4).2.2.1) := by decide +kernel
theorem gw_1382 : lw_tbl[1382]? = some (.fieldLink "ServiceManagerModel" 25 (ux_fM 6 5).1 (ux_fM 6 5).2.1 (ux_fM 6 5).2.2.1) := by decide +kernel
theorem gw_1384 : lw_tbl[1384]? = some (.fieldLink "ServiceManagerModel" 29 (ux_fM 6 7).1 (ux_fM 6 7).2.1 (ux_fM 6 7).2.2.1) := by decide +kernel
theorem gw_1392 : lw_tbl[1392]? = some (.fieldLink "ServiceManagerModel" 32 (ux_fM 6 15).1 (ux_fM 6 15).2.1 (ux_fM 6 15).2.2.1) := by decide +kernel
theorem gw_1393 : lw_tbl[1393]? = some (.fieldLink "ServiceManagerModel" 35 (ux_fM 6 16).1 (ux_fM 6 16).2.1 (ux_fM 6 16).2.2.1) := by decide +kernel
theorem gw_1394 : lw_tbl[1394]? = some (.fieldLink "ServiceManagerModel" 38 (ux_fM 6 17).1 (ux_fM 6 17).2.1 (ux_fM 6 17).2.2.1) := by decide +kernel
theorem gw_1397 : lw_tbl[1397]? = some (.fieldLink "ServiceManagerModel" 41 (ux_fM 6 20).1 (ux_fM 6 20).2.1 (ux_fM 6 20).2.2.1) := by decide +kernel
theorem gw_1398 : lw_tbl[1398]? = some (.fieldLink "ServiceManagerModel" 44 (ux_fM 6 21).1 (ux_fM 6 21).2.1 (ux_fM 6 21).2.2.1) := by decide +kernel
theorem dc_2_0 : decode y_2.2.1 0 = .ok (.aload_n 0, 1) := by decide +kernel
theorem dc_2_1 : decode y_2.2.1 1 = .ok (.invokespecial 3, 3) := by decide +kernel
theorem dc_2_4 : decode y_2.2.1 4 = .ok (.aload_n 0, 1) := by decide +kernel
theorem dc_2_5 : decode y_2.2.1 5 = .ok (.bipush 16, 2) := by decide +kernel
theorem dc_2_7 : decode y_2.2.1 7 = .ok (.newarray .int, 2) := by decide +kernel
theorem dc_2_9 : decode y_2.2.1 9 = .ok (.putfield 9, 3) := by decide +kernel
theorem dc_2_12 : decode y_2.2.1 12 = .ok (.aload_n 0, 1) := by decide +kernel
theorem dc_2_13 : decode y_2.2.1 13 = .ok (.bipush 16, 2) := by decide +kernel
theorem dc_2_15 : decode y_2.2.1 15 = .ok (.newarray .int, 2) := by decide +kernel
theorem dc_2_17 : decode y_2.2.1 17 = .ok (.putfield 15, 3) := by decide +kernel
theorem dc_2_20 : decode y_2.2.1 20 = .ok (.aload_n 0, 1) := by decide +kernel
theorem dc_2_21 : decode y_2.2.1 21 = .ok (.sipush 128, 3) := by decide +kernel
theorem dc_2_24 : decode y_2.2.1 24 = .ok (.newarray .int, 2) := by decide +kernel
theorem dc_2_26 : decode y_2.2.1 26 = .ok (.putfield 18, 3) := by decide +kernel
theorem dc_2_29 : decode y_2.2.1 29 = .ok (.aload_n 0, 1) := by decide +kernel
theorem dc_2_30 : decode y_2.2.1 30 = .ok (.sipush 160, 3) := by decide +kernel
theorem dc_2_33 : decode y_2.2.1 33 = .ok (.newarray .int, 2) := by decide +kernel
theorem dc_2_35 : decode y_2.2.1 35 = .ok (.putfield 21, 3) := by decide +kernel
theorem dc_2_38 : decode y_2.2.1 38 = .ok (.aload_n 0, 1) := by decide +kernel
theorem dc_2_39 : decode y_2.2.1 39 = .ok (.bipush 16, 2) := by decide +kernel
theorem dc_2_41 : decode y_2.2.1 41 = .ok (.newarray .int, 2) := by decide +kernel
theorem dc_2_43 : decode y_2.2.1 43 = .ok (.putfield 24, 3) := by decide +kernel
theorem dc_2_46 : decode y_2.2.1 46 = .ok (.aload_n 0, 1) := by decide +kernel
theorem dc_2_47 : decode y_2.2.1 47 = .ok (.bipush 16, 2) := by decide +kernel
theorem dc_2_49 : decode y_2.2.1 49 = .ok (.newarray .int, 2) := by decide +kernel
theorem dc_2_51 : decode y_2.2.1 51 = .ok (.putfield 27, 3) := by decide +kernel
theorem dc_2_54 : decode y_2.2.1 54 = .ok (.aload_n 0, 1) := by decide +kernel
theorem dc_2_55 : decode y_2.2.1 55 = .ok (.bipush 6, 2) := by decide +kernel
theorem dc_2_57 : decode y_2.2.1 57 = .ok (.bipush 16, 2) := by decide +kernel
theorem dc_2_59 : decode y_2.2.1 59 = .ok (.multianewarray 30 2, 4) := by decide +kernel
theorem dc_2_63 : decode y_2.2.1 63 = .ok (.putfield 32, 3) := by decide +kernel
theorem dc_2_66 : decode y_2.2.1 66 = .ok (.aload_n 0, 1) := by decide +kernel
theorem dc_2_67 : decode y_2.2.1 67 = .ok (.bipush 16, 2) := by decide +kernel
theorem dc_2_69 : decode y_2.2.1 69 = .ok (.newarray .int, 2) := by decide +kernel
theorem dc_2_71 : decode y_2.2.1 71 = .ok (.putfield 35, 3) := by decide +kernel
theorem dc_2_74 : decode y_2.2.1 74 = .ok (.aload_n 0, 1) := by decide +kernel
theorem dc_2_75 : decode y_2.2.1 75 = .ok (.bipush 16, 2) := by decide +kernel
theorem dc_2_77 : decode y_2.2.1 77 = .ok (.newarray .int, 2) := by decide +kernel
theorem dc_2_79 : decode y_2.2.1 79 = .ok (.putfield 38, 3) := by decide +kernel
theorem dc_2_82 : decode y_2.2.1 82 = .ok (.aload_n 0, 1) := by decide +kernel
theorem dc_2_83 : decode y_2.2.1 83 = .ok (.bipush 16, 2) := by decide +kernel
theorem dc_2_85 : decode y_2.2.1 85 = .ok (.newarray .int, 2) := by decide +kernel
theorem dc_2_87 : decode y_2.2.1 87 = .ok (.putfield 41, 3) := by decide +kernel
theorem dc_2_90 : decode y_2.2.1 90 = .ok (.aload_n 0, 1) := by decide +kernel
theorem dc_2_91 : decode y_2.2.1 91 = .ok (.bipush 16, 2) := by decide +kernel
theorem dc_2_93 : decode y_2.2.1 93 = .ok (.newarray .int, 2) := by decide +kernel
theorem dc_2_95 : decode y_2.2.1 95 = .ok (.putfield 44, 3) := by decide +kernel
theorem dc_2_98 : decode y_2.2.1 98 = .ok (.return_, 1) := by decide +kernel
theorem dc_4_0 : decode y_4.2.1 0 = .ok (.aload_n 0, 1) := by decide +kernel
theorem dc_4_1 : decode y_4.2.1 1 = .ok (.invokespecial 3, 3) := by decide +kernel
theorem dc_4_4 : decode y_4.2.1 4 = .ok (.aload_n 0, 1) := by decide +kernel
theorem dc_4_5 : decode y_4.2.1 5 = .ok (.bipush 16, 2) := by decide +kernel
theorem dc_4_7 : decode y_4.2.1 7 = .ok (.newarray .int, 2) := by decide +kernel
theorem dc_4_9 : decode y_4.2.1 9 = .ok (.putfield 9, 3) := by decide +kernel
theorem dc_4_12 : decode y_4.2.1 12 = .ok (.aload_n 0, 1) := by decide +kernel
theorem dc_4_13 : decode y_4.2.1 13 = .ok (.bipush 16, 2) := by decide +kernel
theorem dc_4_15 : decode y_4.2.1 15 = .ok (.newarray .int, 2) := by decide +kernel
theorem dc_4_17 : decode y_4.2.1 17 = .ok (.putfield 15, 3) := by decide +kernel
theorem dc_4_20 : decode y_4.2.1 20 = .ok (.aload_n 0, 1) := by decide +kernel
theorem dc_4_21 : decode y_4.2.1 21 = .ok (.bipush 16, 2) := by decide +kernel
theorem dc_4_23 : decode y_4.2.1 23 = .ok (.newarray .int, 2) := by decide +kernel
theorem dc_4_25 : decode y_4.2.1 25 = .ok (.putfield 18, 3) := by decide +kernel
theorem dc_4_28 : decode y_4.2.1 28 = .ok (.return_, 1) := by decide +kernel
theorem dc_5_0 : decode y_5.2.1 0 = .ok (.aload_n 0, 1) := by decide +kernel
theorem dc_5_1 : decode y_5.2.1 1 = .ok (.invokespecial 3, 3) := by decide +kernel
theorem dc_5_4 : decode y_5.2.1 4 = .ok (.aload_n 0, 1) := by decide +kernel
theorem dc_5_5 : decode y_5.2.1 5 = .ok (.bipush 16, 2) := by decide +kernel
theorem dc_5_7 : decode y_5.2.1 7 = .ok (.newarray .int, 2) := by decide +kernel
theorem dc_5_9 : decode y_5.2.1 9 = .ok (.putfield 9, 3) := by decide +kernel
theorem dc_5_12 : decode y_5.2.1 12 = .ok (.return_, 1) := by decide +kernel
theorem dc_1_0 : decode y_1.2.1 0 = .ok (.aload_n 0, 1) := by decide +kernel
theorem dc_1_1 : decode y_1.2.1 1 = .ok (.invokespecial 3, 3) := by decide +kernel
theorem dc_1_4 : decode y_1.2.1 4 = .ok (.aload_n 0, 1) := by decide +kernel
theorem dc_1_5 : decode y_1.2.1 5 = .ok (.new 9, 3) := by decide +kernel
theorem dc_1_8 : decode y_1.2.1 8 = .ok (.dup, 1) := by decide +kernel
theorem dc_1_9 : decode y_1.2.1 9 = .ok (.invokespecial 11, 3) := by decide +kernel
theorem dc_1_12 : decode y_1.2.1 12 = .ok (.putfield 12, 3) := by decide +kernel
theorem dc_1_15 : decode y_1.2.1 15 = .ok (.aload_n 0, 1) := by decide +kernel
theorem dc_1_16 : decode y_1.2.1 16 = .ok (.iconst 0, 1) := by decide +kernel
theorem dc_1_17 : decode y_1.2.1 17 = .ok (.newarray .int, 2) := by decide +kernel
theorem dc_1_19 : decode y_1.2.1 19 = .ok (.putfield 18, 3) := by decide +kernel
theorem dc_1_22 : decode y_1.2.1 22 = .ok (.return_, 1) := by decide +kernel
theorem dc_3_0 : decode y_3.2.1 0 = .ok (.aload_n 0, 1) := by decide +kernel
theorem dc_3_1 : decode y_3.2.1 1 = .ok (.invokespecial 3, 3) := by decide +kernel
theorem dc_3_4 : decode y_3.2.1 4 = .ok (.aload_n 0, 1) := by decide +kernel
theorem dc_3_5 : decode y_3.2.1 5 = .ok (.new 9, 3) := by decide +kernel
theorem dc_3_8 : decode y_3.2.1 8 = .ok (.dup, 1) := by decide +kernel
theorem dc_3_9 : decode y_3.2.1 9 = .ok (.invokespecial 11, 3) := by decide +kernel
theorem dc_3_12 : decode y_3.2.1 12 = .ok (.putfield 12, 3) := by decide +kernel
theorem dc_3_15 : decode y_3.2.1 15 = .ok (.aload_n 0, 1) := by decide +kernel
theorem dc_3_16 : decode y_3.2.1 16 = .ok (.new 18, 3) := by decide +kernel
theorem dc_3_19 : decode y_3.2.1 19 = .ok (.dup, 1) := by decide +kernel
theorem dc_3_20 : decode y_3.2.1 20 = .ok (.invokespecial 20, 3) := by decide +kernel
theorem dc_3_23 : decode y_3.2.1 23 = .ok (.putfield 21, 3) := by decide +kernel
theorem dc_3_26 : decode y_3.2.1 26 = .ok (.aload_n 0, 1) := by decide +kernel
theorem dc_3_27 : decode y_3.2.1 27 = .ok (.new 25, 3) := by decide +kernel
theorem dc_3_30 : decode y_3.2.1 30 = .ok (.dup, 1) := by decide +kernel
theorem dc_3_31 : decode y_3.2.1 31 = .ok (.invokespecial 27, 3) := by decide +kernel
theorem dc_3_34 : decode y_3.2.1 34 = .ok (.putfield 28, 3) := by decide +kernel
theorem dc_3_37 : decode y_3.2.1 37 = .ok (.aload_n 0, 1) := by decide +kernel
theorem dc_3_38 : decode y_3.2.1 38 = .ok (.bipush 16, 2) := by decide +kernel
theorem dc_3_40 : decode y_3.2.1 40 = .ok (.newarray .int, 2) := by decide +kernel
theorem dc_3_42 : decode y_3.2.1 42 = .ok (.putfield 32, 3) := by decide +kernel
theorem dc_3_45 : decode y_3.2.1 45 = .ok (.aload_n 0, 1) := by decide +kernel
theorem dc_3_46 : decode y_3.2.1 46 = .ok (.bipush 16, 2) := by decide +kernel
theorem dc_3_48 : decode y_3.2.1 48 = .ok (.newarray .int, 2) := by decide +kernel
theorem dc_3_50 : decode y_3.2.1 50 = .ok (.putfield 36, 3) := by decide +kernel
theorem dc_3_53 : decode y_3.2.1 53 = .ok (.aload_n 0, 1) := by decide +kernel
theorem dc_3_54 : decode y_3.2.1 54 = .ok (.bipush 16, 2) := by decide +kernel
theorem dc_3_56 : decode y_3.2.1 56 = .ok (.newarray .int, 2) := by decide +kernel
theorem dc_3_58 : decode y_3.2.1 58 = .ok (.putfield 39, 3) := by decide +kernel
theorem dc_3_61 : decode y_3.2.1 61 = .ok (.aload_n 0, 1) := by decide +kernel
theorem dc_3_62 : decode y_3.2.1 62 = .ok (.bipush 16, 2) := by decide +kernel
theorem dc_3_64 : decode y_3.2.1 64 = .ok (.newarray .int, 2) := by decide +kernel
theorem dc_3_66 : decode y_3.2.1 66 = .ok (.putfield 42, 3) := by decide +kernel
theorem dc_3_69 : decode y_3.2.1 69 = .ok (.aload_n 0, 1) := by decide +kernel
theorem dc_3_70 : decode y_3.2.1 70 = .ok (.bipush 16, 2) := by decide +kernel
theorem dc_3_72 : decode y_3.2.1 72 = .ok (.newarray .int, 2) := by decide +kernel
theorem dc_3_74 : decode y_3.2.1 74 = .ok (.putfield 45, 3) := by decide +kernel
theorem dc_3_77 : decode y_3.2.1 77 = .ok (.aload_n 0, 1) := by decide +kernel
theorem dc_3_78 : decode y_3.2.1 78 = .ok (.bipush 16, 2) := by decide +kernel
theorem dc_3_80 : decode y_3.2.1 80 = .ok (.newarray .int, 2) := by decide +kernel
theorem dc_3_82 : decode y_3.2.1 82 = .ok (.putfield 48, 3) := by decide +kernel
theorem dc_3_85 : decode y_3.2.1 85 = .ok (.aload_n 0, 1) := by decide +kernel
theorem dc_3_86 : decode y_3.2.1 86 = .ok (.sipush 144, 3) := by decide +kernel
theorem dc_3_89 : decode y_3.2.1 89 = .ok (.newarray .int, 2) := by decide +kernel
theorem dc_3_91 : decode y_3.2.1 91 = .ok (.putfield 51, 3) := by decide +kernel
theorem dc_3_94 : decode y_3.2.1 94 = .ok (.aload_n 0, 1) := by decide +kernel
theorem dc_3_95 : decode y_3.2.1 95 = .ok (.bipush 16, 2) := by decide +kernel
theorem dc_3_97 : decode y_3.2.1 97 = .ok (.newarray .int, 2) := by decide +kernel
theorem dc_3_99 : decode y_3.2.1 99 = .ok (.putfield 54, 3) := by decide +kernel
theorem dc_3_102 : decode y_3.2.1 102 = .ok (.aload_n 0, 1) := by decide +kernel
theorem dc_3_103 : decode y_3.2.1 103 = .ok (.bipush 16, 2) := by decide +kernel
theorem dc_3_105 : decode y_3.2.1 105 = .ok (.newarray .int, 2) := by decide +kernel
theorem dc_3_107 : decode y_3.2.1 107 = .ok (.putfield 57, 3) := by decide +kernel
theorem dc_3_110 : decode y_3.2.1 110 = .ok (.aload_n 0, 1) := by decide +kernel
theorem dc_3_111 : decode y_3.2.1 111 = .ok (.bipush 16, 2) := by decide +kernel
theorem dc_3_113 : decode y_3.2.1 113 = .ok (.newarray .int, 2) := by decide +kernel
theorem dc_3_115 : decode y_3.2.1 115 = .ok (.putfield 60, 3) := by decide +kernel
theorem dc_3_118 : decode y_3.2.1 118 = .ok (.aload_n 0, 1) := by decide +kernel
theorem dc_3_119 : decode y_3.2.1 119 = .ok (.bipush 16, 2) := by decide +kernel
theorem dc_3_121 : decode y_3.2.1 121 = .ok (.newarray .int, 2) := by decide +kernel
theorem dc_3_123 : decode y_3.2.1 123 = .ok (.putfield 63, 3) := by decide +kernel
theorem dc_3_126 : decode y_3.2.1 126 = .ok (.aload_n 0, 1) := by decide +kernel
theorem dc_3_127 : decode y_3.2.1 127 = .ok (.bipush 16, 2) := by decide +kernel
theorem dc_3_129 : decode y_3.2.1 129 = .ok (.newarray .int, 2) := by decide +kernel
theorem dc_3_131 : decode y_3.2.1 131 = .ok (.putfield 66, 3) := by decide +kernel
theorem dc_3_134 : decode y_3.2.1 134 = .ok (.aload_n 0, 1) := by decide +kernel
theorem dc_3_135 : decode y_3.2.1 135 = .ok (.sipush 180, 3) := by decide +kernel
theorem dc_3_138 : decode y_3.2.1 138 = .ok (.newarray .int, 2) := by decide +kernel
theorem dc_3_140 : decode y_3.2.1 140 = .ok (.putfield 69, 3) := by decide +kernel
theorem dc_3_143 : decode y_3.2.1 143 = .ok (.return_, 1) := by decide +kernel
theorem dc_0_0 : decode y_0.2.1 0 = .ok (.aload_n 0, 1) := by decide +kernel
theorem dc_0_1 : decode y_0.2.1 1 = .ok (.invokespecial 1, 3) := by decide +kernel
theorem dc_0_4 : decode y_0.2.1 4 = .ok (.aload_n 0, 1) := by decide +kernel
theorem dc_0_5 : decode y_0.2.1 5 = .ok (.sipush 800, 3) := by decide +kernel
theorem dc_0_8 : decode y_0.2.1 8 = .ok (.newarray .int, 2) := by decide +kernel
theorem dc_0_10 : decode y_0.2.1 10 = .ok (.putfield 9, 3) := by decide +kernel
theorem dc_0_13 : decode y_0.2.1 13 = .ok (.aload_n 0, 1) := by decide +kernel
theorem dc_0_14 : decode y_0.2.1 14 = .ok (.new 13, 3) := by decide +kernel
theorem dc_0_17 : decode y_0.2.1 17 = .ok (.dup, 1) := by decide +kernel
theorem dc_0_18 : decode y_0.2.1 18 = .ok (.invokespecial 15, 3) := by decide +kernel
theorem dc_0_21 : decode y_0.2.1 21 = .ok (.putfield 16, 3) := by decide +kernel
theorem dc_0_24 : decode y_0.2.1 24 = .ok (.aload_n 0, 1) := by decide +kernel
theorem dc_0_25 : decode y_0.2.1 25 = .ok (.new 20, 3) := by decide +kernel
theorem dc_0_28 : decode y_0.2.1 28 = .ok (.dup, 1) := by decide +kernel
theorem dc_0_29 : decode y_0.2.1 29 = .ok (.invokespecial 22, 3) := by decide +kernel
theorem dc_0_32 : decode y_0.2.1 32 = .ok (.putfield 23, 3) := by decide +kernel
theorem dc_0_35 : decode y_0.2.1 35 = .ok (.aload_n 0, 1) := by decide +kernel
theorem dc_0_36 : decode y_0.2.1 36 = .ok (.new 20, 3) := by decide +kernel
theorem dc_0_39 : decode y_0.2.1 39 = .ok (.dup, 1) := by decide +kernel
theorem dc_0_40 : decode y_0.2.1 40 = .ok (.invokespecial 22, 3) := by decide +kernel
theorem dc_0_43 : decode y_0.2.1 43 = .ok (.putfield 27, 3) := by decide +kernel
theorem dc_0_46 : decode y_0.2.1 46 = .ok (.aload_n 0, 1) := by decide +kernel
theorem dc_0_47 : decode y_0.2.1 47 = .ok (.new 20, 3) := by decide +kernel
theorem dc_0_50 : decode y_0.2.1 50 = .ok (.dup, 1) := by decide +kernel
theorem dc_0_51 : decode y_0.2.1 51 = .ok (.invokespecial 22, 3) := by decide +kernel
theorem dc_0_54 : decode y_0.2.1 54 = .ok (.putfield 30, 3) := by decide +kernel
theorem dc_0_57 : decode y_0.2.1 57 = .ok (.aload_n 0, 1) := by decide +kernel
theorem dc_0_58 : decode y_0.2.1 58 = .ok (.new 20, 3) := by decide +kernel
theorem dc_0_61 : decode y_0.2.1 61 = .ok (.dup, 1) := by decide +kernel
theorem dc_0_62 : decode y_0.2.1 62 = .ok (.invokespecial 22, 3) := by decide +kernel
theorem dc_0_65 : decode y_0.2.1 65 = .ok (.putfield 33, 3) := by decide +kernel
theorem dc_0_68 : decode y_0.2.1 68 = .ok (.aload_n 0, 1) := by decide +kernel
theorem dc_0_69 : decode y_0.2.1 69 = .ok (.iconst 0, 1) := by decide +kernel
theorem dc_0_70 : decode y_0.2.1 70 = .ok (.putfield 36, 3) := by decide +kernel
theorem dc_0_73 : decode y_0.2.1 73 = .ok (.aload_n 0, 1) := by decide +kernel
theorem dc_0_74 : decode y_0.2.1 74 = .ok (.iconst 0, 1) := by decide +kernel
theorem dc_0_75 : decode y_0.2.1 75 = .ok (.putfield 40, 3) := by decide +kernel
theorem dc_0_78 : decode y_0.2.1 78 = .ok (.return_, 1) := by decide +kernel
theorem dc_145_0 : decode y_145.2.1 0 = .ok (.aload_n 0, 1) := by decide +kernel
theorem dc_145_1 : decode y_145.2.1 1 = .ok (.invokespecial 3, 3) := by decide +kernel
theorem dc_145_4 : decode y_145.2.1 4 = .ok (.aload_n 0, 1) := by decide +kernel
theorem dc_145_5 : decode y_145.2.1 5 = .ok (.sipush 1084, 3) := by decide +kernel
theorem dc_145_8 : decode y_145.2.1 8 = .ok (.newarray .int, 2) := by decide +kernel
theorem dc_145_10 : decode y_145.2.1 10 = .ok (.putfield 9, 3) := by decide +kernel
theorem dc_145_13 : decode y_145.2.1 13 = .ok (.aload_n 0, 1) := by decide +kernel
theorem dc_145_14 : decode y_145.2.1 14 = .ok (.sipush 1084, 3) := by decide +kernel
theorem dc_145_17 : decode y_145.2.1 17 = .ok (.newarray .int, 2) := by decide +kernel
theorem dc_145_19 : decode y_145.2.1 19 = .ok (.putfield 13, 3) := by decide +kernel
theorem dc_145_22 : decode y_145.2.1 22 = .ok (.aload_n 0, 1) := by decide +kernel
theorem dc_145_23 : decode y_145.2.1 23 = .ok (.sipush 1084, 3) := by decide +kernel
theorem dc_145_26 : decode y_145.2.1 26 = .ok (.newarray .int, 2) := by decide +kernel
theorem dc_145_28 : decode y_145.2.1 28 = .ok (.putfield 16, 3) := by decide +kernel
theorem dc_145_31 : decode y_145.2.1 31 = .ok (.aload_n 0, 1) := by decide +kernel
theorem dc_145_32 : decode y_145.2.1 32 = .ok (.sipush 1084, 3) := by decide +kernel
theorem dc_145_35 : decode y_145.2.1 35 = .ok (.newarray .int, 2) := by decide +kernel
theorem dc_145_37 : decode y_145.2.1 37 = .ok (.putfield 19, 3) := by decide +kernel
theorem dc_145_40 : decode y_145.2.1 40 = .ok (.aload_n 0, 1) := by decide +kernel
theorem dc_145_41 : decode y_145.2.1 41 = .ok (.sipush 1084, 3) := by decide +kernel
theorem dc_145_44 : decode y_145.2.1 44 = .ok (.newarray .int, 2) := by decide +kernel
theorem dc_145_46 : decode y_145.2.1 46 = .ok (.putfield 22, 3) := by decide +kernel
theorem dc_145_49 : decode y_145.2.1 49 = .ok (.aload_n 0, 1) := by decide +kernel
theorem dc_145_50 : decode y_145.2.1 50 = .ok (.iconst 2, 1) := by decide +kernel
theorem dc_145_51 : decode y_145.2.1 51 = .ok (.newarray .boolean, 2) := by decide +kernel
theorem dc_145_53 : decode y_145.2.1 53 = .ok (.putfield 25, 3) := by decide +kernel
theorem dc_145_56 : decode y_145.2.1 56 = .ok (.aload_n 0, 1) := by decide +kernel
theorem dc_145_57 : decode y_145.2.1 57 = .ok (.sipush 800, 3) := by decide +kernel
theorem dc_145_60 : decode y_145.2.1 60 = .ok (.newarray .int, 2) := by decide +kernel
theorem dc_145_62 : decode y_145.2.1 62 = .ok (.putfield 29, 3) := by decide +kernel
theorem dc_145_65 : decode y_145.2.1 65 = .ok (.aload_n 0, 1) := by decide +kernel
theorem dc_145_66 : decode y_145.2.1 66 = .ok (.iconst 4, 1) := by decide +kernel
theorem dc_145_67 : decode y_145.2.1 67 = .ok (.newarray .int, 2) := by decide +kernel
theorem dc_145_69 : decode y_145.2.1 69 = .ok (.putfield 32, 3) := by decide +kernel
theorem dc_145_72 : decode y_145.2.1 72 = .ok (.aload_n 0, 1) := by decide +kernel
theorem dc_145_73 : decode y_145.2.1 73 = .ok (.iconst 4, 1) := by decide +kernel
theorem dc_145_74 : decode y_145.2.1 74 = .ok (.newarray .int, 2) := by decide +kernel
theorem dc_145_76 : decode y_145.2.1 76 = .ok (.putfield 35, 3) := by decide +kernel
theorem dc_145_79 : decode y_145.2.1 79 = .ok (.aload_n 0, 1) := by decide +kernel
theorem dc_145_80 : decode y_145.2.1 80 = .ok (.iconst 4, 1) := by decide +kernel
theorem dc_145_81 : decode y_145.2.1 81 = .ok (.newarray .int, 2) := by decide +kernel
theorem dc_145_83 : decode y_145.2.1 83 = .ok (.putfield 38, 3) := by decide +kernel
theorem dc_145_86 : decode y_145.2.1 86 = .ok (.aload_n 0, 1) := by decide +kernel
theorem dc_145_87 : decode y_145.2.1 87 = .ok (.bipush 16, 2) := by decide +kernel
theorem dc_145_89 : decode y_145.2.1 89 = .ok (.newarray .int, 2) := by decide +kernel
theorem dc_145_91 : decode y_145.2.1 91 = .ok (.putfield 41, 3) := by decide +kernel
theorem dc_145_94 : decode y_145.2.1 94 = .ok (.aload_n 0, 1) := by decide +kernel
theorem dc_145_95 : decode y_145.2.1 95 = .ok (.bipush 16, 2) := by decide +kernel
theorem dc_145_97 : decode y_145.2.1 97 = .ok (.newarray .int, 2) := by decide +kernel
theorem dc_145_99 : decode y_145.2.1 99 = .ok (.putfield 44, 3) := by decide +kernel
theorem dc_145_102 : decode y_145.2.1 102 = .ok (.return_, 1) := by decide +kernel
set_option maxRecDepth 20000 in
theorem c_init_Setup (l : Launch) (D : va_G) (cA : Nat → ClassId) (h0 n : Nat) : ug_Met l y_2 1 17 518 D cA 2 h0 n [.int 0, .null, .null, .null, .null, .null, .null, .null, .null, .null, .null, .null] (ug_fSetup n) (ug_LSetup n) := by
  refine Met.ofW (cc := y_2.2.1) (maxL := 1) (ret := none) (by decide +kernel) rfl ?_
  intro p e s m args below meth c s₁ B hml hv
  obtain ⟨rfl, hn, hlt, hob, hK⟩ := hv
  have hx := B.exec
  have hb : c.code = y_2.2.1 := B.bytes
  have hr := B.returns
  have hlocks := B.notSynchronized
  have G : ug_G y_2 p s m _ meth c D cA := ⟨B.exec, B.bytes, hml, findClass_of_methodNamed B.named, atoms_spec (ws := ux_ws y_2) B.pre, hK, (name_of_methodNamed B.named B.method).1⟩
  have hS : ug_St D cA n h0 2 [.int 0, .null, .null, .null, .null, .null, .null, .null, .null, .null, .null, .null] [] s.heap s.heap := ⟨hlt, hn, ug_P.nil, hob, fun _ _ _ => rfl⟩
  have hlo : ∀ l ∈ ([] : List Loc), l.base = h0 := fun l h => by cases h
  have hL : ([] : List ug_C).length = 0 := rfl
  have hl := lv_entry ([.ref h0]) (n := 1) (Nat.le_of_ble_eq_true rfl)
  rw [lg_entry_eq]
  generalize (lg_sl ([.ref h0]) ++ List.replicate (1 - (lg_sl ([.ref h0])).length) Slot.unset).toArray = ls at hl ⊢
  have hl : lv_has ls 1 [(0, .ref h0)] := hl
  show W p l e (ug_room 1 17 518) s m _ below meth c s.heap [] 0 0 _ _
  refine lv_aload_n hx hb dc_2_0 rfl (lv_at hl 0 rfl) ?_
  refine W.objInit hx hb G.2.2.2.1 (G.w (pp := 213) (w := .methodLink "ServiceManager$Setup" 3 Lib.objectInit) (by decide +kernel) rfl) (G.w (pp := 200) (w := .instanceMethod Lib.objectInit) (by decide +kernel) rfl) (G.w (pp := 201) (w := .code Lib.objectInit ⟨#[0xb1]⟩ 1 none) (by decide +kernel) rfl) (g := F0 m 1 ls [.ref h0]) rfl (hl.1.trans hml.symm) (rest := []) rfl dc_2_1 (Nat.le_of_ble_eq_true rfl) (by show 2 * 0 + 0 + 12 ≤ 60 * 1 + 60; omega) ?_
  show W p l e (ug_room 1 17 518) s m _ below meth c s.heap [] 0 0 _ (F0 m 4 ls [])
  refine lv_aload_n hx hb dc_2_4 rfl (lv_at hl 0 rfl) ?_
  refine lv_bipush (v := 16) hx hb dc_2_5 (by decide) ?_
  refine ug_arr (ty := .int) (atype := .int) (qq := 0) (kd := 1) (len := 16) (k := 1) (tf := .array .int) G hL (by decide) rfl (pa := 281) (by decide +kernel) rfl rfl ug_raI (by decide) (by decide +kernel) gw_220 (by decide +kernel) (fun _ => rfl) (fun _ => rfl) (by exact Nat.le_of_ble_eq_true rfl) (by decide) (by decide +kernel) (Nat.le_of_ble_eq_true rfl) (Nat.le_of_ble_eq_true rfl) (Nat.le_of_ble_eq_true rfl) hS hlo dc_2_7 dc_2_9 (fun H1 locs1 hS1 hlo1 => ?_)
  have hS : ug_St D cA n h0 2 [.int 0, .ref n, .null, .null, .null, .null, .null, .null, .null, .null, .null, .null] ([.inl (1, 16, fun _ => .int 0)]) s.heap H1 := hS1
  have hL : ([.inl (1, 16, fun _ => .int 0)] : List ug_C).length = 1 := by simp only [List.length_append, List.length_cons, List.length_nil, ug_NSetup]
  have hlo : ∀ l ∈ locs1, l.base = h0 := hlo1
  refine W.widen (k := 1) (n := 16) (Nat.le_of_ble_eq_true rfl) (Nat.le_of_ble_eq_true rfl) ?_
  show W p l e (ug_room 1 17 518) s m _ below meth c H1 locs1 1 16 _ (F0 m 12 ls [])
  refine lv_aload_n hx hb dc_2_12 rfl (lv_at hl 0 rfl) ?_
  refine lv_bipush (v := 16) hx hb dc_2_13 (by decide) ?_
  refine ug_arr (ty := .int) (atype := .int) (qq := 1) (kd := 1) (len := 16) (k := 2) (tf := .array .int) G hL (by decide) rfl (pa := 281) (by decide +kernel) rfl rfl ug_raI (by decide) (by decide +kernel) gw_225 (by decide +kernel) (fun _ => rfl) (fun _ => rfl) (by exact Nat.le_of_ble_eq_true rfl) (by decide) (by decide +kernel) (Nat.le_of_ble_eq_true rfl) (Nat.le_of_ble_eq_true rfl) (Nat.le_of_ble_eq_true rfl) hS hlo dc_2_15 dc_2_17 (fun H1 locs1 hS1 hlo1 => ?_)
  have hS : ug_St D cA n h0 2 [.int 0, .ref n, .ref (n + 1), .null, .null, .null, .null, .null, .null, .null, .null, .null] ([.inl (1, 16, fun _ => .int 0)] ++ [.inl (1, 16, fun _ => .int 0)]) s.heap H1 := hS1
  have hL : ([.inl (1, 16, fun _ => .int 0)] ++ [.inl (1, 16, fun _ => .int 0)] : List ug_C).length = 2 := by simp only [List.length_append, List.length_cons, List.length_nil, ug_NSetup]
  have hlo : ∀ l ∈ locs1, l.base = h0 := hlo1
  refine W.widen (k := 2) (n := 32) (Nat.le_of_ble_eq_true rfl) (Nat.le_of_ble_eq_true rfl) ?_
  show W p l e (ug_room 1 17 518) s m _ below meth c H1 locs1 2 32 _ (F0 m 20 ls [])
  refine lv_aload_n hx hb dc_2_20 rfl (lv_at hl 0 rfl) ?_
  refine lv_sipush (v := 128) hx hb dc_2_21 (by decide) ?_
  refine ug_arr (ty := .int) (atype := .int) (qq := 2) (kd := 1) (len := 128) (k := 3) (tf := .array .int) G hL (by decide) rfl (pa := 281) (by decide +kernel) rfl rfl ug_raI (by decide) (by decide +kernel) gw_227 (by decide +kernel) (fun _ => rfl) (fun _ => rfl) (by exact Nat.le_of_ble_eq_true rfl) (by decide) (by decide +kernel) (Nat.le_of_ble_eq_true rfl) (Nat.le_of_ble_eq_true rfl) (Nat.le_of_ble_eq_true rfl) hS hlo dc_2_24 dc_2_26 (fun H1 locs1 hS1 hlo1 => ?_)
  have hS : ug_St D cA n h0 2 [.int 0, .ref n, .ref (n + 1), .ref (n + 2), .null, .null, .null, .null, .null, .null, .null, .null] ([.inl (1, 16, fun _ => .int 0)] ++ [.inl (1, 16, fun _ => .int 0)] ++ [.inl (1, 128, fun _ => .int 0)]) s.heap H1 := hS1
  have hL : ([.inl (1, 16, fun _ => .int 0)] ++ [.inl (1, 16, fun _ => .int 0)] ++ [.inl (1, 128, fun _ => .int 0)] : List ug_C).length = 3 := by simp only [List.length_append, List.length_cons, List.length_nil, ug_NSetup]
  have hlo : ∀ l ∈ locs1, l.base = h0 := hlo1
  refine W.widen (k := 3) (n := 160) (Nat.le_of_ble_eq_true rfl) (Nat.le_of_ble_eq_true rfl) ?_
  show W p l e (ug_room 1 17 518) s m _ below meth c H1 locs1 3 160 _ (F0 m 29 ls [])
  refine lv_aload_n hx hb dc_2_29 rfl (lv_at hl 0 rfl) ?_
  refine lv_sipush (v := 160) hx hb dc_2_30 (by decide) ?_
  refine ug_arr (ty := .int) (atype := .int) (qq := 3) (kd := 1) (len := 160) (k := 4) (tf := .array .int) G hL (by decide) rfl (pa := 281) (by decide +kernel) rfl rfl ug_raI (by decide) (by decide +kernel) gw_229 (by decide +kernel) (fun _ => rfl) (fun _ => rfl) (by exact Nat.le_of_ble_eq_true rfl) (by decide) (by decide +kernel) (Nat.le_of_ble_eq_true rfl) (Nat.le_of_ble_eq_true rfl) (Nat.le_of_ble_eq_true rfl) hS hlo dc_2_33 dc_2_35 (fun H1 locs1 hS1 hlo1 => ?_)
  have hS : ug_St D cA n h0 2 [.int 0, .ref n, .ref (n + 1), .ref (n + 2), .ref (n + 3), .null, .null, .null, .null, .null, .null, .null] ([.inl (1, 16, fun _ => .int 0)] ++ [.inl (1, 16, fun _ => .int 0)] ++ [.inl (1, 128, fun _ => .int 0)] ++ [.inl (1, 160, fun _ => .int 0)]) s.heap H1 := hS1
  have hL : ([.inl (1, 16, fun _ => .int 0)] ++ [.inl (1, 16, fun _ => .int 0)] ++ [.inl (1, 128, fun _ => .int 0)] ++ [.inl (1, 160, fun _ => .int 0)] : List ug_C).length = 4 := by simp only [List.length_append, List.length_cons, List.length_nil, ug_NSetup]
  have hlo : ∀ l ∈ locs1, l.base = h0 := hlo1
  refine W.widen (k := 4) (n := 320) (Nat.le_of_ble_eq_true rfl) (Nat.le_of_ble_eq_true rfl) ?_
  show W p l e (ug_room 1 17 518) s m _ below meth c H1 locs1 4 320 _ (F0 m 38 ls [])
  refine lv_aload_n hx hb dc_2_38 rfl (lv_at hl 0 rfl) ?_
  refine lv_bipush (v := 16) hx hb dc_2_39 (by decide) ?_
  refine ug_arr (ty := .int) (atype := .int) (qq := 4) (kd := 1) (len := 16) (k := 5) (tf := .array .int) G hL (by decide) rfl (pa := 281) (by decide +kernel) rfl rfl ug_raI (by decide) (by decide +kernel) gw_234 (by decide +kernel) (fun _ => rfl) (fun _ => rfl) (by exact Nat.le_of_ble_eq_true rfl) (by decide) (by decide +kernel) (Nat.le_of_ble_eq_true rfl) (Nat.le_of_ble_eq_true rfl) (Nat.le_of_ble_eq_true rfl) hS hlo dc_2_41 dc_2_43 (fun H1 locs1 hS1 hlo1 => ?_)
  have hS : ug_St D cA n h0 2 [.int 0, .ref n, .ref (n + 1), .ref (n + 2), .ref (n + 3), .ref (n + 4), .null, .null, .null, .null, .null, .null] ([.inl (1, 16, fun _ => .int 0)] ++ [.inl (1, 16, fun _ => .int 0)] ++ [.inl (1, 128, fun _ => .int 0)] ++ [.inl (1, 160, fun _ => .int 0)] ++ [.inl (1, 16, fun _ => .int 0)]) s.heap H1 := hS1
  have hL : ([.inl (1, 16, fun _ => .int 0)] ++ [.inl (1, 16, fun _ => .int 0)] ++ [.inl (1, 128, fun _ => .int 0)] ++ [.inl (1, 160, fun _ => .int 0)] ++ [.inl (1, 16, fun _ => .int 0)] : List ug_C).length = 5 := by simp only [List.length_append, List.length_cons, List.length_nil, ug_NSetup]
  have hlo : ∀ l ∈ locs1, l.base = h0 := hlo1
  refine W.widen (k := 5) (n := 336) (Nat.le_of_ble_eq_true rfl) (Nat.le_of_ble_eq_true rfl) ?_
  show W p l e (ug_room 1 17 518) s m _ below meth c H1 locs1 5 336 _ (F0 m 46 ls [])
  refine lv_aload_n hx hb dc_2_46 rfl (lv_at hl 0 rfl) ?_
  refine lv_bipush (v := 16) hx hb dc_2_47 (by decide) ?_
  refine ug_arr (ty := .int) (atype := .int) (qq := 5) (kd := 1) (len := 16) (k := 6) (tf := .array .int) G hL (by decide) rfl (pa := 281) (by decide +kernel) rfl rfl ug_raI (by decide) (by decide +kernel) gw_238 (by decide +kernel) (fun _ => rfl) (fun _ => rfl) (by exact Nat.le_of_ble_eq_true rfl) (by decide) (by decide +kernel) (Nat.le_of_ble_eq_true rfl) (Nat.le_of_ble_eq_true rfl) (Nat.le_of_ble_eq_true rfl) hS hlo dc_2_49 dc_2_51 (fun H1 locs1 hS1 hlo1 => ?_)
  have hS : ug_St D cA n h0 2 [.int 0, .ref n, .ref (n + 1), .ref (n + 2), .ref (n + 3), .ref (n + 4), .ref (n + 5), .null, .null, .null, .null, .null] ([.inl (1, 16, fun _ => .int 0)] ++ [.inl (1, 16, fun _ => .int 0)] ++ [.inl (1, 128, fun _ => .int 0)] ++ [.inl (1, 160, fun _ => .int 0)] ++ [.inl (1, 16, fun _ => .int 0)] ++ [.inl (1, 16, fun _ => .int 0)]) s.heap H1 := hS1
  have hL : ([.inl (1, 16, fun _ => .int 0)] ++ [.inl (1, 16, fun _ => .int 0)] ++ [.inl (1, 128, fun _ => .int 0)] ++ [.inl (1, 160, fun _ => .int 0)] ++ [.inl (1, 16, fun _ => .int 0)] ++ [.inl (1, 16, fun _ => .int 0)] : List ug_C).length = 6 := by simp only [List.length_append, List.length_cons, List.length_nil, ug_NSetup]
  have hlo : ∀ l ∈ locs1, l.base = h0 := hlo1
  refine W.widen (k := 6) (n := 352) (Nat.le_of_ble_eq_true rfl) (Nat.le_of_ble_eq_true rfl) ?_
  show W p l e (ug_room 1 17 518) s m _ below meth c H1 locs1 6 352 _ (F0 m 54 ls [])
  refine lv_aload_n hx hb dc_2_54 rfl (lv_at hl 0 rfl) ?_
  refine lv_bipush (v := 6) hx hb dc_2_55 (by decide) ?_
  refine lv_bipush (v := 16) hx hb dc_2_57 (by decide) ?_
  refine ug_mul (qq := 6) (k := 7) (tf := .array (.array .int)) G hL (by decide) (pa := 214) (by decide +kernel) (by decide) (by decide +kernel) gw_241 (by decide +kernel) (fun _ => rfl) (fun _ => rfl) (by exact Nat.le_of_ble_eq_true rfl) (Nat.le_of_ble_eq_true rfl) (Nat.le_of_ble_eq_true rfl) hS hlo dc_2_59 dc_2_63 (fun H1 locs1 hS1 hlo1 => ?_)
  have hS : ug_St D cA n h0 2 [.int 0, .ref n, .ref (n + 1), .ref (n + 2), .ref (n + 3), .ref (n + 4), .ref (n + 5), .ref (n + 6), .null, .null, .null, .null] ([.inl (1, 16, fun _ => .int 0)] ++ [.inl (1, 16, fun _ => .int 0)] ++ [.inl (1, 128, fun _ => .int 0)] ++ [.inl (1, 160, fun _ => .int 0)] ++ [.inl (1, 16, fun _ => .int 0)] ++ [.inl (1, 16, fun _ => .int 0)] ++ [.inl (4, 6, fun j => .ref (n + 6 + 1 + j)), ug_a 16, ug_a 16, ug_a 16, ug_a 16, ug_a 16, ug_a 16]) s.heap H1 := hS1
  have hL : ([.inl (1, 16, fun _ => .int 0)] ++ [.inl (1, 16, fun _ => .int 0)] ++ [.inl (1, 128, fun _ => .int 0)] ++ [.inl (1, 160, fun _ => .int 0)] ++ [.inl (1, 16, fun _ => .int 0)] ++ [.inl (1, 16, fun _ => .int 0)] ++ [.inl (4, 6, fun j => .ref (n + 6 + 1 + j)), ug_a 16, ug_a 16, ug_a 16, ug_a 16, ug_a 16, ug_a 16] : List ug_C).length = 13 := by simp only [List.length_append, List.length_cons, List.length_nil, ug_NSetup]
  have hlo : ∀ l ∈ locs1, l.base = h0 := hlo1
  refine W.widen (k := 13) (n := 454) (Nat.le_of_ble_eq_true rfl) (Nat.le_of_ble_eq_true rfl) ?_
  show W p l e (ug_room 1 17 518) s m _ below meth c H1 locs1 13 454 _ (F0 m 66 ls [])
  refine lv_aload_n hx hb dc_2_66 rfl (lv_at hl 0 rfl) ?_
  refine lv_bipush (v := 16) hx hb dc_2_67 (by decide) ?_
  refine ug_arr (ty := .int) (atype := .int) (qq := 13) (kd := 1) (len := 16) (k := 8) (tf := .array .int) G hL (by decide) rfl (pa := 281) (by decide +kernel) rfl rfl ug_raI (by decide) (by decide +kernel) gw_246 (by decide +kernel) (fun _ => rfl) (fun _ => rfl) (by exact Nat.le_of_ble_eq_true rfl) (by decide) (by decide +kernel) (Nat.le_of_ble_eq_true rfl) (Nat.le_of_ble_eq_true rfl) (Nat.le_of_ble_eq_true rfl) hS hlo dc_2_69 dc_2_71 (fun H1 locs1 hS1 hlo1 => ?_)
  have hS : ug_St D cA n h0 2 [.int 0, .ref n, .ref (n + 1), .ref (n + 2), .ref (n + 3), .ref (n + 4), .ref (n + 5), .ref (n + 6), .ref (n + 13), .null, .null, .null] ([.inl (1, 16, fun _ => .int 0)] ++ [.inl (1, 16, fun _ => .int 0)] ++ [.inl (1, 128, fun _ => .int 0)] ++ [.inl (1, 160, fun _ => .int 0)] ++ [.inl (1, 16, fun _ => .int 0)] ++ [.inl (1, 16, fun _ => .int 0)] ++ [.inl (4, 6, fun j => .ref (n + 6 + 1 + j)), ug_a 16, ug_a 16, ug_a 16, ug_a 16, ug_a 16, ug_a 16] ++ [.inl (1, 16, fun _ => .int 0)]) s.heap H1 := hS1
  have hL : ([.inl (1, 16, fun _ => .int 0)] ++ [.inl (1, 16, fun _ => .int 0)] ++ [.inl (1, 128, fun _ => .int 0)] ++ [.inl (1, 160, fun _ => .int 0)] ++ [.inl (1, 16, fun _ => .int 0)] ++ [.inl (1, 16, fun _ => .int 0)] ++ [.inl (4, 6, fun j => .ref (n + 6 + 1 + j)), ug_a 16, ug_a 16, ug_a 16, ug_a 16, ug_a 16, ug_a 16] ++ [.inl (1, 16, fun _ => .int 0)] : List ug_C).length = 14 := by simp only [List.length_append, List.length_cons, List.length_nil, ug_NSetup]
  have hlo : ∀ l ∈ locs1, l.base = h0 := hlo1
  refine W.widen (k := 14) (n := 470) (Nat.le_of_ble_eq_true rfl) (Nat.le_of_ble_eq_true rfl) ?_
  show W p l e (ug_room 1 17 518) s m _ below meth c H1 locs1 14 470 _ (F0 m 74 ls [])
  refine lv_aload_n hx hb dc_2_74 rfl (lv_at hl 0 rfl) ?_
  refine lv_bipush (v := 16) hx hb dc_2_75 (by decide) ?_
  refine ug_arr (ty := .int) (atype := .int) (qq := 14) (kd := 1) (len := 16) (k := 9) (tf := .array .int) G hL (by decide) rfl (pa := 281) (by decide +kernel) rfl rfl ug_raI (by decide) (by decide +kernel) gw_250 (by decide +kernel) (fun _ => rfl) (fun _ => rfl) (by exact Nat.le_of_ble_eq_true rfl) (by decide) (by decide +kernel) (Nat.le_of_ble_eq_true rfl) (Nat.le_of_ble_eq_true rfl) (Nat.le_of_ble_eq_true rfl) hS hlo dc_2_77 dc_2_79 (fun H1 locs1 hS1 hlo1 => ?_)
  have hS : ug_St D cA n h0 2 [.int 0, .ref n, .ref (n + 1), .ref (n + 2), .ref (n + 3), .ref (n + 4), .ref (n + 5), .ref (n + 6), .ref (n + 13), .ref (n + 14), .null, .null] ([.inl (1, 16, fun _ => .int 0)] ++ [.inl (1, 16, fun _ => .int 0)] ++ [.inl (1, 128, fun _ => .int 0)] ++ [.inl (1, 160, fun _ => .int 0)] ++ [.inl (1, 16, fun _ => .int 0)] ++ [.inl (1, 16, fun _ => .int 0)] ++ [.inl (4, 6, fun j => .ref (n + 6 + 1 + j)), ug_a 16, ug_a 16, ug_a 16, ug_a 16, ug_a 16, ug_a 16] ++ [.inl (1, 16, fun _ => .int 0)] ++ [.inl (1, 16, fun _ => .int 0)]) s.heap H1 := hS1
  have hL : ([.inl (1, 16, fun _ => .int 0)] ++ [.inl (1, 16, fun _ => .int 0)] ++ [.inl (1, 128, fun _ => .int 0)] ++ [.inl (1, 160, fun _ => .int 0)] ++ [.inl (1, 16, fun _ => .int 0)] ++ [.inl (1, 16, fun _ => .int 0)] ++ [.inl (4, 6, fun j => .ref (n + 6 + 1 + j)), ug_a 16, ug_a 16, ug_a 16, ug_a 16, ug_a 16, ug_a 16] ++ [.inl (1, 16, fun _ => .int 0)] ++ [.inl (1, 16, fun _ => .int 0)] : List ug_C).length = 15 := by simp only [List.length_append, List.length_cons, List.length_nil, ug_NSetup]
  have hlo : ∀ l ∈ locs1, l.base = h0 := hlo1
  refine W.widen (k := 15) (n := 486) (Nat.le_of_ble_eq_true rfl) (Nat.le_of_ble_eq_true rfl) ?_
  show W p l e (ug_room 1 17 518) s m _ below meth c H1 locs1 15 486 _ (F0 m 82 ls [])
  refine lv_aload_n hx hb dc_2_82 rfl (lv_at hl 0 rfl) ?_
  refine lv_bipush (v := 16) hx hb dc_2_83 (by decide) ?_
  refine ug_arr (ty := .int) (atype := .int) (qq := 15) (kd := 1) (len := 16) (k := 10) (tf := .array .int) G hL (by decide) rfl (pa := 281) (by decide +kernel) rfl rfl ug_raI (by decide) (by decide +kernel) gw_252 (by decide +kernel) (fun _ => rfl) (fun _ => rfl) (by exact Nat.le_of_ble_eq_true rfl) (by decide) (by decide +kernel) (Nat.le_of_ble_eq_true rfl) (Nat.le_of_ble_eq_true rfl) (Nat.le_of_ble_eq_true rfl) hS hlo dc_2_85 dc_2_87 (fun H1 locs1 hS1 hlo1 => ?_)
  have hS : ug_St D cA n h0 2 [.int 0, .ref n, .ref (n + 1), .ref (n + 2), .ref (n + 3), .ref (n + 4), .ref (n + 5), .ref (n + 6), .ref (n + 13), .ref (n + 14), .ref (n + 15), .null] ([.inl (1, 16, fun _ => .int 0)] ++ [.inl (1, 16, fun _ => .int 0)] ++ [.inl (1, 128, fun _ => .int 0)] ++ [.inl (1, 160, fun _ => .int 0)] ++ [.inl (1, 16, fun _ => .int 0)] ++ [.inl (1, 16, fun _ => .int 0)] ++ [.inl (4, 6, fun j => .ref (n + 6 + 1 + j)), ug_a 16, ug_a 16, ug_a 16, ug_a 16, ug_a 16, ug_a 16] ++ [.inl (1, 16, fun _ => .int 0)] ++ [.inl (1, 16, fun _ => .int 0)] ++ [.inl (1, 16, fun _ => .int 0)]) s.heap H1 := hS1
  have hL : ([.inl (1, 16, fun _ => .int 0)] ++ [.inl (1, 16, fun _ => .int 0)] ++ [.inl (1, 128, fun _ => .int 0)] ++ [.inl (1, 160, fun _ => .int 0)] ++ [.inl (1, 16, fun _ => .int 0)] ++ [.inl (1, 16, fun _ => .int 0)] ++ [.inl (4, 6, fun j => .ref (n + 6 + 1 + j)), ug_a 16, ug_a 16, ug_a 16, ug_a 16, ug_a 16, ug_a 16] ++ [.inl (1, 16, fun _ => .int 0)] ++ [.inl (1, 16, fun _ => .int 0)] ++ [.inl (1, 16, fun _ => .int 0)] : List ug_C).length = 16 := by simp only [List.length_append, List.length_cons, List.length_nil, ug_NSetup]
  have hlo : ∀ l ∈ locs1, l.base = h0 := hlo1
  refine W.widen (k := 16) (n := 502) (Nat.le_of_ble_eq_true rfl) (Nat.le_of_ble_eq_true rfl) ?_
  show W p l e (ug_room 1 17 518) s m _ below meth c H1 locs1 16 502 _ (F0 m 90 ls [])
  refine lv_aload_n hx hb dc_2_90 rfl (lv_at hl 0 rfl) ?_
  refine lv_bipush (v := 16) hx hb dc_2_91 (by decide) ?_
  refine ug_arr (ty := .int) (atype := .int) (qq := 16) (kd := 1) (len := 16) (k := 11) (tf := .array .int) G hL (by decide) rfl (pa := 281) (by decide +kernel) rfl rfl ug_raI (by decide) (by decide +kernel) gw_255 (by decide +kernel) (fun _ => rfl) (fun _ => rfl) (by exact Nat.le_of_ble_eq_true rfl) (by decide) (by decide +kernel) (Nat.le_of_ble_eq_true rfl) (Nat.le_of_ble_eq_true rfl) (Nat.le_of_ble_eq_true rfl) hS hlo dc_2_93 dc_2_95 (fun H1 locs1 hS1 hlo1 => ?_)
  have hS : ug_St D cA n h0 2 [.int 0, .ref n, .ref (n + 1), .ref (n + 2), .ref (n + 3), .ref (n + 4), .ref (n + 5), .ref (n + 6), .ref (n + 13), .ref (n + 14), .ref (n + 15), .ref (n + 16)] ([.inl (1, 16, fun _ => .int 0)] ++ [.inl (1, 16, fun _ => .int 0)] ++ [.inl (1, 128, fun _ => .int 0)] ++ [.inl (1, 160, fun _ => .int 0)] ++ [.inl (1, 16, fun _ => .int 0)] ++ [.inl (1, 16, fun _ => .int 0)] ++ [.inl (4, 6, fun j => .ref (n + 6 + 1 + j)), ug_a 16, ug_a 16, ug_a 16, ug_a 16, ug_a 16, ug_a 16] ++ [.inl (1, 16, fun _ => .int 0)] ++ [.inl (1, 16, fun _ => .int 0)] ++ [.inl (1, 16, fun _ => .int 0)] ++ [.inl (1, 16, fun _ => .int 0)]) s.heap H1 := hS1
  have hL : ([.inl (1, 16, fun _ => .int 0)] ++ [.inl (1, 16, fun _ => .int 0)] ++ [.inl (1, 128, fun _ => .int 0)] ++ [.inl (1, 160, fun _ => .int 0)] ++ [.inl (1, 16, fun _ => .int 0)] ++ [.inl (1, 16, fun _ => .int 0)] ++ [.inl (4, 6, fun j => .ref (n + 6 + 1 + j)), ug_a 16, ug_a 16, ug_a 16, ug_a 16, ug_a 16, ug_a 16] ++ [.inl (1, 16, fun _ => .int 0)] ++ [.inl (1, 16, fun _ => .int 0)] ++ [.inl (1, 16, fun _ => .int 0)] ++ [.inl (1, 16, fun _ => .int 0)] : List ug_C).length = 17 := by simp only [List.length_append, List.length_cons, List.length_nil, ug_NSetup]
  have hlo : ∀ l ∈ locs1, l.base = h0 := hlo1
  refine W.widen (k := 17) (n := 518) (Nat.le_of_ble_eq_true rfl) (Nat.le_of_ble_eq_true rfl) ?_
  show W p l e (ug_room 1 17 518) s m _ below meth c H1 locs1 17 518 _ (F0 m 98 ls [])
  exact W.vret (hlocks := hlocks) hx hb hr (fun t ht hW => ⟨rfl, by rw [ht]; exact hS⟩) (fun q h => hlo q h) dc_2_98
set_option maxRecDepth 20000 in
theorem c_init_Trans (l : Launch) (D : va_G) (cA : Nat → ClassId) (h0 n : Nat) : ug_Met l y_4 1 3 48 D cA 4 h0 n [.int 0, .int 0, .int 0, .int 0, .int 0, .int 0, .int 0, .null, .null, .null] (ug_fTrans n) (ug_LTrans n) := by
  refine Met.ofW (cc := y_4.2.1) (maxL := 1) (ret := none) (by decide +kernel) rfl ?_
  intro p e s m args below meth c s₁ B hml hv
  obtain ⟨rfl, hn, hlt, hob, hK⟩ := hv
  have hx := B.exec
  have hb : c.code = y_4.2.1 := B.bytes
  have hr := B.returns
  have hlocks := B.notSynchronized
  have G : ug_G y_4 p s m _ meth c D cA := ⟨B.exec, B.bytes, hml, findClass_of_methodNamed B.named, atoms_spec (ws := ux_ws y_4) B.pre, hK, (name_of_methodNamed B.named B.method).1⟩
  have hS : ug_St D cA n h0 4 [.int 0, .int 0, .int 0, .int 0, .int 0, .int 0, .int 0, .null, .null, .null] [] s.heap s.heap := ⟨hlt, hn, ug_P.nil, hob, fun _ _ _ => rfl⟩
  have hlo : ∀ l ∈ ([] : List Loc), l.base = h0 := fun l h => by cases h
  have hL : ([] : List ug_C).length = 0 := rfl
  have hl := lv_entry ([.ref h0]) (n := 1) (Nat.le_of_ble_eq_true rfl)
  rw [lg_entry_eq]
  generalize (lg_sl ([.ref h0]) ++ List.replicate (1 - (lg_sl ([.ref h0])).length) Slot.unset).toArray = ls at hl ⊢
  have hl : lv_has ls 1 [(0, .ref h0)] := hl
  show W p l e (ug_room 1 3 48) s m _ below meth c s.heap [] 0 0 _ _
  refine lv_aload_n hx hb dc_4_0 rfl (lv_at hl 0 rfl) ?_
  refine W.objInit hx hb G.2.2.2.1 (G.w (pp := 323) (w := .methodLink "ServiceManager$Transaction" 3 Lib.objectInit) (by decide +kernel) rfl) (G.w (pp := 200) (w := .instanceMethod Lib.objectInit) (by decide +kernel) rfl) (G.w (pp := 201) (w := .code Lib.objectInit ⟨#[0xb1]⟩ 1 none) (by decide +kernel) rfl) (g := F0 m 1 ls [.ref h0]) rfl (hl.1.trans hml.symm) (rest := []) rfl dc_4_1 (Nat.le_of_ble_eq_true rfl) (by show 2 * 0 + 0 + 12 ≤ 60 * 1 + 60; omega) ?_
  show W p l e (ug_room 1 3 48) s m _ below meth c s.heap [] 0 0 _ (F0 m 4 ls [])
  refine lv_aload_n hx hb dc_4_4 rfl (lv_at hl 0 rfl) ?_
  refine lv_bipush (v := 16) hx hb dc_4_5 (by decide) ?_
  refine ug_arr (ty := .int) (atype := .int) (qq := 0) (kd := 1) (len := 16) (k := 7) (tf := .array .int) G hL (by decide) rfl (pa := 281) (by decide +kernel) rfl rfl ug_raI (by decide) (by decide +kernel) gw_333 (by decide +kernel) (fun _ => rfl) (fun _ => rfl) (by exact Nat.le_of_ble_eq_true rfl) (by decide) (by decide +kernel) (Nat.le_of_ble_eq_true rfl) (Nat.le_of_ble_eq_true rfl) (Nat.le_of_ble_eq_true rfl) hS hlo dc_4_7 dc_4_9 (fun H1 locs1 hS1 hlo1 => ?_)
  have hS : ug_St D cA n h0 4 [.int 0, .int 0, .int 0, .int 0, .int 0, .int 0, .int 0, .ref n, .null, .null] ([.inl (1, 16, fun _ => .int 0)]) s.heap H1 := hS1
  have hL : ([.inl (1, 16, fun _ => .int 0)] : List ug_C).length = 1 := by simp only [List.length_append, List.length_cons, List.length_nil, ug_NSetup, ug_NTrans]
  have hlo : ∀ l ∈ locs1, l.base = h0 := hlo1
  refine W.widen (k := 1) (n := 16) (Nat.le_of_ble_eq_true rfl) (Nat.le_of_ble_eq_true rfl) ?_
  show W p l e (ug_room 1 3 48) s m _ below meth c H1 locs1 1 16 _ (F0 m 12 ls [])
  refine lv_aload_n hx hb dc_4_12 rfl (lv_at hl 0 rfl) ?_
  refine lv_bipush (v := 16) hx hb dc_4_13 (by decide) ?_
  refine ug_arr (ty := .int) (atype := .int) (qq := 1) (kd := 1) (len := 16) (k := 8) (tf := .array .int) G hL (by decide) rfl (pa := 281) (by decide +kernel) rfl rfl ug_raI (by decide) (by decide +kernel) gw_334 (by decide +kernel) (fun _ => rfl) (fun _ => rfl) (by exact Nat.le_of_ble_eq_true rfl) (by decide) (by decide +kernel) (Nat.le_of_ble_eq_true rfl) (Nat.le_of_ble_eq_true rfl) (Nat.le_of_ble_eq_true rfl) hS hlo dc_4_15 dc_4_17 (fun H1 locs1 hS1 hlo1 => ?_)
  have hS : ug_St D cA n h0 4 [.int 0, .int 0, .int 0, .int 0, .int 0, .int 0, .int 0, .ref n, .ref (n + 1), .null] ([.inl (1, 16, fun _ => .int 0)] ++ [.inl (1, 16, fun _ => .int 0)]) s.heap H1 := hS1
  have hL : ([.inl (1, 16, fun _ => .int 0)] ++ [.inl (1, 16, fun _ => .int 0)] : List ug_C).length = 2 := by simp only [List.length_append, List.length_cons, List.length_nil, ug_NSetup, ug_NTrans]
  have hlo : ∀ l ∈ locs1, l.base = h0 := hlo1
  refine W.widen (k := 2) (n := 32) (Nat.le_of_ble_eq_true rfl) (Nat.le_of_ble_eq_true rfl) ?_
  show W p l e (ug_room 1 3 48) s m _ below meth c H1 locs1 2 32 _ (F0 m 20 ls [])
  refine lv_aload_n hx hb dc_4_20 rfl (lv_at hl 0 rfl) ?_
  refine lv_bipush (v := 16) hx hb dc_4_21 (by decide) ?_
  refine ug_arr (ty := .int) (atype := .int) (qq := 2) (kd := 1) (len := 16) (k := 9) (tf := .array .int) G hL (by decide) rfl (pa := 281) (by decide +kernel) rfl rfl ug_raI (by decide) (by decide +kernel) gw_335 (by decide +kernel) (fun _ => rfl) (fun _ => rfl) (by exact Nat.le_of_ble_eq_true rfl) (by decide) (by decide +kernel) (Nat.le_of_ble_eq_true rfl) (Nat.le_of_ble_eq_true rfl) (Nat.le_of_ble_eq_true rfl) hS hlo dc_4_23 dc_4_25 (fun H1 locs1 hS1 hlo1 => ?_)
  have hS : ug_St D cA n h0 4 [.int 0, .int 0, .int 0, .int 0, .int 0, .int 0, .int 0, .ref n, .ref (n + 1), .ref (n + 2)] ([.inl (1, 16, fun _ => .int 0)] ++ [.inl (1, 16, fun _ => .int 0)] ++ [.inl (1, 16, fun _ => .int 0)]) s.heap H1 := hS1
  have hL : ([.inl (1, 16, fun _ => .int 0)] ++ [.inl (1, 16, fun _ => .int 0)] ++ [.inl (1, 16, fun _ => .int 0)] : List ug_C).length = 3 := by simp only [List.length_append, List.length_cons, List.length_nil, ug_NSetup, ug_NTrans]
  have hlo : ∀ l ∈ locs1, l.base = h0 := hlo1
  refine W.widen (k := 3) (n := 48) (Nat.le_of_ble_eq_true rfl) (Nat.le_of_ble_eq_true rfl) ?_
  show W p l e (ug_room 1 3 48) s m _ below meth c H1 locs1 3 48 _ (F0 m 28 ls [])
  exact W.vret (hlocks := hlocks) hx hb hr (fun t ht hW => ⟨rfl, by rw [ht]; exact hS⟩) (fun q h => hlo q h) dc_4_28
set_option maxRecDepth 20000 in
theorem c_init_Jobs (l : Launch) (D : va_G) (cA : Nat → ClassId) (h0 n : Nat) : ug_Met l y_5 1 1 16 D cA 5 h0 n [.int 0, .int 0, .int 0, .int 0, .null] (ug_fJobs n) (ug_LJobs n) := by
  refine Met.ofW (cc := y_5.2.1) (maxL := 1) (ret := none) (by decide +kernel) rfl ?_
  intro p e s m args below meth c s₁ B hml hv
  obtain ⟨rfl, hn, hlt, hob, hK⟩ := hv
  have hx := B.exec
  have hb : c.code = y_5.2.1 := B.bytes
  have hr := B.returns
  have hlocks := B.notSynchronized
  have G : ug_G y_5 p s m _ meth c D cA := ⟨B.exec, B.bytes, hml, findClass_of_methodNamed B.named, atoms_spec (ws := ux_ws y_5) B.pre, hK, (name_of_methodNamed B.named B.method).1⟩
  have hS : ug_St D cA n h0 5 [.int 0, .int 0, .int 0, .int 0, .null] [] s.heap s.heap := ⟨hlt, hn, ug_P.nil, hob, fun _ _ _ => rfl⟩
  have hlo : ∀ l ∈ ([] : List Loc), l.base = h0 := fun l h => by cases h
  have hL : ([] : List ug_C).length = 0 := rfl
  have hl := lv_entry ([.ref h0]) (n := 1) (Nat.le_of_ble_eq_true rfl)
  rw [lg_entry_eq]
  generalize (lg_sl ([.ref h0]) ++ List.replicate (1 - (lg_sl ([.ref h0])).length) Slot.unset).toArray = ls at hl ⊢
  have hl : lv_has ls 1 [(0, .ref h0)] := hl
  show W p l e (ug_room 1 1 16) s m _ below meth c s.heap [] 0 0 _ _
  refine lv_aload_n hx hb dc_5_0 rfl (lv_at hl 0 rfl) ?_
  refine W.objInit hx hb G.2.2.2.1 (G.w (pp := 362) (w := .methodLink "ServiceManager$Jobs" 3 Lib.objectInit) (by decide +kernel) rfl) (G.w (pp := 200) (w := .instanceMethod Lib.objectInit) (by decide +kernel) rfl) (G.w (pp := 201) (w := .code Lib.objectInit ⟨#[0xb1]⟩ 1 none) (by decide +kernel) rfl) (g := F0 m 1 ls [.ref h0]) rfl (hl.1.trans hml.symm) (rest := []) rfl dc_5_1 (Nat.le_of_ble_eq_true rfl) (by show 2 * 0 + 0 + 12 ≤ 60 * 1 + 60; omega) ?_
  show W p l e (ug_room 1 1 16) s m _ below meth c s.heap [] 0 0 _ (F0 m 4 ls [])
  refine lv_aload_n hx hb dc_5_4 rfl (lv_at hl 0 rfl) ?_
  refine lv_bipush (v := 16) hx hb dc_5_5 (by decide) ?_
  refine ug_arr (ty := .int) (atype := .int) (qq := 0) (kd := 1) (len := 16) (k := 4) (tf := .array .int) G hL (by decide) rfl (pa := 281) (by decide +kernel) rfl rfl ug_raI (by decide) (by decide +kernel) gw_375 (by decide +kernel) (fun _ => rfl) (fun _ => rfl) (by exact Nat.le_of_ble_eq_true rfl) (by decide) (by decide +kernel) (Nat.le_of_ble_eq_true rfl) (Nat.le_of_ble_eq_true rfl) (Nat.le_of_ble_eq_true rfl) hS hlo dc_5_7 dc_5_9 (fun H1 locs1 hS1 hlo1 => ?_)
  have hS : ug_St D cA n h0 5 [.int 0, .int 0, .int 0, .int 0, .ref n] ([.inl (1, 16, fun _ => .int 0)]) s.heap H1 := hS1
  have hL : ([.inl (1, 16, fun _ => .int 0)] : List ug_C).length = 1 := by simp only [List.length_append, List.length_cons, List.length_nil, ug_NSetup, ug_NTrans, ug_NJobs]
  have hlo : ∀ l ∈ locs1, l.base = h0 := hlo1
  refine W.widen (k := 1) (n := 16) (Nat.le_of_ble_eq_true rfl) (Nat.le_of_ble_eq_true rfl) ?_
  show W p l e (ug_room 1 1 16) s m _ below meth c H1 locs1 1 16 _ (F0 m 12 ls [])
  exact W.vret (hlocks := hlocks) hx hb hr (fun t ht hW => ⟨rfl, by rw [ht]; exact hS⟩) (fun q h => hlo q h) dc_5_12
set_option maxRecDepth 20000 in
theorem c_init_Reader (l : Launch) (D : va_G) (cA : Nat → ClassId) (h0 n : Nat) : ug_Met l y_1 2 19 530 D cA 1 h0 n [.null, .null, .int 0, .int 0, .int 0, .int 0, .int 0, .int 0] (ug_fReader n) (ug_LReader n) := by
  refine Met.ofW (cc := y_1.2.1) (maxL := 1) (ret := none) (by decide +kernel) rfl ?_
  intro p e s m args below meth c s₁ B hml hv
  obtain ⟨rfl, hn, hlt, hob, hK⟩ := hv
  have hx := B.exec
  have hb : c.code = y_1.2.1 := B.bytes
  have hr := B.returns
  have hlocks := B.notSynchronized
  have G : ug_G y_1 p s m _ meth c D cA := ⟨B.exec, B.bytes, hml, findClass_of_methodNamed B.named, atoms_spec (ws := ux_ws y_1) B.pre, hK, (name_of_methodNamed B.named B.method).1⟩
  have hS : ug_St D cA n h0 1 [.null, .null, .int 0, .int 0, .int 0, .int 0, .int 0, .int 0] [] s.heap s.heap := ⟨hlt, hn, ug_P.nil, hob, fun _ _ _ => rfl⟩
  have hlo : ∀ l ∈ ([] : List Loc), l.base = h0 := fun l h => by cases h
  have hL : ([] : List ug_C).length = 0 := rfl
  have hl := lv_entry ([.ref h0]) (n := 1) (Nat.le_of_ble_eq_true rfl)
  rw [lg_entry_eq]
  generalize (lg_sl ([.ref h0]) ++ List.replicate (1 - (lg_sl ([.ref h0])).length) Slot.unset).toArray = ls at hl ⊢
  have hl : lv_has ls 1 [(0, .ref h0)] := hl
  show W p l e (ug_room 2 19 530) s m _ below meth c s.heap [] 0 0 _ _
  refine lv_aload_n hx hb dc_1_0 rfl (lv_at hl 0 rfl) ?_
  refine W.objInit hx hb G.2.2.2.1 (G.w (pp := 207) (w := .methodLink "ServiceManager$Reader" 3 Lib.objectInit) (by decide +kernel) rfl) (G.w (pp := 200) (w := .instanceMethod Lib.objectInit) (by decide +kernel) rfl) (G.w (pp := 201) (w := .code Lib.objectInit ⟨#[0xb1]⟩ 1 none) (by decide +kernel) rfl) (g := F0 m 1 ls [.ref h0]) rfl (hl.1.trans hml.symm) (rest := []) rfl dc_1_1 (Nat.le_of_ble_eq_true rfl) (by show 2 * 0 + 0 + 12 ≤ 60 * 2 + 60; omega) ?_
  show W p l e (ug_room 2 19 530) s m _ below meth c s.heap [] 0 0 _ (F0 m 4 ls [])
  refine lv_aload_n hx hb dc_1_4 rfl (lv_at hl 0 rfl) ?_
  refine ug_new (qq := 0) (d := 1) (mc := 17) (ms := 518) (y2 := y_2) (ci2 := 2) (k := 0) (fs2 := ug_fSetup (n + 1)) (L2 := ug_LSetup (n + 1)) (tf := .object "ServiceManager$Setup") G hn hL (by decide) (by decide) rfl rfl (by decide +kernel) rfl rfl (p1 := 208) (by decide +kernel) (p2 := 209) (by decide +kernel) (p3 := 177) (by decide +kernel) (p4 := 210) (by decide +kernel) (p5 := 211) (by decide +kernel) (p6 := 212) (by decide +kernel) ⟨by decide +kernel, by decide +kernel⟩ ug_dSetup (c_init_Setup l D cA (n) (n + 1)) (by decide) (by decide +kernel) gw_282 (by decide +kernel) (fun _ => rfl) (fun _ => rfl) (by exact Nat.le_of_ble_eq_true rfl) (Nat.le_of_ble_eq_true rfl) (Nat.le_of_ble_eq_true rfl) (Nat.le_of_ble_eq_true rfl) (Nat.le_of_ble_eq_true rfl) hS hlo hl.1 dc_1_5 dc_1_8 dc_1_9 dc_1_12 (fun H1 locs1 hS1 hlo1 => ?_)
  have hS : ug_St D cA n h0 1 [.ref n, .null, .int 0, .int 0, .int 0, .int 0, .int 0, .int 0] ((.inr (2, ug_fSetup (n + 1)) :: ug_LSetup (n + 1))) s.heap H1 := hS1
  have hL : ((.inr (2, ug_fSetup (n + 1)) :: ug_LSetup (n + 1)) : List ug_C).length = 18 := by simp only [List.length_append, List.length_cons, List.length_nil, ug_NSetup, ug_NTrans, ug_NJobs, ug_NReader]
  have hlo : ∀ l ∈ locs1, l.base = h0 := hlo1
  refine W.widen (k := 18) (n := 530) (Nat.le_of_ble_eq_true rfl) (Nat.le_of_ble_eq_true rfl) ?_
  show W p l e (ug_room 2 19 530) s m _ below meth c H1 locs1 18 530 _ (F0 m 15 ls [])
  refine lv_aload_n hx hb dc_1_15 rfl (lv_at hl 0 rfl) ?_
  refine lv_iconst (v := 0) hx hb dc_1_16 (by decide) ?_
  refine ug_arr (ty := .int) (atype := .int) (qq := 18) (kd := 1) (len := 0) (k := 1) (tf := .array .int) G hL (by decide) rfl (pa := 281) (by decide +kernel) rfl rfl ug_raI (by decide) (by decide +kernel) gw_284 (by decide +kernel) (fun _ => rfl) (fun _ => rfl) (by exact Nat.le_of_ble_eq_true rfl) (by decide) (by decide +kernel) (Nat.le_of_ble_eq_true rfl) (Nat.le_of_ble_eq_true rfl) (Nat.le_of_ble_eq_true rfl) hS hlo dc_1_17 dc_1_19 (fun H1 locs1 hS1 hlo1 => ?_)
  have hS : ug_St D cA n h0 1 [.ref n, .ref (n + 18), .int 0, .int 0, .int 0, .int 0, .int 0, .int 0] ((.inr (2, ug_fSetup (n + 1)) :: ug_LSetup (n + 1)) ++ [.inl (1, 0, fun _ => .int 0)]) s.heap H1 := hS1
  have hL : ((.inr (2, ug_fSetup (n + 1)) :: ug_LSetup (n + 1)) ++ [.inl (1, 0, fun _ => .int 0)] : List ug_C).length = 19 := by simp only [List.length_append, List.length_cons, List.length_nil, ug_NSetup, ug_NTrans, ug_NJobs, ug_NReader]
  have hlo : ∀ l ∈ locs1, l.base = h0 := hlo1
  refine W.widen (k := 19) (n := 530) (Nat.le_of_ble_eq_true rfl) (Nat.le_of_ble_eq_true rfl) ?_
  show W p l e (ug_room 2 19 530) s m _ below meth c H1 locs1 19 530 _ (F0 m 22 ls [])
  exact W.vret (hlocks := hlocks) hx hb hr (fun t ht hW => ⟨rfl, by rw [ht]; exact hS⟩) (fun q h => hlo q h) dc_1_22
set_option maxRecDepth 20000 in
theorem c_init_World (l : Launch) (D : va_G) (cA : Nat → ClassId) (h0 n : Nat) : ug_Met l y_3 2 37 1109 D cA 3 h0 n [.null, .null, .null, .int 0, .int 0, .null, .null, .null, .null, .null, .null, .null, .null, .null, .null, .null, .null, .null, .int 0] (ug_fWorld n) (ug_LWorld n) := by
  refine Met.ofW (cc := y_3.2.1) (maxL := 1) (ret := none) (by decide +kernel) rfl ?_
  intro p e s m args below meth c s₁ B hml hv
  obtain ⟨rfl, hn, hlt, hob, hK⟩ := hv
  have hx := B.exec
  have hb : c.code = y_3.2.1 := B.bytes
  have hr := B.returns
  have hlocks := B.notSynchronized
  have G : ug_G y_3 p s m _ meth c D cA := ⟨B.exec, B.bytes, hml, findClass_of_methodNamed B.named, atoms_spec (ws := ux_ws y_3) B.pre, hK, (name_of_methodNamed B.named B.method).1⟩
  have hS : ug_St D cA n h0 3 [.null, .null, .null, .int 0, .int 0, .null, .null, .null, .null, .null, .null, .null, .null, .null, .null, .null, .null, .null, .int 0] [] s.heap s.heap := ⟨hlt, hn, ug_P.nil, hob, fun _ _ _ => rfl⟩
  have hlo : ∀ l ∈ ([] : List Loc), l.base = h0 := fun l h => by cases h
  have hL : ([] : List ug_C).length = 0 := rfl
  have hl := lv_entry ([.ref h0]) (n := 1) (Nat.le_of_ble_eq_true rfl)
  rw [lg_entry_eq]
  generalize (lg_sl ([.ref h0]) ++ List.replicate (1 - (lg_sl ([.ref h0])).length) Slot.unset).toArray = ls at hl ⊢
  have hl : lv_has ls 1 [(0, .ref h0)] := hl
  show W p l e (ug_room 2 37 1109) s m _ below meth c s.heap [] 0 0 _ _
  refine lv_aload_n hx hb dc_3_0 rfl (lv_at hl 0 rfl) ?_
  refine W.objInit hx hb G.2.2.2.1 (G.w (pp := 315) (w := .methodLink "ServiceManager$World" 3 Lib.objectInit) (by decide +kernel) rfl) (G.w (pp := 200) (w := .instanceMethod Lib.objectInit) (by decide +kernel) rfl) (G.w (pp := 201) (w := .code Lib.objectInit ⟨#[0xb1]⟩ 1 none) (by decide +kernel) rfl) (g := F0 m 1 ls [.ref h0]) rfl (hl.1.trans hml.symm) (rest := []) rfl dc_3_1 (Nat.le_of_ble_eq_true rfl) (by show 2 * 0 + 0 + 12 ≤ 60 * 2 + 60; omega) ?_
  show W p l e (ug_room 2 37 1109) s m _ below meth c s.heap [] 0 0 _ (F0 m 4 ls [])
  refine lv_aload_n hx hb dc_3_4 rfl (lv_at hl 0 rfl) ?_
  refine ug_new (qq := 0) (d := 1) (mc := 17) (ms := 518) (y2 := y_2) (ci2 := 2) (k := 0) (fs2 := ug_fSetup (n + 1)) (L2 := ug_LSetup (n + 1)) (tf := .object "ServiceManager$Setup") G hn hL (by decide) (by decide) rfl rfl (by decide +kernel) rfl rfl (p1 := 316) (by decide +kernel) (p2 := 209) (by decide +kernel) (p3 := 177) (by decide +kernel) (p4 := 317) (by decide +kernel) (p5 := 211) (by decide +kernel) (p6 := 212) (by decide +kernel) ⟨by decide +kernel, by decide +kernel⟩ ug_dSetup (c_init_Setup l D cA (n) (n + 1)) (by decide) (by decide +kernel) gw_388 (by decide +kernel) (fun _ => rfl) (fun _ => rfl) (by exact Nat.le_of_ble_eq_true rfl) (Nat.le_of_ble_eq_true rfl) (Nat.le_of_ble_eq_true rfl) (Nat.le_of_ble_eq_true rfl) (Nat.le_of_ble_eq_true rfl) hS hlo hl.1 dc_3_5 dc_3_8 dc_3_9 dc_3_12 (fun H1 locs1 hS1 hlo1 => ?_)
  have hS : ug_St D cA n h0 3 [.ref n, .null, .null, .int 0, .int 0, .null, .null, .null, .null, .null, .null, .null, .null, .null, .null, .null, .null, .null, .int 0] ((.inr (2, ug_fSetup (n + 1)) :: ug_LSetup (n + 1))) s.heap H1 := hS1
  have hL : ((.inr (2, ug_fSetup (n + 1)) :: ug_LSetup (n + 1)) : List ug_C).length = 18 := by simp only [List.length_append, List.length_cons, List.length_nil, ug_NSetup, ug_NTrans, ug_NJobs, ug_NReader, ug_NWorld]
  have hlo : ∀ l ∈ locs1, l.base = h0 := hlo1
  refine W.widen (k := 18) (n := 530) (Nat.le_of_ble_eq_true rfl) (Nat.le_of_ble_eq_true rfl) ?_
  show W p l e (ug_room 2 37 1109) s m _ below meth c H1 locs1 18 530 _ (F0 m 15 ls [])
  refine lv_aload_n hx hb dc_3_15 rfl (lv_at hl 0 rfl) ?_
  refine ug_new (qq := 18) (d := 1) (mc := 3) (ms := 48) (y2 := y_4) (ci2 := 4) (k := 1) (fs2 := ug_fTrans (n + 18 + 1)) (L2 := ug_LTrans (n + 18 + 1)) (tf := .object "ServiceManager$Transaction") G hn hL (by decide) (by decide) rfl rfl (by decide +kernel) rfl rfl (p1 := 318) (by decide +kernel) (p2 := 319) (by decide +kernel) (p3 := 179) (by decide +kernel) (p4 := 320) (by decide +kernel) (p5 := 321) (by decide +kernel) (p6 := 322) (by decide +kernel) ⟨by decide +kernel, by decide +kernel⟩ ug_dTrans (c_init_Trans l D cA (n + 18) (n + 18 + 1)) (by decide) (by decide +kernel) gw_391 (by decide +kernel) (fun _ => rfl) (fun _ => rfl) (by exact Nat.le_of_ble_eq_true rfl) (Nat.le_of_ble_eq_true rfl) (Nat.le_of_ble_eq_true rfl) (Nat.le_of_ble_eq_true rfl) (Nat.le_of_ble_eq_true rfl) hS hlo hl.1 dc_3_16 dc_3_19 dc_3_20 dc_3_23 (fun H1 locs1 hS1 hlo1 => ?_)
  have hS : ug_St D cA n h0 3 [.ref n, .ref (n + 18), .null, .int 0, .int 0, .null, .null, .null, .null, .null, .null, .null, .null, .null, .null, .null, .null, .null, .int 0] ((.inr (2, ug_fSetup (n + 1)) :: ug_LSetup (n + 1)) ++ (.inr (4, ug_fTrans (n + 18 + 1)) :: ug_LTrans (n + 18 + 1))) s.heap H1 := hS1
  have hL : ((.inr (2, ug_fSetup (n + 1)) :: ug_LSetup (n + 1)) ++ (.inr (4, ug_fTrans (n + 18 + 1)) :: ug_LTrans (n + 18 + 1)) : List ug_C).length = 22 := by simp only [List.length_append, List.length_cons, List.length_nil, ug_NSetup, ug_NTrans, ug_NJobs, ug_NReader, ug_NWorld]
  have hlo : ∀ l ∈ locs1, l.base = h0 := hlo1
  refine W.widen (k := 22) (n := 588) (Nat.le_of_ble_eq_true rfl) (Nat.le_of_ble_eq_true rfl) ?_
  show W p l e (ug_room 2 37 1109) s m _ below meth c H1 locs1 22 588 _ (F0 m 26 ls [])
  refine lv_aload_n hx hb dc_3_26 rfl (lv_at hl 0 rfl) ?_
  refine ug_new (qq := 22) (d := 1) (mc := 1) (ms := 16) (y2 := y_5) (ci2 := 5) (k := 2) (fs2 := ug_fJobs (n + 22 + 1)) (L2 := ug_LJobs (n + 22 + 1)) (tf := .object "ServiceManager$Jobs") G hn hL (by decide) (by decide) rfl rfl (by decide +kernel) rfl rfl (p1 := 357) (by decide +kernel) (p2 := 358) (by decide +kernel) (p3 := 180) (by decide +kernel) (p4 := 359) (by decide +kernel) (p5 := 360) (by decide +kernel) (p6 := 361) (by decide +kernel) ⟨by decide +kernel, by decide +kernel⟩ ug_dJobs (c_init_Jobs l D cA (n + 22) (n + 22 + 1)) (by decide) (by decide +kernel) gw_393 (by decide +kernel) (fun _ => rfl) (fun _ => rfl) (by exact Nat.le_of_ble_eq_true rfl) (Nat.le_of_ble_eq_true rfl) (Nat.le_of_ble_eq_true rfl) (Nat.le_of_ble_eq_true rfl) (Nat.le_of_ble_eq_true rfl) hS hlo hl.1 dc_3_27 dc_3_30 dc_3_31 dc_3_34 (fun H1 locs1 hS1 hlo1 => ?_)
  have hS : ug_St D cA n h0 3 [.ref n, .ref (n + 18), .ref (n + 22), .int 0, .int 0, .null, .null, .null, .null, .null, .null, .null, .null, .null, .null, .null, .null, .null, .int 0] ((.inr (2, ug_fSetup (n + 1)) :: ug_LSetup (n + 1)) ++ (.inr (4, ug_fTrans (n + 18 + 1)) :: ug_LTrans (n + 18 + 1)) ++ (.inr (5, ug_fJobs (n + 22 + 1)) :: ug_LJobs (n + 22 + 1))) s.heap H1 := hS1
  have hL : ((.inr (2, ug_fSetup (n + 1)) :: ug_LSetup (n + 1)) ++ (.inr (4, ug_fTrans (n + 18 + 1)) :: ug_LTrans (n + 18 + 1)) ++ (.inr (5, ug_fJobs (n + 22 + 1)) :: ug_LJobs (n + 22 + 1)) : List ug_C).length = 24 := by simp only [List.length_append, List.length_cons, List.length_nil, ug_NSetup, ug_NTrans, ug_NJobs, ug_NReader, ug_NWorld]
  have hlo : ∀ l ∈ locs1, l.base = h0 := hlo1
  refine W.widen (k := 24) (n := 609) (Nat.le_of_ble_eq_true rfl) (Nat.le_of_ble_eq_true rfl) ?_
  show W p l e (ug_room 2 37 1109) s m _ below meth c H1 locs1 24 609 _ (F0 m 37 ls [])
  refine lv_aload_n hx hb dc_3_37 rfl (lv_at hl 0 rfl) ?_
  refine lv_bipush (v := 16) hx hb dc_3_38 (by decide) ?_
  refine ug_arr (ty := .int) (atype := .int) (qq := 24) (kd := 1) (len := 16) (k := 5) (tf := .array .int) G hL (by decide) rfl (pa := 281) (by decide +kernel) rfl rfl ug_raI (by decide) (by decide +kernel) gw_401 (by decide +kernel) (fun _ => rfl) (fun _ => rfl) (by exact Nat.le_of_ble_eq_true rfl) (by decide) (by decide +kernel) (Nat.le_of_ble_eq_true rfl) (Nat.le_of_ble_eq_true rfl) (Nat.le_of_ble_eq_true rfl) hS hlo dc_3_40 dc_3_42 (fun H1 locs1 hS1 hlo1 => ?_)
  have hS : ug_St D cA n h0 3 [.ref n, .ref (n + 18), .ref (n + 22), .int 0, .int 0, .ref (n + 24), .null, .null, .null, .null, .null, .null, .null, .null, .null, .null, .null, .null, .int 0] ((.inr (2, ug_fSetup (n + 1)) :: ug_LSetup (n + 1)) ++ (.inr (4, ug_fTrans (n + 18 + 1)) :: ug_LTrans (n + 18 + 1)) ++ (.inr (5, ug_fJobs (n + 22 + 1)) :: ug_LJobs (n + 22 + 1)) ++ [.inl (1, 16, fun _ => .int 0)]) s.heap H1 := hS1
  have hL : ((.inr (2, ug_fSetup (n + 1)) :: ug_LSetup (n + 1)) ++ (.inr (4, ug_fTrans (n + 18 + 1)) :: ug_LTrans (n + 18 + 1)) ++ (.inr (5, ug_fJobs (n + 22 + 1)) :: ug_LJobs (n + 22 + 1)) ++ [.inl (1, 16, fun _ => .int 0)] : List ug_C).length = 25 := by simp only [List.length_append, List.length_cons, List.length_nil, ug_NSetup, ug_NTrans, ug_NJobs, ug_NReader, ug_NWorld]
  have hlo : ∀ l ∈ locs1, l.base = h0 := hlo1
  refine W.widen (k := 25) (n := 625) (Nat.le_of_ble_eq_true rfl) (Nat.le_of_ble_eq_true rfl) ?_
  show W p l e (ug_room 2 37 1109) s m _ below meth c H1 locs1 25 625 _ (F0 m 45 ls [])
  refine lv_aload_n hx hb dc_3_45 rfl (lv_at hl 0 rfl) ?_
  refine lv_bipush (v := 16) hx hb dc_3_46 (by decide) ?_
  refine ug_arr (ty := .int) (atype := .int) (qq := 25) (kd := 1) (len := 16) (k := 6) (tf := .array .int) G hL (by decide) rfl (pa := 281) (by decide +kernel) rfl rfl ug_raI (by decide) (by decide +kernel) gw_403 (by decide +kernel) (fun _ => rfl) (fun _ => rfl) (by exact Nat.le_of_ble_eq_true rfl) (by decide) (by decide +kernel) (Nat.le_of_ble_eq_true rfl) (Nat.le_of_ble_eq_true rfl) (Nat.le_of_ble_eq_true rfl) hS hlo dc_3_48 dc_3_50 (fun H1 locs1 hS1 hlo1 => ?_)
  have hS : ug_St D cA n h0 3 [.ref n, .ref (n + 18), .ref (n + 22), .int 0, .int 0, .ref (n + 24), .ref (n + 25), .null, .null, .null, .null, .null, .null, .null, .null, .null, .null, .null, .int 0] ((.inr (2, ug_fSetup (n + 1)) :: ug_LSetup (n + 1)) ++ (.inr (4, ug_fTrans (n + 18 + 1)) :: ug_LTrans (n + 18 + 1)) ++ (.inr (5, ug_fJobs (n + 22 + 1)) :: ug_LJobs (n + 22 + 1)) ++ [.inl (1, 16, fun _ => .int 0)] ++ [.inl (1, 16, fun _ => .int 0)]) s.heap H1 := hS1
  have hL : ((.inr (2, ug_fSetup (n + 1)) :: ug_LSetup (n + 1)) ++ (.inr (4, ug_fTrans (n + 18 + 1)) :: ug_LTrans (n + 18 + 1)) ++ (.inr (5, ug_fJobs (n + 22 + 1)) :: ug_LJobs (n + 22 + 1)) ++ [.inl (1, 16, fun _ => .int 0)] ++ [.inl (1, 16, fun _ => .int 0)] : List ug_C).length = 26 := by simp only [List.length_append, List.length_cons, List.length_nil, ug_NSetup, ug_NTrans, ug_NJobs, ug_NReader, ug_NWorld]
  have hlo : ∀ l ∈ locs1, l.base = h0 := hlo1
  refine W.widen (k := 26) (n := 641) (Nat.le_of_ble_eq_true rfl) (Nat.le_of_ble_eq_true rfl) ?_
  show W p l e (ug_room 2 37 1109) s m _ below meth c H1 locs1 26 641 _ (F0 m 53 ls [])
  refine lv_aload_n hx hb dc_3_53 rfl (lv_at hl 0 rfl) ?_
  refine lv_bipush (v := 16) hx hb dc_3_54 (by decide) ?_
  refine ug_arr (ty := .int) (atype := .int) (qq := 26) (kd := 1) (len := 16) (k := 7) (tf := .array .int) G hL (by decide) rfl (pa := 281) (by decide +kernel) rfl rfl ug_raI (by decide) (by decide +kernel) gw_405 (by decide +kernel) (fun _ => rfl) (fun _ => rfl) (by exact Nat.le_of_ble_eq_true rfl) (by decide) (by decide +kernel) (Nat.le_of_ble_eq_true rfl) (Nat.le_of_ble_eq_true rfl) (Nat.le_of_ble_eq_true rfl) hS hlo dc_3_56 dc_3_58 (fun H1 locs1 hS1 hlo1 => ?_)
  have hS : ug_St D cA n h0 3 [.ref n, .ref (n + 18), .ref (n + 22), .int 0, .int 0, .ref (n + 24), .ref (n + 25), .ref (n + 26), .null, .null, .null, .null, .null, .null, .null, .null, .null, .null, .int 0] ((.inr (2, ug_fSetup (n + 1)) :: ug_LSetup (n + 1)) ++ (.inr (4, ug_fTrans (n + 18 + 1)) :: ug_LTrans (n + 18 + 1)) ++ (.inr (5, ug_fJobs (n + 22 + 1)) :: ug_LJobs (n + 22 + 1)) ++ [.inl (1, 16, fun _ => .int 0)] ++ [.inl (1, 16, fun _ => .int 0)] ++ [.inl (1, 16, fun _ => .int 0)]) s.heap H1 := hS1
  have hL : ((.inr (2, ug_fSetup (n + 1)) :: ug_LSetup (n + 1)) ++ (.inr (4, ug_fTrans (n + 18 + 1)) :: ug_LTrans (n + 18 + 1)) ++ (.inr (5, ug_fJobs (n + 22 + 1)) :: ug_LJobs (n + 22 + 1)) ++ [.inl (1, 16, fun _ => .int 0)] ++ [.inl (1, 16, fun _ => .int 0)] ++ [.inl (1, 16, fun _ => .int 0)] : List ug_C).length = 27 := by simp only [List.length_append, List.length_cons, List.length_nil, ug_NSetup, ug_NTrans, ug_NJobs, ug_NReader, ug_NWorld]
  have hlo : ∀ l ∈ locs1, l.base = h0 := hlo1
  refine W.widen (k := 27) (n := 657) (Nat.le_of_ble_eq_true rfl) (Nat.le_of_ble_eq_true rfl) ?_
  show W p l e (ug_room 2 37 1109) s m _ below meth c H1 locs1 27 657 _ (F0 m 61 ls [])
  refine lv_aload_n hx hb dc_3_61 rfl (lv_at hl 0 rfl) ?_
  refine lv_bipush (v := 16) hx hb dc_3_62 (by decide) ?_
  refine ug_arr (ty := .int) (atype := .int) (qq := 27) (kd := 1) (len := 16) (k := 8) (tf := .array .int) G hL (by decide) rfl (pa := 281) (by decide +kernel) rfl rfl ug_raI (by decide) (by decide +kernel) gw_407 (by decide +kernel) (fun _ => rfl) (fun _ => rfl) (by exact Nat.le_of_ble_eq_true rfl) (by decide) (by decide +kernel) (Nat.le_of_ble_eq_true rfl) (Nat.le_of_ble_eq_true rfl) (Nat.le_of_ble_eq_true rfl) hS hlo dc_3_64 dc_3_66 (fun H1 locs1 hS1 hlo1 => ?_)
  have hS : ug_St D cA n h0 3 [.ref n, .ref (n + 18), .ref (n + 22), .int 0, .int 0, .ref (n + 24), .ref (n + 25), .ref (n + 26), .ref (n + 27), .null, .null, .null, .null, .null, .null, .null, .null, .null, .int 0] ((.inr (2, ug_fSetup (n + 1)) :: ug_LSetup (n + 1)) ++ (.inr (4, ug_fTrans (n + 18 + 1)) :: ug_LTrans (n + 18 + 1)) ++ (.inr (5, ug_fJobs (n + 22 + 1)) :: ug_LJobs (n + 22 + 1)) ++ [.inl (1, 16, fun _ => .int 0)] ++ [.inl (1, 16, fun _ => .int 0)] ++ [.inl (1, 16, fun _ => .int 0)] ++ [.inl (1, 16, fun _ => .int 0)]) s.heap H1 := hS1
  have hL : ((.inr (2, ug_fSetup (n + 1)) :: ug_LSetup (n + 1)) ++ (.inr (4, ug_fTrans (n + 18 + 1)) :: ug_LTrans (n + 18 + 1)) ++ (.inr (5, ug_fJobs (n + 22 + 1)) :: ug_LJobs (n + 22 + 1)) ++ [.inl (1, 16, fun _ => .int 0)] ++ [.inl (1, 16, fun _ => .int 0)] ++ [.inl (1, 16, fun _ => .int 0)] ++ [.inl (1, 16, fun _ => .int 0)] : List ug_C).length = 28 := by simp only [List.length_append, List.length_cons, List.length_nil, ug_NSetup, ug_NTrans, ug_NJobs, ug_NReader, ug_NWorld]
  have hlo : ∀ l ∈ locs1, l.base = h0 := hlo1
  refine W.widen (k := 28) (n := 673) (Nat.le_of_ble_eq_true rfl) (Nat.le_of_ble_eq_true rfl) ?_
  show W p l e (ug_room 2 37 1109) s m _ below meth c H1 locs1 28 673 _ (F0 m 69 ls [])
  refine lv_aload_n hx hb dc_3_69 rfl (lv_at hl 0 rfl) ?_
  refine lv_bipush (v := 16) hx hb dc_3_70 (by decide) ?_
  refine ug_arr (ty := .int) (atype := .int) (qq := 28) (kd := 1) (len := 16) (k := 9) (tf := .array .int) G hL (by decide) rfl (pa := 281) (by decide +kernel) rfl rfl ug_raI (by decide) (by decide +kernel) gw_409 (by decide +kernel) (fun _ => rfl) (fun _ => rfl) (by exact Nat.le_of_ble_eq_true rfl) (by decide) (by decide +kernel) (Nat.le_of_ble_eq_true rfl) (Nat.le_of_ble_eq_true rfl) (Nat.le_of_ble_eq_true rfl) hS hlo dc_3_72 dc_3_74 (fun H1 locs1 hS1 hlo1 => ?_)
  have hS : ug_St D cA n h0 3 [.ref n, .ref (n + 18), .ref (n + 22), .int 0, .int 0, .ref (n + 24), .ref (n + 25), .ref (n + 26), .ref (n + 27), .ref (n + 28), .null, .null, .null, .null, .null, .null, .null, .null, .int 0] ((.inr (2, ug_fSetup (n + 1)) :: ug_LSetup (n + 1)) ++ (.inr (4, ug_fTrans (n + 18 + 1)) :: ug_LTrans (n + 18 + 1)) ++ (.inr (5, ug_fJobs (n + 22 + 1)) :: ug_LJobs (n + 22 + 1)) ++ [.inl (1, 16, fun _ => .int 0)] ++ [.inl (1, 16, fun _ => .int 0)] ++ [.inl (1, 16, fun _ => .int 0)] ++ [.inl (1, 16, fun _ => .int 0)] ++ [.inl (1, 16, fun _ => .int 0)]) s.heap H1 := hS1
  have hL : ((.inr (2, ug_fSetup (n + 1)) :: ug_LSetup (n + 1)) ++ (.inr (4, ug_fTrans (n + 18 + 1)) :: ug_LTrans (n + 18 + 1)) ++ (.inr (5, ug_fJobs (n + 22 + 1)) :: ug_LJobs (n + 22 + 1)) ++ [.inl (1, 16, fun _ => .int 0)] ++ [.inl (1, 16, fun _ => .int 0)] ++ [.inl (1, 16, fun _ => .int 0)] ++ [.inl (1, 16, fun _ => .int 0)] ++ [.inl (1, 16, fun _ => .int 0)] : List ug_C).length = 29 := by simp only [List.length_append, List.length_cons, List.length_nil, ug_NSetup, ug_NTrans, ug_NJobs, ug_NReader, ug_NWorld]
  have hlo : ∀ l ∈ locs1, l.base = h0 := hlo1
  refine W.widen (k := 29) (n := 689) (Nat.le_of_ble_eq_true rfl) (Nat.le_of_ble_eq_true rfl) ?_
  show W p l e (ug_room 2 37 1109) s m _ below meth c H1 locs1 29 689 _ (F0 m 77 ls [])
  refine lv_aload_n hx hb dc_3_77 rfl (lv_at hl 0 rfl) ?_
  refine lv_bipush (v := 16) hx hb dc_3_78 (by decide) ?_
  refine ug_arr (ty := .int) (atype := .int) (qq := 29) (kd := 1) (len := 16) (k := 10) (tf := .array .int) G hL (by decide) rfl (pa := 281) (by decide +kernel) rfl rfl ug_raI (by decide) (by decide +kernel) gw_410 (by decide +kernel) (fun _ => rfl) (fun _ => rfl) (by exact Nat.le_of_ble_eq_true rfl) (by decide) (by decide +kernel) (Nat.le_of_ble_eq_true rfl) (Nat.le_of_ble_eq_true rfl) (Nat.le_of_ble_eq_true rfl) hS hlo dc_3_80 dc_3_82 (fun H1 locs1 hS1 hlo1 => ?_)
  have hS : ug_St D cA n h0 3 [.ref n, .ref (n + 18), .ref (n + 22), .int 0, .int 0, .ref (n + 24), .ref (n + 25), .ref (n + 26), .ref (n + 27), .ref (n + 28), .ref (n + 29), .null, .null, .null, .null, .null, .null, .null, .int 0] ((.inr (2, ug_fSetup (n + 1)) :: ug_LSetup (n + 1)) ++ (.inr (4, ug_fTrans (n + 18 + 1)) :: ug_LTrans (n + 18 + 1)) ++ (.inr (5, ug_fJobs (n + 22 + 1)) :: ug_LJobs (n + 22 + 1)) ++ [.inl (1, 16, fun _ => .int 0)] ++ [.inl (1, 16, fun _ => .int 0)] ++ [.inl (1, 16, fun _ => .int 0)] ++ [.inl (1, 16, fun _ => .int 0)] ++ [.inl (1, 16, fun _ => .int 0)] ++ [.inl (1, 16, fun _ => .int 0)]) s.heap H1 := hS1
  have hL : ((.inr (2, ug_fSetup (n + 1)) :: ug_LSetup (n + 1)) ++ (.inr (4, ug_fTrans (n + 18 + 1)) :: ug_LTrans (n + 18 + 1)) ++ (.inr (5, ug_fJobs (n + 22 + 1)) :: ug_LJobs (n + 22 + 1)) ++ [.inl (1, 16, fun _ => .int 0)] ++ [.inl (1, 16, fun _ => .int 0)] ++ [.inl (1, 16, fun _ => .int 0)] ++ [.inl (1, 16, fun _ => .int 0)] ++ [.inl (1, 16, fun _ => .int 0)] ++ [.inl (1, 16, fun _ => .int 0)] : List ug_C).length = 30 := by simp only [List.length_append, List.length_cons, List.length_nil, ug_NSetup, ug_NTrans, ug_NJobs, ug_NReader, ug_NWorld]
  have hlo : ∀ l ∈ locs1, l.base = h0 := hlo1
  refine W.widen (k := 30) (n := 705) (Nat.le_of_ble_eq_true rfl) (Nat.le_of_ble_eq_true rfl) ?_
  show W p l e (ug_room 2 37 1109) s m _ below meth c H1 locs1 30 705 _ (F0 m 85 ls [])
  refine lv_aload_n hx hb dc_3_85 rfl (lv_at hl 0 rfl) ?_
  refine lv_sipush (v := 144) hx hb dc_3_86 (by decide) ?_
  refine ug_arr (ty := .int) (atype := .int) (qq := 30) (kd := 1) (len := 144) (k := 11) (tf := .array .int) G hL (by decide) rfl (pa := 281) (by decide +kernel) rfl rfl ug_raI (by decide) (by decide +kernel) gw_411 (by decide +kernel) (fun _ => rfl) (fun _ => rfl) (by exact Nat.le_of_ble_eq_true rfl) (by decide) (by decide +kernel) (Nat.le_of_ble_eq_true rfl) (Nat.le_of_ble_eq_true rfl) (Nat.le_of_ble_eq_true rfl) hS hlo dc_3_89 dc_3_91 (fun H1 locs1 hS1 hlo1 => ?_)
  have hS : ug_St D cA n h0 3 [.ref n, .ref (n + 18), .ref (n + 22), .int 0, .int 0, .ref (n + 24), .ref (n + 25), .ref (n + 26), .ref (n + 27), .ref (n + 28), .ref (n + 29), .ref (n + 30), .null, .null, .null, .null, .null, .null, .int 0] ((.inr (2, ug_fSetup (n + 1)) :: ug_LSetup (n + 1)) ++ (.inr (4, ug_fTrans (n + 18 + 1)) :: ug_LTrans (n + 18 + 1)) ++ (.inr (5, ug_fJobs (n + 22 + 1)) :: ug_LJobs (n + 22 + 1)) ++ [.inl (1, 16, fun _ => .int 0)] ++ [.inl (1, 16, fun _ => .int 0)] ++ [.inl (1, 16, fun _ => .int 0)] ++ [.inl (1, 16, fun _ => .int 0)] ++ [.inl (1, 16, fun _ => .int 0)] ++ [.inl (1, 16, fun _ => .int 0)] ++ [.inl (1, 144, fun _ => .int 0)]) s.heap H1 := hS1
  have hL : ((.inr (2, ug_fSetup (n + 1)) :: ug_LSetup (n + 1)) ++ (.inr (4, ug_fTrans (n + 18 + 1)) :: ug_LTrans (n + 18 + 1)) ++ (.inr (5, ug_fJobs (n + 22 + 1)) :: ug_LJobs (n + 22 + 1)) ++ [.inl (1, 16, fun _ => .int 0)] ++ [.inl (1, 16, fun _ => .int 0)] ++ [.inl (1, 16, fun _ => .int 0)] ++ [.inl (1, 16, fun _ => .int 0)] ++ [.inl (1, 16, fun _ => .int 0)] ++ [.inl (1, 16, fun _ => .int 0)] ++ [.inl (1, 144, fun _ => .int 0)] : List ug_C).length = 31 := by simp only [List.length_append, List.length_cons, List.length_nil, ug_NSetup, ug_NTrans, ug_NJobs, ug_NReader, ug_NWorld]
  have hlo : ∀ l ∈ locs1, l.base = h0 := hlo1
  refine W.widen (k := 31) (n := 849) (Nat.le_of_ble_eq_true rfl) (Nat.le_of_ble_eq_true rfl) ?_
  show W p l e (ug_room 2 37 1109) s m _ below meth c H1 locs1 31 849 _ (F0 m 94 ls [])
  refine lv_aload_n hx hb dc_3_94 rfl (lv_at hl 0 rfl) ?_
  refine lv_bipush (v := 16) hx hb dc_3_95 (by decide) ?_
  refine ug_arr (ty := .int) (atype := .int) (qq := 31) (kd := 1) (len := 16) (k := 12) (tf := .array .int) G hL (by decide) rfl (pa := 281) (by decide +kernel) rfl rfl ug_raI (by decide) (by decide +kernel) gw_412 (by decide +kernel) (fun _ => rfl) (fun _ => rfl) (by exact Nat.le_of_ble_eq_true rfl) (by decide) (by decide +kernel) (Nat.le_of_ble_eq_true rfl) (Nat.le_of_ble_eq_true rfl) (Nat.le_of_ble_eq_true rfl) hS hlo dc_3_97 dc_3_99 (fun H1 locs1 hS1 hlo1 => ?_)
  have hS : ug_St D cA n h0 3 [.ref n, .ref (n + 18), .ref (n + 22), .int 0, .int 0, .ref (n + 24), .ref (n + 25), .ref (n + 26), .ref (n + 27), .ref (n + 28), .ref (n + 29), .ref (n + 30), .ref (n + 31), .null, .null, .null, .null, .null, .int 0] ((.inr (2, ug_fSetup (n + 1)) :: ug_LSetup (n + 1)) ++ (.inr (4, ug_fTrans (n + 18 + 1)) :: ug_LTrans (n + 18 + 1)) ++ (.inr (5, ug_fJobs (n + 22 + 1)) :: ug_LJobs (n + 22 + 1)) ++ [.inl (1, 16, fun _ => .int 0)] ++ [.inl (1, 16, fun _ => .int 0)] ++ [.inl (1, 16, fun _ => .int 0)] ++ [.inl (1, 16, fun _ => .int 0)] ++ [.inl (1, 16, fun _ => .int 0)] ++ [.inl (1, 16, fun _ => .int 0)] ++ [.inl (1, 144, fun _ => .int 0)] ++ [.inl (1, 16, fun _ => .int 0)]) s.heap H1 := hS1
  have hL : ((.inr (2, ug_fSetup (n + 1)) :: ug_LSetup (n + 1)) ++ (.inr (4, ug_fTrans (n + 18 + 1)) :: ug_LTrans (n + 18 + 1)) ++ (.inr (5, ug_fJobs (n + 22 + 1)) :: ug_LJobs (n + 22 + 1)) ++ [.inl (1, 16, fun _ => .int 0)] ++ [.inl (1, 16, fun _ => .int 0)] ++ [.inl (1, 16, fun _ => .int 0)] ++ [.inl (1, 16, fun _ => .int 0)] ++ [.inl (1, 16, fun _ => .int 0)] ++ [.inl (1, 16, fun _ => .int 0)] ++ [.inl (1, 144, fun _ => .int 0)] ++ [.inl (1, 16, fun _ => .int 0)] : List ug_C).length = 32 := by simp only [List.length_append, List.length_cons, List.length_nil, ug_NSetup, ug_NTrans, ug_NJobs, ug_NReader, ug_NWorld]
  have hlo : ∀ l ∈ locs1, l.base = h0 := hlo1
  refine W.widen (k := 32) (n := 865) (Nat.le_of_ble_eq_true rfl) (Nat.le_of_ble_eq_true rfl) ?_
  show W p l e (ug_room 2 37 1109) s m _ below meth c H1 locs1 32 865 _ (F0 m 102 ls [])
  refine lv_aload_n hx hb dc_3_102 rfl (lv_at hl 0 rfl) ?_
  refine lv_bipush (v := 16) hx hb dc_3_103 (by decide) ?_
  refine ug_arr (ty := .int) (atype := .int) (qq := 32) (kd := 1) (len := 16) (k := 13) (tf := .array .int) G hL (by decide) rfl (pa := 281) (by decide +kernel) rfl rfl ug_raI (by decide) (by decide +kernel) gw_414 (by decide +kernel) (fun _ => rfl) (fun _ => rfl) (by exact Nat.le_of_ble_eq_true rfl) (by decide) (by decide +kernel) (Nat.le_of_ble_eq_true rfl) (Nat.le_of_ble_eq_true rfl) (Nat.le_of_ble_eq_true rfl) hS hlo dc_3_105 dc_3_107 (fun H1 locs1 hS1 hlo1 => ?_)
  have hS : ug_St D cA n h0 3 [.ref n, .ref (n + 18), .ref (n + 22), .int 0, .int 0, .ref (n + 24), .ref (n + 25), .ref (n + 26), .ref (n + 27), .ref (n + 28), .ref (n + 29), .ref (n + 30), .ref (n + 31), .ref (n + 32), .null, .null, .null, .null, .int 0] ((.inr (2, ug_fSetup (n + 1)) :: ug_LSetup (n + 1)) ++ (.inr (4, ug_fTrans (n + 18 + 1)) :: ug_LTrans (n + 18 + 1)) ++ (.inr (5, ug_fJobs (n + 22 + 1)) :: ug_LJobs (n + 22 + 1)) ++ [.inl (1, 16, fun _ => .int 0)] ++ [.inl (1, 16, fun _ => .int 0)] ++ [.inl (1, 16, fun _ => .int 0)] ++ [.inl (1, 16, fun _ => .int 0)] ++ [.inl (1, 16, fun _ => .int 0)] ++ [.inl (1, 16, fun _ => .int 0)] ++ [.inl (1, 144, fun _ => .int 0)] ++ [.inl (1, 16, fun _ => .int 0)] ++ [.inl (1, 16, fun _ => .int 0)]) s.heap H1 := hS1
  have hL : ((.inr (2, ug_fSetup (n + 1)) :: ug_LSetup (n + 1)) ++ (.inr (4, ug_fTrans (n + 18 + 1)) :: ug_LTrans (n + 18 + 1)) ++ (.inr (5, ug_fJobs (n + 22 + 1)) :: ug_LJobs (n + 22 + 1)) ++ [.inl (1, 16, fun _ => .int 0)] ++ [.inl (1, 16, fun _ => .int 0)] ++ [.inl (1, 16, fun _ => .int 0)] ++ [.inl (1, 16, fun _ => .int 0)] ++ [.inl (1, 16, fun _ => .int 0)] ++ [.inl (1, 16, fun _ => .int 0)] ++ [.inl (1, 144, fun _ => .int 0)] ++ [.inl (1, 16, fun _ => .int 0)] ++ [.inl (1, 16, fun _ => .int 0)] : List ug_C).length = 33 := by simp only [List.length_append, List.length_cons, List.length_nil, ug_NSetup, ug_NTrans, ug_NJobs, ug_NReader, ug_NWorld]
  have hlo : ∀ l ∈ locs1, l.base = h0 := hlo1
  refine W.widen (k := 33) (n := 881) (Nat.le_of_ble_eq_true rfl) (Nat.le_of_ble_eq_true rfl) ?_
  show W p l e (ug_room 2 37 1109) s m _ below meth c H1 locs1 33 881 _ (F0 m 110 ls [])
  refine lv_aload_n hx hb dc_3_110 rfl (lv_at hl 0 rfl) ?_
  refine lv_bipush (v := 16) hx hb dc_3_111 (by decide) ?_
  refine ug_arr (ty := .int) (atype := .int) (qq := 33) (kd := 1) (len := 16) (k := 14) (tf := .array .int) G hL (by decide) rfl (pa := 281) (by decide +kernel) rfl rfl ug_raI (by decide) (by decide +kernel) gw_416 (by decide +kernel) (fun _ => rfl) (fun _ => rfl) (by exact Nat.le_of_ble_eq_true rfl) (by decide) (by decide +kernel) (Nat.le_of_ble_eq_true rfl) (Nat.le_of_ble_eq_true rfl) (Nat.le_of_ble_eq_true rfl) hS hlo dc_3_113 dc_3_115 (fun H1 locs1 hS1 hlo1 => ?_)
  have hS : ug_St D cA n h0 3 [.ref n, .ref (n + 18), .ref (n + 22), .int 0, .int 0, .ref (n + 24), .ref (n + 25), .ref (n + 26), .ref (n + 27), .ref (n + 28), .ref (n + 29), .ref (n + 30), .ref (n + 31), .ref (n + 32), .ref (n + 33), .null, .null, .null, .int 0] ((.inr (2, ug_fSetup (n + 1)) :: ug_LSetup (n + 1)) ++ (.inr (4, ug_fTrans (n + 18 + 1)) :: ug_LTrans (n + 18 + 1)) ++ (.inr (5, ug_fJobs (n + 22 + 1)) :: ug_LJobs (n + 22 + 1)) ++ [.inl (1, 16, fun _ => .int 0)] ++ [.inl (1, 16, fun _ => .int 0)] ++ [.inl (1, 16, fun _ => .int 0)] ++ [.inl (1, 16, fun _ => .int 0)] ++ [.inl (1, 16, fun _ => .int 0)] ++ [.inl (1, 16, fun _ => .int 0)] ++ [.inl (1, 144, fun _ => .int 0)] ++ [.inl (1, 16, fun _ => .int 0)] ++ [.inl (1, 16, fun _ => .int 0)] ++ [.inl (1, 16, fun _ => .int 0)]) s.heap H1 := hS1
  have hL : ((.inr (2, ug_fSetup (n + 1)) :: ug_LSetup (n + 1)) ++ (.inr (4, ug_fTrans (n + 18 + 1)) :: ug_LTrans (n + 18 + 1)) ++ (.inr (5, ug_fJobs (n + 22 + 1)) :: ug_LJobs (n + 22 + 1)) ++ [.inl (1, 16, fun _ => .int 0)] ++ [.inl (1, 16, fun _ => .int 0)] ++ [.inl (1, 16, fun _ => .int 0)] ++ [.inl (1, 16, fun _ => .int 0)] ++ [.inl (1, 16, fun _ => .int 0)] ++ [.inl (1, 16, fun _ => .int 0)] ++ [.inl (1, 144, fun _ => .int 0)] ++ [.inl (1, 16, fun _ => .int 0)] ++ [.inl (1, 16, fun _ => .int 0)] ++ [.inl (1, 16, fun _ => .int 0)] : List ug_C).length = 34 := by simp only [List.length_append, List.length_cons, List.length_nil, ug_NSetup, ug_NTrans, ug_NJobs, ug_NReader, ug_NWorld]
  have hlo : ∀ l ∈ locs1, l.base = h0 := hlo1
  refine W.widen (k := 34) (n := 897) (Nat.le_of_ble_eq_true rfl) (Nat.le_of_ble_eq_true rfl) ?_
  show W p l e (ug_room 2 37 1109) s m _ below meth c H1 locs1 34 897 _ (F0 m 118 ls [])
  refine lv_aload_n hx hb dc_3_118 rfl (lv_at hl 0 rfl) ?_
  refine lv_bipush (v := 16) hx hb dc_3_119 (by decide) ?_
  refine ug_arr (ty := .int) (atype := .int) (qq := 34) (kd := 1) (len := 16) (k := 15) (tf := .array .int) G hL (by decide) rfl (pa := 281) (by decide +kernel) rfl rfl ug_raI (by decide) (by decide +kernel) gw_418 (by decide +kernel) (fun _ => rfl) (fun _ => rfl) (by exact Nat.le_of_ble_eq_true rfl) (by decide) (by decide +kernel) (Nat.le_of_ble_eq_true rfl) (Nat.le_of_ble_eq_true rfl) (Nat.le_of_ble_eq_true rfl) hS hlo dc_3_121 dc_3_123 (fun H1 locs1 hS1 hlo1 => ?_)
  have hS : ug_St D cA n h0 3 [.ref n, .ref (n + 18), .ref (n + 22), .int 0, .int 0, .ref (n + 24), .ref (n + 25), .ref (n + 26), .ref (n + 27), .ref (n + 28), .ref (n + 29), .ref (n + 30), .ref (n + 31), .ref (n + 32), .ref (n + 33), .ref (n + 34), .null, .null, .int 0] ((.inr (2, ug_fSetup (n + 1)) :: ug_LSetup (n + 1)) ++ (.inr (4, ug_fTrans (n + 18 + 1)) :: ug_LTrans (n + 18 + 1)) ++ (.inr (5, ug_fJobs (n + 22 + 1)) :: ug_LJobs (n + 22 + 1)) ++ [.inl (1, 16, fun _ => .int 0)] ++ [.inl (1, 16, fun _ => .int 0)] ++ [.inl (1, 16, fun _ => .int 0)] ++ [.inl (1, 16, fun _ => .int 0)] ++ [.inl (1, 16, fun _ => .int 0)] ++ [.inl (1, 16, fun _ => .int 0)] ++ [.inl (1, 144, fun _ => .int 0)] ++ [.inl (1, 16, fun _ => .int 0)] ++ [.inl (1, 16, fun _ => .int 0)] ++ [.inl (1, 16, fun _ => .int 0)] ++ [.inl (1, 16, fun _ => .int 0)]) s.heap H1 := hS1
  have hL : ((.inr (2, ug_fSetup (n + 1)) :: ug_LSetup (n + 1)) ++ (.inr (4, ug_fTrans (n + 18 + 1)) :: ug_LTrans (n + 18 + 1)) ++ (.inr (5, ug_fJobs (n + 22 + 1)) :: ug_LJobs (n + 22 + 1)) ++ [.inl (1, 16, fun _ => .int 0)] ++ [.inl (1, 16, fun _ => .int 0)] ++ [.inl (1, 16, fun _ => .int 0)] ++ [.inl (1, 16, fun _ => .int 0)] ++ [.inl (1, 16, fun _ => .int 0)] ++ [.inl (1, 16, fun _ => .int 0)] ++ [.inl (1, 144, fun _ => .int 0)] ++ [.inl (1, 16, fun _ => .int 0)] ++ [.inl (1, 16, fun _ => .int 0)] ++ [.inl (1, 16, fun _ => .int 0)] ++ [.inl (1, 16, fun _ => .int 0)] : List ug_C).length = 35 := by simp only [List.length_append, List.length_cons, List.length_nil, ug_NSetup, ug_NTrans, ug_NJobs, ug_NReader, ug_NWorld]
  have hlo : ∀ l ∈ locs1, l.base = h0 := hlo1
  refine W.widen (k := 35) (n := 913) (Nat.le_of_ble_eq_true rfl) (Nat.le_of_ble_eq_true rfl) ?_
  show W p l e (ug_room 2 37 1109) s m _ below meth c H1 locs1 35 913 _ (F0 m 126 ls [])
  refine lv_aload_n hx hb dc_3_126 rfl (lv_at hl 0 rfl) ?_
  refine lv_bipush (v := 16) hx hb dc_3_127 (by decide) ?_
  refine ug_arr (ty := .int) (atype := .int) (qq := 35) (kd := 1) (len := 16) (k := 16) (tf := .array .int) G hL (by decide) rfl (pa := 281) (by decide +kernel) rfl rfl ug_raI (by decide) (by decide +kernel) gw_420 (by decide +kernel) (fun _ => rfl) (fun _ => rfl) (by exact Nat.le_of_ble_eq_true rfl) (by decide) (by decide +kernel) (Nat.le_of_ble_eq_true rfl) (Nat.le_of_ble_eq_true rfl) (Nat.le_of_ble_eq_true rfl) hS hlo dc_3_129 dc_3_131 (fun H1 locs1 hS1 hlo1 => ?_)
  have hS : ug_St D cA n h0 3 [.ref n, .ref (n + 18), .ref (n + 22), .int 0, .int 0, .ref (n + 24), .ref (n + 25), .ref (n + 26), .ref (n + 27), .ref (n + 28), .ref (n + 29), .ref (n + 30), .ref (n + 31), .ref (n + 32), .ref (n + 33), .ref (n + 34), .ref (n + 35), .null, .int 0] ((.inr (2, ug_fSetup (n + 1)) :: ug_LSetup (n + 1)) ++ (.inr (4, ug_fTrans (n + 18 + 1)) :: ug_LTrans (n + 18 + 1)) ++ (.inr (5, ug_fJobs (n + 22 + 1)) :: ug_LJobs (n + 22 + 1)) ++ [.inl (1, 16, fun _ => .int 0)] ++ [.inl (1, 16, fun _ => .int 0)] ++ [.inl (1, 16, fun _ => .int 0)] ++ [.inl (1, 16, fun _ => .int 0)] ++ [.inl (1, 16, fun _ => .int 0)] ++ [.inl (1, 16, fun _ => .int 0)] ++ [.inl (1, 144, fun _ => .int 0)] ++ [.inl (1, 16, fun _ => .int 0)] ++ [.inl (1, 16, fun _ => .int 0)] ++ [.inl (1, 16, fun _ => .int 0)] ++ [.inl (1, 16, fun _ => .int 0)] ++ [.inl (1, 16, fun _ => .int 0)]) s.heap H1 := hS1
  have hL : ((.inr (2, ug_fSetup (n + 1)) :: ug_LSetup (n + 1)) ++ (.inr (4, ug_fTrans (n + 18 + 1)) :: ug_LTrans (n + 18 + 1)) ++ (.inr (5, ug_fJobs (n + 22 + 1)) :: ug_LJobs (n + 22 + 1)) ++ [.inl (1, 16, fun _ => .int 0)] ++ [.inl (1, 16, fun _ => .int 0)] ++ [.inl (1, 16, fun _ => .int 0)] ++ [.inl (1, 16, fun _ => .int 0)] ++ [.inl (1, 16, fun _ => .int 0)] ++ [.inl (1, 16, fun _ => .int 0)] ++ [.inl (1, 144, fun _ => .int 0)] ++ [.inl (1, 16, fun _ => .int 0)] ++ [.inl (1, 16, fun _ => .int 0)] ++ [.inl (1, 16, fun _ => .int 0)] ++ [.inl (1, 16, fun _ => .int 0)] ++ [.inl (1, 16, fun _ => .int 0)] : List ug_C).length = 36 := by simp only [List.length_append, List.length_cons, List.length_nil, ug_NSetup, ug_NTrans, ug_NJobs, ug_NReader, ug_NWorld]
  have hlo : ∀ l ∈ locs1, l.base = h0 := hlo1
  refine W.widen (k := 36) (n := 929) (Nat.le_of_ble_eq_true rfl) (Nat.le_of_ble_eq_true rfl) ?_
  show W p l e (ug_room 2 37 1109) s m _ below meth c H1 locs1 36 929 _ (F0 m 134 ls [])
  refine lv_aload_n hx hb dc_3_134 rfl (lv_at hl 0 rfl) ?_
  refine lv_sipush (v := 180) hx hb dc_3_135 (by decide) ?_
  refine ug_arr (ty := .int) (atype := .int) (qq := 36) (kd := 1) (len := 180) (k := 17) (tf := .array .int) G hL (by decide) rfl (pa := 281) (by decide +kernel) rfl rfl ug_raI (by decide) (by decide +kernel) gw_422 (by decide +kernel) (fun _ => rfl) (fun _ => rfl) (by exact Nat.le_of_ble_eq_true rfl) (by decide) (by decide +kernel) (Nat.le_of_ble_eq_true rfl) (Nat.le_of_ble_eq_true rfl) (Nat.le_of_ble_eq_true rfl) hS hlo dc_3_138 dc_3_140 (fun H1 locs1 hS1 hlo1 => ?_)
  have hS : ug_St D cA n h0 3 [.ref n, .ref (n + 18), .ref (n + 22), .int 0, .int 0, .ref (n + 24), .ref (n + 25), .ref (n + 26), .ref (n + 27), .ref (n + 28), .ref (n + 29), .ref (n + 30), .ref (n + 31), .ref (n + 32), .ref (n + 33), .ref (n + 34), .ref (n + 35), .ref (n + 36), .int 0] ((.inr (2, ug_fSetup (n + 1)) :: ug_LSetup (n + 1)) ++ (.inr (4, ug_fTrans (n + 18 + 1)) :: ug_LTrans (n + 18 + 1)) ++ (.inr (5, ug_fJobs (n + 22 + 1)) :: ug_LJobs (n + 22 + 1)) ++ [.inl (1, 16, fun _ => .int 0)] ++ [.inl (1, 16, fun _ => .int 0)] ++ [.inl (1, 16, fun _ => .int 0)] ++ [.inl (1, 16, fun _ => .int 0)] ++ [.inl (1, 16, fun _ => .int 0)] ++ [.inl (1, 16, fun _ => .int 0)] ++ [.inl (1, 144, fun _ => .int 0)] ++ [.inl (1, 16, fun _ => .int 0)] ++ [.inl (1, 16, fun _ => .int 0)] ++ [.inl (1, 16, fun _ => .int 0)] ++ [.inl (1, 16, fun _ => .int 0)] ++ [.inl (1, 16, fun _ => .int 0)] ++ [.inl (1, 180, fun _ => .int 0)]) s.heap H1 := hS1
  have hL : ((.inr (2, ug_fSetup (n + 1)) :: ug_LSetup (n + 1)) ++ (.inr (4, ug_fTrans (n + 18 + 1)) :: ug_LTrans (n + 18 + 1)) ++ (.inr (5, ug_fJobs (n + 22 + 1)) :: ug_LJobs (n + 22 + 1)) ++ [.inl (1, 16, fun _ => .int 0)] ++ [.inl (1, 16, fun _ => .int 0)] ++ [.inl (1, 16, fun _ => .int 0)] ++ [.inl (1, 16, fun _ => .int 0)] ++ [.inl (1, 16, fun _ => .int 0)] ++ [.inl (1, 16, fun _ => .int 0)] ++ [.inl (1, 144, fun _ => .int 0)] ++ [.inl (1, 16, fun _ => .int 0)] ++ [.inl (1, 16, fun _ => .int 0)] ++ [.inl (1, 16, fun _ => .int 0)] ++ [.inl (1, 16, fun _ => .int 0)] ++ [.inl (1, 16, fun _ => .int 0)] ++ [.inl (1, 180, fun _ => .int 0)] : List ug_C).length = 37 := by simp only [List.length_append, List.length_cons, List.length_nil, ug_NSetup, ug_NTrans, ug_NJobs, ug_NReader, ug_NWorld]
  have hlo : ∀ l ∈ locs1, l.base = h0 := hlo1
  refine W.widen (k := 37) (n := 1109) (Nat.le_of_ble_eq_true rfl) (Nat.le_of_ble_eq_true rfl) ?_
  show W p l e (ug_room 2 37 1109) s m _ below meth c H1 locs1 37 1109 _ (F0 m 143 ls [])
  exact W.vret (hlocks := hlocks) hx hb hr (fun t ht hW => ⟨rfl, by rw [ht]; exact hS⟩) (fun q h => hlo q h) dc_3_143
set_option maxRecDepth 20000 in
theorem c_init_SM (l : Launch) (D : va_G) (cA : Nat → ClassId) (h0 n : Nat) : ug_Met l y_0 3 173 5850 D cA 0 h0 n [.null, .int 0, .int 0, .null, .null, .null, .null, .null, .int 0, .int 0] (ug_fSM n) (ug_LSM n) := by
  refine Met.ofW (cc := y_0.2.1) (maxL := 1) (ret := none) (by decide +kernel) rfl ?_
  intro p e s m args below meth c s₁ B hml hv
  obtain ⟨rfl, hn, hlt, hob, hK⟩ := hv
  have hx := B.exec
  have hb : c.code = y_0.2.1 := B.bytes
  have hr := B.returns
  have hlocks := B.notSynchronized
  have G : ug_G y_0 p s m _ meth c D cA := ⟨B.exec, B.bytes, hml, findClass_of_methodNamed B.named, atoms_spec (ws := ux_ws y_0) B.pre, hK, (name_of_methodNamed B.named B.method).1⟩
  have hS : ug_St D cA n h0 0 [.null, .int 0, .int 0, .null, .null, .null, .null, .null, .int 0, .int 0] [] s.heap s.heap := ⟨hlt, hn, ug_P.nil, hob, fun _ _ _ => rfl⟩
  have hlo : ∀ l ∈ ([] : List Loc), l.base = h0 := fun l h => by cases h
  have hL : ([] : List ug_C).length = 0 := rfl
  have hl := lv_entry ([.ref h0]) (n := 1) (Nat.le_of_ble_eq_true rfl)
  rw [lg_entry_eq]
  generalize (lg_sl ([.ref h0]) ++ List.replicate (1 - (lg_sl ([.ref h0])).length) Slot.unset).toArray = ls at hl ⊢
  have hl : lv_has ls 1 [(0, .ref h0)] := hl
  show W p l e (ug_room 3 173 5850) s m _ below meth c s.heap [] 0 0 _ _
  refine lv_aload_n hx hb dc_0_0 rfl (lv_at hl 0 rfl) ?_
  refine W.objInit hx hb G.2.2.2.1 (G.w (pp := 199) (w := .methodLink "ServiceManager" 1 Lib.objectInit) (by decide +kernel) rfl) (G.w (pp := 200) (w := .instanceMethod Lib.objectInit) (by decide +kernel) rfl) (G.w (pp := 201) (w := .code Lib.objectInit ⟨#[0xb1]⟩ 1 none) (by decide +kernel) rfl) (g := F0 m 1 ls [.ref h0]) rfl (hl.1.trans hml.symm) (rest := []) rfl dc_0_1 (Nat.le_of_ble_eq_true rfl) (by show 2 * 0 + 0 + 12 ≤ 60 * 3 + 60; omega) ?_
  show W p l e (ug_room 3 173 5850) s m _ below meth c s.heap [] 0 0 _ (F0 m 4 ls [])
  refine lv_aload_n hx hb dc_0_4 rfl (lv_at hl 0 rfl) ?_
  refine lv_sipush (v := 800) hx hb dc_0_5 (by decide) ?_
  refine ug_arr (ty := .int) (atype := .int) (qq := 0) (kd := 1) (len := 800) (k := 0) (tf := .array .int) G hL (by decide) rfl (pa := 281) (by decide +kernel) rfl rfl ug_raI (by decide) (by decide +kernel) gw_463 (by decide +kernel) (fun _ => rfl) (fun _ => rfl) (by exact Nat.le_of_ble_eq_true rfl) (by decide) (by decide +kernel) (Nat.le_of_ble_eq_true rfl) (Nat.le_of_ble_eq_true rfl) (Nat.le_of_ble_eq_true rfl) hS hlo dc_0_8 dc_0_10 (fun H1 locs1 hS1 hlo1 => ?_)
  have hS : ug_St D cA n h0 0 [.ref n, .int 0, .int 0, .null, .null, .null, .null, .null, .int 0, .int 0] ([.inl (1, 800, fun _ => .int 0)]) s.heap H1 := hS1
  have hL : ([.inl (1, 800, fun _ => .int 0)] : List ug_C).length = 1 := by simp only [List.length_append, List.length_cons, List.length_nil, ug_NSetup, ug_NTrans, ug_NJobs, ug_NReader, ug_NWorld, ug_NSM]
  have hlo : ∀ l ∈ locs1, l.base = h0 := hlo1
  refine W.widen (k := 1) (n := 800) (Nat.le_of_ble_eq_true rfl) (Nat.le_of_ble_eq_true rfl) ?_
  show W p l e (ug_room 3 173 5850) s m _ below meth c H1 locs1 1 800 _ (F0 m 13 ls [])
  refine lv_aload_n hx hb dc_0_13 rfl (lv_at hl 0 rfl) ?_
  refine ug_new (qq := 1) (d := 2) (mc := 19) (ms := 530) (y2 := y_1) (ci2 := 1) (k := 3) (fs2 := ug_fReader (n + 1 + 1)) (L2 := ug_LReader (n + 1 + 1)) (tf := .object "ServiceManager$Reader") G hn hL (by decide) (by decide) rfl rfl (by decide +kernel) rfl rfl (p1 := 202) (by decide +kernel) (p2 := 203) (by decide +kernel) (p3 := 176) (by decide +kernel) (p4 := 204) (by decide +kernel) (p5 := 205) (by decide +kernel) (p6 := 206) (by decide +kernel) ⟨by decide +kernel, by decide +kernel⟩ ug_dReader (c_init_Reader l D cA (n + 1) (n + 1 + 1)) (by decide) (by decide +kernel) gw_466 (by decide +kernel) (fun _ => rfl) (fun _ => rfl) (by exact Nat.le_of_ble_eq_true rfl) (Nat.le_of_ble_eq_true rfl) (Nat.le_of_ble_eq_true rfl) (Nat.le_of_ble_eq_true rfl) (Nat.le_of_ble_eq_true rfl) hS hlo hl.1 dc_0_14 dc_0_17 dc_0_18 dc_0_21 (fun H1 locs1 hS1 hlo1 => ?_)
  have hS : ug_St D cA n h0 0 [.ref n, .int 0, .int 0, .ref (n + 1), .null, .null, .null, .null, .int 0, .int 0] ([.inl (1, 800, fun _ => .int 0)] ++ (.inr (1, ug_fReader (n + 1 + 1)) :: ug_LReader (n + 1 + 1))) s.heap H1 := hS1
  have hL : ([.inl (1, 800, fun _ => .int 0)] ++ (.inr (1, ug_fReader (n + 1 + 1)) :: ug_LReader (n + 1 + 1)) : List ug_C).length = 21 := by simp only [List.length_append, List.length_cons, List.length_nil, ug_NSetup, ug_NTrans, ug_NJobs, ug_NReader, ug_NWorld, ug_NSM]
  have hlo : ∀ l ∈ locs1, l.base = h0 := hlo1
  refine W.widen (k := 21) (n := 1338) (Nat.le_of_ble_eq_true rfl) (Nat.le_of_ble_eq_true rfl) ?_
  show W p l e (ug_room 3 173 5850) s m _ below meth c H1 locs1 21 1338 _ (F0 m 24 ls [])
  refine lv_aload_n hx hb dc_0_24 rfl (lv_at hl 0 rfl) ?_
  refine ug_new (qq := 21) (d := 2) (mc := 37) (ms := 1109) (y2 := y_3) (ci2 := 3) (k := 4) (fs2 := ug_fWorld (n + 21 + 1)) (L2 := ug_LWorld (n + 21 + 1)) (tf := .object "ServiceManager$World") G hn hL (by decide) (by decide) rfl rfl (by decide +kernel) rfl rfl (p1 := 310) (by decide +kernel) (p2 := 311) (by decide +kernel) (p3 := 178) (by decide +kernel) (p4 := 312) (by decide +kernel) (p5 := 313) (by decide +kernel) (p6 := 314) (by decide +kernel) ⟨by decide +kernel, by decide +kernel⟩ ug_dWorld (c_init_World l D cA (n + 21) (n + 21 + 1)) (by decide) (by decide +kernel) gw_467 (by decide +kernel) (fun _ => rfl) (fun _ => rfl) (by exact Nat.le_of_ble_eq_true rfl) (Nat.le_of_ble_eq_true rfl) (Nat.le_of_ble_eq_true rfl) (Nat.le_of_ble_eq_true rfl) (Nat.le_of_ble_eq_true rfl) hS hlo hl.1 dc_0_25 dc_0_28 dc_0_29 dc_0_32 (fun H1 locs1 hS1 hlo1 => ?_)
  have hS : ug_St D cA n h0 0 [.ref n, .int 0, .int 0, .ref (n + 1), .ref (n + 21), .null, .null, .null, .int 0, .int 0] ([.inl (1, 800, fun _ => .int 0)] ++ (.inr (1, ug_fReader (n + 1 + 1)) :: ug_LReader (n + 1 + 1)) ++ (.inr (3, ug_fWorld (n + 21 + 1)) :: ug_LWorld (n + 21 + 1))) s.heap H1 := hS1
  have hL : ([.inl (1, 800, fun _ => .int 0)] ++ (.inr (1, ug_fReader (n + 1 + 1)) :: ug_LReader (n + 1 + 1)) ++ (.inr (3, ug_fWorld (n + 21 + 1)) :: ug_LWorld (n + 21 + 1)) : List ug_C).length = 59 := by simp only [List.length_append, List.length_cons, List.length_nil, ug_NSetup, ug_NTrans, ug_NJobs, ug_NReader, ug_NWorld, ug_NSM]
  have hlo : ∀ l ∈ locs1, l.base = h0 := hlo1
  refine W.widen (k := 59) (n := 2466) (Nat.le_of_ble_eq_true rfl) (Nat.le_of_ble_eq_true rfl) ?_
  show W p l e (ug_room 3 173 5850) s m _ below meth c H1 locs1 59 2466 _ (F0 m 35 ls [])
  refine lv_aload_n hx hb dc_0_35 rfl (lv_at hl 0 rfl) ?_
  refine ug_new (qq := 59) (d := 2) (mc := 37) (ms := 1109) (y2 := y_3) (ci2 := 3) (k := 5) (fs2 := ug_fWorld (n + 59 + 1)) (L2 := ug_LWorld (n + 59 + 1)) (tf := .object "ServiceManager$World") G hn hL (by decide) (by decide) rfl rfl (by decide +kernel) rfl rfl (p1 := 310) (by decide +kernel) (p2 := 311) (by decide +kernel) (p3 := 178) (by decide +kernel) (p4 := 312) (by decide +kernel) (p5 := 313) (by decide +kernel) (p6 := 314) (by decide +kernel) ⟨by decide +kernel, by decide +kernel⟩ ug_dWorld (c_init_World l D cA (n + 59) (n + 59 + 1)) (by decide) (by decide +kernel) gw_468 (by decide +kernel) (fun _ => rfl) (fun _ => rfl) (by exact Nat.le_of_ble_eq_true rfl) (Nat.le_of_ble_eq_true rfl) (Nat.le_of_ble_eq_true rfl) (Nat.le_of_ble_eq_true rfl) (Nat.le_of_ble_eq_true rfl) hS hlo hl.1 dc_0_36 dc_0_39 dc_0_40 dc_0_43 (fun H1 locs1 hS1 hlo1 => ?_)
  have hS : ug_St D cA n h0 0 [.ref n, .int 0, .int 0, .ref (n + 1), .ref (n + 21), .ref (n + 59), .null, .null, .int 0, .int 0] ([.inl (1, 800, fun _ => .int 0)] ++ (.inr (1, ug_fReader (n + 1 + 1)) :: ug_LReader (n + 1 + 1)) ++ (.inr (3, ug_fWorld (n + 21 + 1)) :: ug_LWorld (n + 21 + 1)) ++ (.inr (3, ug_fWorld (n + 59 + 1)) :: ug_LWorld (n + 59 + 1))) s.heap H1 := hS1
  have hL : ([.inl (1, 800, fun _ => .int 0)] ++ (.inr (1, ug_fReader (n + 1 + 1)) :: ug_LReader (n + 1 + 1)) ++ (.inr (3, ug_fWorld (n + 21 + 1)) :: ug_LWorld (n + 21 + 1)) ++ (.inr (3, ug_fWorld (n + 59 + 1)) :: ug_LWorld (n + 59 + 1)) : List ug_C).length = 97 := by simp only [List.length_append, List.length_cons, List.length_nil, ug_NSetup, ug_NTrans, ug_NJobs, ug_NReader, ug_NWorld, ug_NSM]
  have hlo : ∀ l ∈ locs1, l.base = h0 := hlo1
  refine W.widen (k := 97) (n := 3594) (Nat.le_of_ble_eq_true rfl) (Nat.le_of_ble_eq_true rfl) ?_
  show W p l e (ug_room 3 173 5850) s m _ below meth c H1 locs1 97 3594 _ (F0 m 46 ls [])
  refine lv_aload_n hx hb dc_0_46 rfl (lv_at hl 0 rfl) ?_
  refine ug_new (qq := 97) (d := 2) (mc := 37) (ms := 1109) (y2 := y_3) (ci2 := 3) (k := 6) (fs2 := ug_fWorld (n + 97 + 1)) (L2 := ug_LWorld (n + 97 + 1)) (tf := .object "ServiceManager$World") G hn hL (by decide) (by decide) rfl rfl (by decide +kernel) rfl rfl (p1 := 310) (by decide +kernel) (p2 := 311) (by decide +kernel) (p3 := 178) (by decide +kernel) (p4 := 312) (by decide +kernel) (p5 := 313) (by decide +kernel) (p6 := 314) (by decide +kernel) ⟨by decide +kernel, by decide +kernel⟩ ug_dWorld (c_init_World l D cA (n + 97) (n + 97 + 1)) (by decide) (by decide +kernel) gw_469 (by decide +kernel) (fun _ => rfl) (fun _ => rfl) (by exact Nat.le_of_ble_eq_true rfl) (Nat.le_of_ble_eq_true rfl) (Nat.le_of_ble_eq_true rfl) (Nat.le_of_ble_eq_true rfl) (Nat.le_of_ble_eq_true rfl) hS hlo hl.1 dc_0_47 dc_0_50 dc_0_51 dc_0_54 (fun H1 locs1 hS1 hlo1 => ?_)
  have hS : ug_St D cA n h0 0 [.ref n, .int 0, .int 0, .ref (n + 1), .ref (n + 21), .ref (n + 59), .ref (n + 97), .null, .int 0, .int 0] ([.inl (1, 800, fun _ => .int 0)] ++ (.inr (1, ug_fReader (n + 1 + 1)) :: ug_LReader (n + 1 + 1)) ++ (.inr (3, ug_fWorld (n + 21 + 1)) :: ug_LWorld (n + 21 + 1)) ++ (.inr (3, ug_fWorld (n + 59 + 1)) :: ug_LWorld (n + 59 + 1)) ++ (.inr (3, ug_fWorld (n + 97 + 1)) :: ug_LWorld (n + 97 + 1))) s.heap H1 := hS1
  have hL : ([.inl (1, 800, fun _ => .int 0)] ++ (.inr (1, ug_fReader (n + 1 + 1)) :: ug_LReader (n + 1 + 1)) ++ (.inr (3, ug_fWorld (n + 21 + 1)) :: ug_LWorld (n + 21 + 1)) ++ (.inr (3, ug_fWorld (n + 59 + 1)) :: ug_LWorld (n + 59 + 1)) ++ (.inr (3, ug_fWorld (n + 97 + 1)) :: ug_LWorld (n + 97 + 1)) : List ug_C).length = 135 := by simp only [List.length_append, List.length_cons, List.length_nil, ug_NSetup, ug_NTrans, ug_NJobs, ug_NReader, ug_NWorld, ug_NSM]
  have hlo : ∀ l ∈ locs1, l.base = h0 := hlo1
  refine W.widen (k := 135) (n := 4722) (Nat.le_of_ble_eq_true rfl) (Nat.le_of_ble_eq_true rfl) ?_
  show W p l e (ug_room 3 173 5850) s m _ below meth c H1 locs1 135 4722 _ (F0 m 57 ls [])
  refine lv_aload_n hx hb dc_0_57 rfl (lv_at hl 0 rfl) ?_
  refine ug_new (qq := 135) (d := 2) (mc := 37) (ms := 1109) (y2 := y_3) (ci2 := 3) (k := 7) (fs2 := ug_fWorld (n + 135 + 1)) (L2 := ug_LWorld (n + 135 + 1)) (tf := .object "ServiceManager$World") G hn hL (by decide) (by decide) rfl rfl (by decide +kernel) rfl rfl (p1 := 310) (by decide +kernel) (p2 := 311) (by decide +kernel) (p3 := 178) (by decide +kernel) (p4 := 312) (by decide +kernel) (p5 := 313) (by decide +kernel) (p6 := 314) (by decide +kernel) ⟨by decide +kernel, by decide +kernel⟩ ug_dWorld (c_init_World l D cA (n + 135) (n + 135 + 1)) (by decide) (by decide +kernel) gw_470 (by decide +kernel) (fun _ => rfl) (fun _ => rfl) (by exact Nat.le_of_ble_eq_true rfl) (Nat.le_of_ble_eq_true rfl) (Nat.le_of_ble_eq_true rfl) (Nat.le_of_ble_eq_true rfl) (Nat.le_of_ble_eq_true rfl) hS hlo hl.1 dc_0_58 dc_0_61 dc_0_62 dc_0_65 (fun H1 locs1 hS1 hlo1 => ?_)
  have hS : ug_St D cA n h0 0 [.ref n, .int 0, .int 0, .ref (n + 1), .ref (n + 21), .ref (n + 59), .ref (n + 97), .ref (n + 135), .int 0, .int 0] ([.inl (1, 800, fun _ => .int 0)] ++ (.inr (1, ug_fReader (n + 1 + 1)) :: ug_LReader (n + 1 + 1)) ++ (.inr (3, ug_fWorld (n + 21 + 1)) :: ug_LWorld (n + 21 + 1)) ++ (.inr (3, ug_fWorld (n + 59 + 1)) :: ug_LWorld (n + 59 + 1)) ++ (.inr (3, ug_fWorld (n + 97 + 1)) :: ug_LWorld (n + 97 + 1)) ++ (.inr (3, ug_fWorld (n + 135 + 1)) :: ug_LWorld (n + 135 + 1))) s.heap H1 := hS1
  have hL : ([.inl (1, 800, fun _ => .int 0)] ++ (.inr (1, ug_fReader (n + 1 + 1)) :: ug_LReader (n + 1 + 1)) ++ (.inr (3, ug_fWorld (n + 21 + 1)) :: ug_LWorld (n + 21 + 1)) ++ (.inr (3, ug_fWorld (n + 59 + 1)) :: ug_LWorld (n + 59 + 1)) ++ (.inr (3, ug_fWorld (n + 97 + 1)) :: ug_LWorld (n + 97 + 1)) ++ (.inr (3, ug_fWorld (n + 135 + 1)) :: ug_LWorld (n + 135 + 1)) : List ug_C).length = 173 := by simp only [List.length_append, List.length_cons, List.length_nil, ug_NSetup, ug_NTrans, ug_NJobs, ug_NReader, ug_NWorld, ug_NSM]
  have hlo : ∀ l ∈ locs1, l.base = h0 := hlo1
  refine W.widen (k := 173) (n := 5850) (Nat.le_of_ble_eq_true rfl) (Nat.le_of_ble_eq_true rfl) ?_
  show W p l e (ug_room 3 173 5850) s m _ below meth c H1 locs1 173 5850 _ (F0 m 68 ls [])
  refine lv_aload_n hx hb dc_0_68 rfl (lv_at hl 0 rfl) ?_
  refine lv_iconst (v := 0) hx hb dc_0_69 (by decide) ?_
  refine ug_set (k := 1) (ty := .int) G (by decide) (by decide) (by decide +kernel) gw_464 (by decide +kernel) rfl rfl (by exact Nat.le_of_ble_eq_true rfl) hS hlo dc_0_70 (fun H1 locs1 hS1 hlo1 => ?_)
  have hS : ug_St D cA n h0 0 [.ref n, .int 0, .int 0, .ref (n + 1), .ref (n + 21), .ref (n + 59), .ref (n + 97), .ref (n + 135), .int 0, .int 0] ([.inl (1, 800, fun _ => .int 0)] ++ (.inr (1, ug_fReader (n + 1 + 1)) :: ug_LReader (n + 1 + 1)) ++ (.inr (3, ug_fWorld (n + 21 + 1)) :: ug_LWorld (n + 21 + 1)) ++ (.inr (3, ug_fWorld (n + 59 + 1)) :: ug_LWorld (n + 59 + 1)) ++ (.inr (3, ug_fWorld (n + 97 + 1)) :: ug_LWorld (n + 97 + 1)) ++ (.inr (3, ug_fWorld (n + 135 + 1)) :: ug_LWorld (n + 135 + 1))) s.heap H1 := hS1
  have hL : ([.inl (1, 800, fun _ => .int 0)] ++ (.inr (1, ug_fReader (n + 1 + 1)) :: ug_LReader (n + 1 + 1)) ++ (.inr (3, ug_fWorld (n + 21 + 1)) :: ug_LWorld (n + 21 + 1)) ++ (.inr (3, ug_fWorld (n + 59 + 1)) :: ug_LWorld (n + 59 + 1)) ++ (.inr (3, ug_fWorld (n + 97 + 1)) :: ug_LWorld (n + 97 + 1)) ++ (.inr (3, ug_fWorld (n + 135 + 1)) :: ug_LWorld (n + 135 + 1)) : List ug_C).length = 173 := by simp only [List.length_append, List.length_cons, List.length_nil, ug_NSetup, ug_NTrans, ug_NJobs, ug_NReader, ug_NWorld, ug_NSM]
  have hlo : ∀ l ∈ locs1, l.base = h0 := hlo1
  refine W.widen (k := 173) (n := 5850) (Nat.le_of_ble_eq_true rfl) (Nat.le_of_ble_eq_true rfl) ?_
  show W p l e (ug_room 3 173 5850) s m _ below meth c H1 locs1 173 5850 _ (F0 m 73 ls [])
  refine lv_aload_n hx hb dc_0_73 rfl (lv_at hl 0 rfl) ?_
  refine lv_iconst (v := 0) hx hb dc_0_74 (by decide) ?_
  refine ug_set (k := 2) (ty := .int) G (by decide) (by decide) (by decide +kernel) gw_465 (by decide +kernel) rfl rfl (by exact Nat.le_of_ble_eq_true rfl) hS hlo dc_0_75 (fun H1 locs1 hS1 hlo1 => ?_)
  have hS : ug_St D cA n h0 0 [.ref n, .int 0, .int 0, .ref (n + 1), .ref (n + 21), .ref (n + 59), .ref (n + 97), .ref (n + 135), .int 0, .int 0] ([.inl (1, 800, fun _ => .int 0)] ++ (.inr (1, ug_fReader (n + 1 + 1)) :: ug_LReader (n + 1 + 1)) ++ (.inr (3, ug_fWorld (n + 21 + 1)) :: ug_LWorld (n + 21 + 1)) ++ (.inr (3, ug_fWorld (n + 59 + 1)) :: ug_LWorld (n + 59 + 1)) ++ (.inr (3, ug_fWorld (n + 97 + 1)) :: ug_LWorld (n + 97 + 1)) ++ (.inr (3, ug_fWorld (n + 135 + 1)) :: ug_LWorld (n + 135 + 1))) s.heap H1 := hS1
  have hL : ([.inl (1, 800, fun _ => .int 0)] ++ (.inr (1, ug_fReader (n + 1 + 1)) :: ug_LReader (n + 1 + 1)) ++ (.inr (3, ug_fWorld (n + 21 + 1)) :: ug_LWorld (n + 21 + 1)) ++ (.inr (3, ug_fWorld (n + 59 + 1)) :: ug_LWorld (n + 59 + 1)) ++ (.inr (3, ug_fWorld (n + 97 + 1)) :: ug_LWorld (n + 97 + 1)) ++ (.inr (3, ug_fWorld (n + 135 + 1)) :: ug_LWorld (n + 135 + 1)) : List ug_C).length = 173 := by simp only [List.length_append, List.length_cons, List.length_nil, ug_NSetup, ug_NTrans, ug_NJobs, ug_NReader, ug_NWorld, ug_NSM]
  have hlo : ∀ l ∈ locs1, l.base = h0 := hlo1
  refine W.widen (k := 173) (n := 5850) (Nat.le_of_ble_eq_true rfl) (Nat.le_of_ble_eq_true rfl) ?_
  show W p l e (ug_room 3 173 5850) s m _ below meth c H1 locs1 173 5850 _ (F0 m 78 ls [])
  exact W.vret (hlocks := hlocks) hx hb hr (fun t ht hW => ⟨rfl, by rw [ht]; exact hS⟩) (fun q h => hlo q h) dc_0_78
set_option maxRecDepth 20000 in
theorem c_init_Model (l : Launch) (D : va_G) (cA : Nat → ClassId) (h0 n : Nat) : ug_Met l y_145 1 12 6266 D cA 6 h0 n [.null, .null, .null, .null, .null, .null, .int 0, .null, .int 0, .int 0, .int 0, .int 0, .int 0, .int 0, .int 0, .null, .null, .null, .int 0, .int 0, .null, .null] (ug_fModel n) (ug_LModel n) := by
  refine Met.ofW (cc := y_145.2.1) (maxL := 1) (ret := none) (by decide +kernel) rfl ?_
  intro p e s m args below meth c s₁ B hml hv
  obtain ⟨rfl, hn, hlt, hob, hK⟩ := hv
  have hx := B.exec
  have hb : c.code = y_145.2.1 := B.bytes
  have hr := B.returns
  have hlocks := B.notSynchronized
  have G : ug_G y_145 p s m _ meth c D cA := ⟨B.exec, B.bytes, hml, findClass_of_methodNamed B.named, atoms_spec (ws := ux_ws y_145) B.pre, hK, (name_of_methodNamed B.named B.method).1⟩
  have hS : ug_St D cA n h0 6 [.null, .null, .null, .null, .null, .null, .int 0, .null, .int 0, .int 0, .int 0, .int 0, .int 0, .int 0, .int 0, .null, .null, .null, .int 0, .int 0, .null, .null] [] s.heap s.heap := ⟨hlt, hn, ug_P.nil, hob, fun _ _ _ => rfl⟩
  have hlo : ∀ l ∈ ([] : List Loc), l.base = h0 := fun l h => by cases h
  have hL : ([] : List ug_C).length = 0 := rfl
  have hl := lv_entry ([.ref h0]) (n := 1) (Nat.le_of_ble_eq_true rfl)
  rw [lg_entry_eq]
  generalize (lg_sl ([.ref h0]) ++ List.replicate (1 - (lg_sl ([.ref h0])).length) Slot.unset).toArray = ls at hl ⊢
  have hl : lv_has ls 1 [(0, .ref h0)] := hl
  show W p l e (ug_room 1 12 6266) s m _ below meth c s.heap [] 0 0 _ _
  refine lv_aload_n hx hb dc_145_0 rfl (lv_at hl 0 rfl) ?_
  refine W.objInit hx hb G.2.2.2.1 (G.w (pp := 1376) (w := .methodLink "ServiceManagerModel" 3 Lib.objectInit) (by decide +kernel) rfl) (G.w (pp := 200) (w := .instanceMethod Lib.objectInit) (by decide +kernel) rfl) (G.w (pp := 201) (w := .code Lib.objectInit ⟨#[0xb1]⟩ 1 none) (by decide +kernel) rfl) (g := F0 m 1 ls [.ref h0]) rfl (hl.1.trans hml.symm) (rest := []) rfl dc_145_1 (Nat.le_of_ble_eq_true rfl) (by show 2 * 0 + 0 + 12 ≤ 60 * 1 + 60; omega) ?_
  show W p l e (ug_room 1 12 6266) s m _ below meth c s.heap [] 0 0 _ (F0 m 4 ls [])
  refine lv_aload_n hx hb dc_145_4 rfl (lv_at hl 0 rfl) ?_
  refine lv_sipush (v := 1084) hx hb dc_145_5 (by decide) ?_
  refine ug_arr (ty := .int) (atype := .int) (qq := 0) (kd := 1) (len := 1084) (k := 0) (tf := .array .int) G hL (by decide) rfl (pa := 281) (by decide +kernel) rfl rfl ug_raI (by decide) (by decide +kernel) gw_1377 (by decide +kernel) (fun _ => rfl) (fun _ => rfl) (by exact Nat.le_of_ble_eq_true rfl) (by decide) (by decide +kernel) (Nat.le_of_ble_eq_true rfl) (Nat.le_of_ble_eq_true rfl) (Nat.le_of_ble_eq_true rfl) hS hlo dc_145_8 dc_145_10 (fun H1 locs1 hS1 hlo1 => ?_)
  have hS : ug_St D cA n h0 6 [.ref n, .null, .null, .null, .null, .null, .int 0, .null, .int 0, .int 0, .int 0, .int 0, .int 0, .int 0, .int 0, .null, .null, .null, .int 0, .int 0, .null, .null] ([.inl (1, 1084, fun _ => .int 0)]) s.heap H1 := hS1
  have hL : ([.inl (1, 1084, fun _ => .int 0)] : List ug_C).length = 1 := by simp only [List.length_append, List.length_cons, List.length_nil, ug_NSetup, ug_NTrans, ug_NJobs, ug_NReader, ug_NWorld, ug_NSM, ug_NModel]
  have hlo : ∀ l ∈ locs1, l.base = h0 := hlo1
  refine W.widen (k := 1) (n := 1084) (Nat.le_of_ble_eq_true rfl) (Nat.le_of_ble_eq_true rfl) ?_
  show W p l e (ug_room 1 12 6266) s m _ below meth c H1 locs1 1 1084 _ (F0 m 13 ls [])
  refine lv_aload_n hx hb dc_145_13 rfl (lv_at hl 0 rfl) ?_
  refine lv_sipush (v := 1084) hx hb dc_145_14 (by decide) ?_
  refine ug_arr (ty := .int) (atype := .int) (qq := 1) (kd := 1) (len := 1084) (k := 1) (tf := .array .int) G hL (by decide) rfl (pa := 281) (by decide +kernel) rfl rfl ug_raI (by decide) (by decide +kernel) gw_1378 (by decide +kernel) (fun _ => rfl) (fun _ => rfl) (by exact Nat.le_of_ble_eq_true rfl) (by decide) (by decide +kernel) (Nat.le_of_ble_eq_true rfl) (Nat.le_of_ble_eq_true rfl) (Nat.le_of_ble_eq_true rfl) hS hlo dc_145_17 dc_145_19 (fun H1 locs1 hS1 hlo1 => ?_)
  have hS : ug_St D cA n h0 6 [.ref n, .ref (n + 1), .null, .null, .null, .null, .int 0, .null, .int 0, .int 0, .int 0, .int 0, .int 0, .int 0, .int 0, .null, .null, .null, .int 0, .int 0, .null, .null] ([.inl (1, 1084, fun _ => .int 0)] ++ [.inl (1, 1084, fun _ => .int 0)]) s.heap H1 := hS1
  have hL : ([.inl (1, 1084, fun _ => .int 0)] ++ [.inl (1, 1084, fun _ => .int 0)] : List ug_C).length = 2 := by simp only [List.length_append, List.length_cons, List.length_nil, ug_NSetup, ug_NTrans, ug_NJobs, ug_NReader, ug_NWorld, ug_NSM, ug_NModel]
  have hlo : ∀ l ∈ locs1, l.base = h0 := hlo1
  refine W.widen (k := 2) (n := 2168) (Nat.le_of_ble_eq_true rfl) (Nat.le_of_ble_eq_true rfl) ?_
  show W p l e (ug_room 1 12 6266) s m _ below meth c H1 locs1 2 2168 _ (F0 m 22 ls [])
  refine lv_aload_n hx hb dc_145_22 rfl (lv_at hl 0 rfl) ?_
  refine lv_sipush (v := 1084) hx hb dc_145_23 (by decide) ?_
  refine ug_arr (ty := .int) (atype := .int) (qq := 2) (kd := 1) (len := 1084) (k := 2) (tf := .array .int) G hL (by decide) rfl (pa := 281) (by decide +kernel) rfl rfl ug_raI (by decide) (by decide +kernel) gw_1379 (by decide +kernel) (fun _ => rfl) (fun _ => rfl) (by exact Nat.le_of_ble_eq_true rfl) (by decide) (by decide +kernel) (Nat.le_of_ble_eq_true rfl) (Nat.le_of_ble_eq_true rfl) (Nat.le_of_ble_eq_true rfl) hS hlo dc_145_26 dc_145_28 (fun H1 locs1 hS1 hlo1 => ?_)
  have hS : ug_St D cA n h0 6 [.ref n, .ref (n + 1), .ref (n + 2), .null, .null, .null, .int 0, .null, .int 0, .int 0, .int 0, .int 0, .int 0, .int 0, .int 0, .null, .null, .null, .int 0, .int 0, .null, .null] ([.inl (1, 1084, fun _ => .int 0)] ++ [.inl (1, 1084, fun _ => .int 0)] ++ [.inl (1, 1084, fun _ => .int 0)]) s.heap H1 := hS1
  have hL : ([.inl (1, 1084, fun _ => .int 0)] ++ [.inl (1, 1084, fun _ => .int 0)] ++ [.inl (1, 1084, fun _ => .int 0)] : List ug_C).length = 3 := by simp only [List.length_append, List.length_cons, List.length_nil, ug_NSetup, ug_NTrans, ug_NJobs, ug_NReader, ug_NWorld, ug_NSM, ug_NModel]
  have hlo : ∀ l ∈ locs1, l.base = h0 := hlo1
  refine W.widen (k := 3) (n := 3252) (Nat.le_of_ble_eq_true rfl) (Nat.le_of_ble_eq_true rfl) ?_
  show W p l e (ug_room 1 12 6266) s m _ below meth c H1 locs1 3 3252 _ (F0 m 31 ls [])
  refine lv_aload_n hx hb dc_145_31 rfl (lv_at hl 0 rfl) ?_
  refine lv_sipush (v := 1084) hx hb dc_145_32 (by decide) ?_
  refine ug_arr (ty := .int) (atype := .int) (qq := 3) (kd := 1) (len := 1084) (k := 3) (tf := .array .int) G hL (by decide) rfl (pa := 281) (by decide +kernel) rfl rfl ug_raI (by decide) (by decide +kernel) gw_1380 (by decide +kernel) (fun _ => rfl) (fun _ => rfl) (by exact Nat.le_of_ble_eq_true rfl) (by decide) (by decide +kernel) (Nat.le_of_ble_eq_true rfl) (Nat.le_of_ble_eq_true rfl) (Nat.le_of_ble_eq_true rfl) hS hlo dc_145_35 dc_145_37 (fun H1 locs1 hS1 hlo1 => ?_)
  have hS : ug_St D cA n h0 6 [.ref n, .ref (n + 1), .ref (n + 2), .ref (n + 3), .null, .null, .int 0, .null, .int 0, .int 0, .int 0, .int 0, .int 0, .int 0, .int 0, .null, .null, .null, .int 0, .int 0, .null, .null] ([.inl (1, 1084, fun _ => .int 0)] ++ [.inl (1, 1084, fun _ => .int 0)] ++ [.inl (1, 1084, fun _ => .int 0)] ++ [.inl (1, 1084, fun _ => .int 0)]) s.heap H1 := hS1
  have hL : ([.inl (1, 1084, fun _ => .int 0)] ++ [.inl (1, 1084, fun _ => .int 0)] ++ [.inl (1, 1084, fun _ => .int 0)] ++ [.inl (1, 1084, fun _ => .int 0)] : List ug_C).length = 4 := by simp only [List.length_append, List.length_cons, List.length_nil, ug_NSetup, ug_NTrans, ug_NJobs, ug_NReader, ug_NWorld, ug_NSM, ug_NModel]
  have hlo : ∀ l ∈ locs1, l.base = h0 := hlo1
  refine W.widen (k := 4) (n := 4336) (Nat.le_of_ble_eq_true rfl) (Nat.le_of_ble_eq_true rfl) ?_
  show W p l e (ug_room 1 12 6266) s m _ below meth c H1 locs1 4 4336 _ (F0 m 40 ls [])
  refine lv_aload_n hx hb dc_145_40 rfl (lv_at hl 0 rfl) ?_
  refine lv_sipush (v := 1084) hx hb dc_145_41 (by decide) ?_
  refine ug_arr (ty := .int) (atype := .int) (qq := 4) (kd := 1) (len := 1084) (k := 4) (tf := .array .int) G hL (by decide) rfl (pa := 281) (by decide +kernel) rfl rfl ug_raI (by decide) (by decide +kernel) gw_1381 (by decide +kernel) (fun _ => rfl) (fun _ => rfl) (by exact Nat.le_of_ble_eq_true rfl) (by decide) (by decide +kernel) (Nat.le_of_ble_eq_true rfl) (Nat.le_of_ble_eq_true rfl) (Nat.le_of_ble_eq_true rfl) hS hlo dc_145_44 dc_145_46 (fun H1 locs1 hS1 hlo1 => ?_)
  have hS : ug_St D cA n h0 6 [.ref n, .ref (n + 1), .ref (n + 2), .ref (n + 3), .ref (n + 4), .null, .int 0, .null, .int 0, .int 0, .int 0, .int 0, .int 0, .int 0, .int 0, .null, .null, .null, .int 0, .int 0, .null, .null] ([.inl (1, 1084, fun _ => .int 0)] ++ [.inl (1, 1084, fun _ => .int 0)] ++ [.inl (1, 1084, fun _ => .int 0)] ++ [.inl (1, 1084, fun _ => .int 0)] ++ [.inl (1, 1084, fun _ => .int 0)]) s.heap H1 := hS1
  have hL : ([.inl (1, 1084, fun _ => .int 0)] ++ [.inl (1, 1084, fun _ => .int 0)] ++ [.inl (1, 1084, fun _ => .int 0)] ++ [.inl (1, 1084, fun _ => .int 0)] ++ [.inl (1, 1084, fun _ => .int 0)] : List ug_C).length = 5 := by simp only [List.length_append, List.length_cons, List.length_nil, ug_NSetup, ug_NTrans, ug_NJobs, ug_NReader, ug_NWorld, ug_NSM, ug_NModel]
  have hlo : ∀ l ∈ locs1, l.base = h0 := hlo1
  refine W.widen (k := 5) (n := 5420) (Nat.le_of_ble_eq_true rfl) (Nat.le_of_ble_eq_true rfl) ?_
  show W p l e (ug_room 1 12 6266) s m _ below meth c H1 locs1 5 5420 _ (F0 m 49 ls [])
  refine lv_aload_n hx hb dc_145_49 rfl (lv_at hl 0 rfl) ?_
  refine lv_iconst (v := 2) hx hb dc_145_50 (by decide) ?_
  refine ug_arr (ty := .boolean) (atype := .boolean) (qq := 5) (kd := 2) (len := 2) (k := 5) (tf := .array .boolean) G hL (by decide) rfl (pa := 1444) (by decide +kernel) rfl rfl ug_raZ (by decide) (by decide +kernel) gw_1382 (by decide +kernel) (fun _ => rfl) (fun _ => rfl) (by exact Nat.le_of_ble_eq_true rfl) (by decide) (by decide +kernel) (Nat.le_of_ble_eq_true rfl) (Nat.le_of_ble_eq_true rfl) (Nat.le_of_ble_eq_true rfl) hS hlo dc_145_51 dc_145_53 (fun H1 locs1 hS1 hlo1 => ?_)
  have hS : ug_St D cA n h0 6 [.ref n, .ref (n + 1), .ref (n + 2), .ref (n + 3), .ref (n + 4), .ref (n + 5), .int 0, .null, .int 0, .int 0, .int 0, .int 0, .int 0, .int 0, .int 0, .null, .null, .null, .int 0, .int 0, .null, .null] ([.inl (1, 1084, fun _ => .int 0)] ++ [.inl (1, 1084, fun _ => .int 0)] ++ [.inl (1, 1084, fun _ => .int 0)] ++ [.inl (1, 1084, fun _ => .int 0)] ++ [.inl (1, 1084, fun _ => .int 0)] ++ [.inl (2, 2, fun _ => .int 0)]) s.heap H1 := hS1
  have hL : ([.inl (1, 1084, fun _ => .int 0)] ++ [.inl (1, 1084, fun _ => .int 0)] ++ [.inl (1, 1084, fun _ => .int 0)] ++ [.inl (1, 1084, fun _ => .int 0)] ++ [.inl (1, 1084, fun _ => .int 0)] ++ [.inl (2, 2, fun _ => .int 0)] : List ug_C).length = 6 := by simp only [List.length_append, List.length_cons, List.length_nil, ug_NSetup, ug_NTrans, ug_NJobs, ug_NReader, ug_NWorld, ug_NSM, ug_NModel]
  have hlo : ∀ l ∈ locs1, l.base = h0 := hlo1
  refine W.widen (k := 6) (n := 5422) (Nat.le_of_ble_eq_true rfl) (Nat.le_of_ble_eq_true rfl) ?_
  show W p l e (ug_room 1 12 6266) s m _ below meth c H1 locs1 6 5422 _ (F0 m 56 ls [])
  refine lv_aload_n hx hb dc_145_56 rfl (lv_at hl 0 rfl) ?_
  refine lv_sipush (v := 800) hx hb dc_145_57 (by decide) ?_
  refine ug_arr (ty := .int) (atype := .int) (qq := 6) (kd := 1) (len := 800) (k := 7) (tf := .array .int) G hL (by decide) rfl (pa := 281) (by decide +kernel) rfl rfl ug_raI (by decide) (by decide +kernel) gw_1384 (by decide +kernel) (fun _ => rfl) (fun _ => rfl) (by exact Nat.le_of_ble_eq_true rfl) (by decide) (by decide +kernel) (Nat.le_of_ble_eq_true rfl) (Nat.le_of_ble_eq_true rfl) (Nat.le_of_ble_eq_true rfl) hS hlo dc_145_60 dc_145_62 (fun H1 locs1 hS1 hlo1 => ?_)
  have hS : ug_St D cA n h0 6 [.ref n, .ref (n + 1), .ref (n + 2), .ref (n + 3), .ref (n + 4), .ref (n + 5), .int 0, .ref (n + 6), .int 0, .int 0, .int 0, .int 0, .int 0, .int 0, .int 0, .null, .null, .null, .int 0, .int 0, .null, .null] ([.inl (1, 1084, fun _ => .int 0)] ++ [.inl (1, 1084, fun _ => .int 0)] ++ [.inl (1, 1084, fun _ => .int 0)] ++ [.inl (1, 1084, fun _ => .int 0)] ++ [.inl (1, 1084, fun _ => .int 0)] ++ [.inl (2, 2, fun _ => .int 0)] ++ [.inl (1, 800, fun _ => .int 0)]) s.heap H1 := hS1
  have hL : ([.inl (1, 1084, fun _ => .int 0)] ++ [.inl (1, 1084, fun _ => .int 0)] ++ [.inl (1, 1084, fun _ => .int 0)] ++ [.inl (1, 1084, fun _ => .int 0)] ++ [.inl (1, 1084, fun _ => .int 0)] ++ [.inl (2, 2, fun _ => .int 0)] ++ [.inl (1, 800, fun _ => .int 0)] : List ug_C).length = 7 := by simp only [List.length_append, List.length_cons, List.length_nil, ug_NSetup, ug_NTrans, ug_NJobs, ug_NReader, ug_NWorld, ug_NSM, ug_NModel]
  have hlo : ∀ l ∈ locs1, l.base = h0 := hlo1
  refine W.widen (k := 7) (n := 6222) (Nat.le_of_ble_eq_true rfl) (Nat.le_of_ble_eq_true rfl) ?_
  show W p l e (ug_room 1 12 6266) s m _ below meth c H1 locs1 7 6222 _ (F0 m 65 ls [])
  refine lv_aload_n hx hb dc_145_65 rfl (lv_at hl 0 rfl) ?_
  refine lv_iconst (v := 4) hx hb dc_145_66 (by decide) ?_
  refine ug_arr (ty := .int) (atype := .int) (qq := 7) (kd := 1) (len := 4) (k := 15) (tf := .array .int) G hL (by decide) rfl (pa := 281) (by decide +kernel) rfl rfl ug_raI (by decide) (by decide +kernel) gw_1392 (by decide +kernel) (fun _ => rfl) (fun _ => rfl) (by exact Nat.le_of_ble_eq_true rfl) (by decide) (by decide +kernel) (Nat.le_of_ble_eq_true rfl) (Nat.le_of_ble_eq_true rfl) (Nat.le_of_ble_eq_true rfl) hS hlo dc_145_67 dc_145_69 (fun H1 locs1 hS1 hlo1 => ?_)
  have hS : ug_St D cA n h0 6 [.ref n, .ref (n + 1), .ref (n + 2), .ref (n + 3), .ref (n + 4), .ref (n + 5), .int 0, .ref (n + 6), .int 0, .int 0, .int 0, .int 0, .int 0, .int 0, .int 0, .ref (n + 7), .null, .null, .int 0, .int 0, .null, .null] ([.inl (1, 1084, fun _ => .int 0)] ++ [.inl (1, 1084, fun _ => .int 0)] ++ [.inl (1, 1084, fun _ => .int 0)] ++ [.inl (1, 1084, fun _ => .int 0)] ++ [.inl (1, 1084, fun _ => .int 0)] ++ [.inl (2, 2, fun _ => .int 0)] ++ [.inl (1, 800, fun _ => .int 0)] ++ [.inl (1, 4, fun _ => .int 0)]) s.heap H1 := hS1
  have hL : ([.inl (1, 1084, fun _ => .int 0)] ++ [.inl (1, 1084, fun _ => .int 0)] ++ [.inl (1, 1084, fun _ => .int 0)] ++ [.inl (1, 1084, fun _ => .int 0)] ++ [.inl (1, 1084, fun _ => .int 0)] ++ [.inl (2, 2, fun _ => .int 0)] ++ [.inl (1, 800, fun _ => .int 0)] ++ [.inl (1, 4, fun _ => .int 0)] : List ug_C).length = 8 := by simp only [List.length_append, List.length_cons, List.length_nil, ug_NSetup, ug_NTrans, ug_NJobs, ug_NReader, ug_NWorld, ug_NSM, ug_NModel]
  have hlo : ∀ l ∈ locs1, l.base = h0 := hlo1
  refine W.widen (k := 8) (n := 6226) (Nat.le_of_ble_eq_true rfl) (Nat.le_of_ble_eq_true rfl) ?_
  show W p l e (ug_room 1 12 6266) s m _ below meth c H1 locs1 8 6226 _ (F0 m 72 ls [])
  refine lv_aload_n hx hb dc_145_72 rfl (lv_at hl 0 rfl) ?_
  refine lv_iconst (v := 4) hx hb dc_145_73 (by decide) ?_
  refine ug_arr (ty := .int) (atype := .int) (qq := 8) (kd := 1) (len := 4) (k := 16) (tf := .array .int) G hL (by decide) rfl (pa := 281) (by decide +kernel) rfl rfl ug_raI (by decide) (by decide +kernel) gw_1393 (by decide +kernel) (fun _ => rfl) (fun _ => rfl) (by exact Nat.le_of_ble_eq_true rfl) (by decide) (by decide +kernel) (Nat.le_of_ble_eq_true rfl) (Nat.le_of_ble_eq_true rfl) (Nat.le_of_ble_eq_true rfl) hS hlo dc_145_74 dc_145_76 (fun H1 locs1 hS1 hlo1 => ?_)
  have hS : ug_St D cA n h0 6 [.ref n, .ref (n + 1), .ref (n + 2), .ref (n + 3), .ref (n + 4), .ref (n + 5), .int 0, .ref (n + 6), .int 0, .int 0, .int 0, .int 0, .int 0, .int 0, .int 0, .ref (n + 7), .ref (n + 8), .null, .int 0, .int 0, .null, .null] ([.inl (1, 1084, fun _ => .int 0)] ++ [.inl (1, 1084, fun _ => .int 0)] ++ [.inl (1, 1084, fun _ => .int 0)] ++ [.inl (1, 1084, fun _ => .int 0)] ++ [.inl (1, 1084, fun _ => .int 0)] ++ [.inl (2, 2, fun _ => .int 0)] ++ [.inl (1, 800, fun _ => .int 0)] ++ [.inl (1, 4, fun _ => .int 0)] ++ [.inl (1, 4, fun _ => .int 0)]) s.heap H1 := hS1
  have hL : ([.inl (1, 1084, fun _ => .int 0)] ++ [.inl (1, 1084, fun _ => .int 0)] ++ [.inl (1, 1084, fun _ => .int 0)] ++ [.inl (1, 1084, fun _ => .int 0)] ++ [.inl (1, 1084, fun _ => .int 0)] ++ [.inl (2, 2, fun _ => .int 0)] ++ [.inl (1, 800, fun _ => .int 0)] ++ [.inl (1, 4, fun _ => .int 0)] ++ [.inl (1, 4, fun _ => .int 0)] : List ug_C).length = 9 := by simp only [List.length_append, List.length_cons, List.length_nil, ug_NSetup, ug_NTrans, ug_NJobs, ug_NReader, ug_NWorld, ug_NSM, ug_NModel]
  have hlo : ∀ l ∈ locs1, l.base = h0 := hlo1
  refine W.widen (k := 9) (n := 6230) (Nat.le_of_ble_eq_true rfl) (Nat.le_of_ble_eq_true rfl) ?_
  show W p l e (ug_room 1 12 6266) s m _ below meth c H1 locs1 9 6230 _ (F0 m 79 ls [])
  refine lv_aload_n hx hb dc_145_79 rfl (lv_at hl 0 rfl) ?_
  refine lv_iconst (v := 4) hx hb dc_145_80 (by decide) ?_
  refine ug_arr (ty := .int) (atype := .int) (qq := 9) (kd := 1) (len := 4) (k := 17) (tf := .array .int) G hL (by decide) rfl (pa := 281) (by decide +kernel) rfl rfl ug_raI (by decide) (by decide +kernel) gw_1394 (by decide +kernel) (fun _ => rfl) (fun _ => rfl) (by exact Nat.le_of_ble_eq_true rfl) (by decide) (by decide +kernel) (Nat.le_of_ble_eq_true rfl) (Nat.le_of_ble_eq_true rfl) (Nat.le_of_ble_eq_true rfl) hS hlo dc_145_81 dc_145_83 (fun H1 locs1 hS1 hlo1 => ?_)
  have hS : ug_St D cA n h0 6 [.ref n, .ref (n + 1), .ref (n + 2), .ref (n + 3), .ref (n + 4), .ref (n + 5), .int 0, .ref (n + 6), .int 0, .int 0, .int 0, .int 0, .int 0, .int 0, .int 0, .ref (n + 7), .ref (n + 8), .ref (n + 9), .int 0, .int 0, .null, .null] ([.inl (1, 1084, fun _ => .int 0)] ++ [.inl (1, 1084, fun _ => .int 0)] ++ [.inl (1, 1084, fun _ => .int 0)] ++ [.inl (1, 1084, fun _ => .int 0)] ++ [.inl (1, 1084, fun _ => .int 0)] ++ [.inl (2, 2, fun _ => .int 0)] ++ [.inl (1, 800, fun _ => .int 0)] ++ [.inl (1, 4, fun _ => .int 0)] ++ [.inl (1, 4, fun _ => .int 0)] ++ [.inl (1, 4, fun _ => .int 0)]) s.heap H1 := hS1
  have hL : ([.inl (1, 1084, fun _ => .int 0)] ++ [.inl (1, 1084, fun _ => .int 0)] ++ [.inl (1, 1084, fun _ => .int 0)] ++ [.inl (1, 1084, fun _ => .int 0)] ++ [.inl (1, 1084, fun _ => .int 0)] ++ [.inl (2, 2, fun _ => .int 0)] ++ [.inl (1, 800, fun _ => .int 0)] ++ [.inl (1, 4, fun _ => .int 0)] ++ [.inl (1, 4, fun _ => .int 0)] ++ [.inl (1, 4, fun _ => .int 0)] : List ug_C).length = 10 := by simp only [List.length_append, List.length_cons, List.length_nil, ug_NSetup, ug_NTrans, ug_NJobs, ug_NReader, ug_NWorld, ug_NSM, ug_NModel]
  have hlo : ∀ l ∈ locs1, l.base = h0 := hlo1
  refine W.widen (k := 10) (n := 6234) (Nat.le_of_ble_eq_true rfl) (Nat.le_of_ble_eq_true rfl) ?_
  show W p l e (ug_room 1 12 6266) s m _ below meth c H1 locs1 10 6234 _ (F0 m 86 ls [])
  refine lv_aload_n hx hb dc_145_86 rfl (lv_at hl 0 rfl) ?_
  refine lv_bipush (v := 16) hx hb dc_145_87 (by decide) ?_
  refine ug_arr (ty := .int) (atype := .int) (qq := 10) (kd := 1) (len := 16) (k := 20) (tf := .array .int) G hL (by decide) rfl (pa := 281) (by decide +kernel) rfl rfl ug_raI (by decide) (by decide +kernel) gw_1397 (by decide +kernel) (fun _ => rfl) (fun _ => rfl) (by exact Nat.le_of_ble_eq_true rfl) (by decide) (by decide +kernel) (Nat.le_of_ble_eq_true rfl) (Nat.le_of_ble_eq_true rfl) (Nat.le_of_ble_eq_true rfl) hS hlo dc_145_89 dc_145_91 (fun H1 locs1 hS1 hlo1 => ?_)
  have hS : ug_St D cA n h0 6 [.ref n, .ref (n + 1), .ref (n + 2), .ref (n + 3), .ref (n + 4), .ref (n + 5), .int 0, .ref (n + 6), .int 0, .int 0, .int 0, .int 0, .int 0, .int 0, .int 0, .ref (n + 7), .ref (n + 8), .ref (n + 9), .int 0, .int 0, .ref (n + 10), .null] ([.inl (1, 1084, fun _ => .int 0)] ++ [.inl (1, 1084, fun _ => .int 0)] ++ [.inl (1, 1084, fun _ => .int 0)] ++ [.inl (1, 1084, fun _ => .int 0)] ++ [.inl (1, 1084, fun _ => .int 0)] ++ [.inl (2, 2, fun _ => .int 0)] ++ [.inl (1, 800, fun _ => .int 0)] ++ [.inl (1, 4, fun _ => .int 0)] ++ [.inl (1, 4, fun _ => .int 0)] ++ [.inl (1, 4, fun _ => .int 0)] ++ [.inl (1, 16, fun _ => .int 0)]) s.heap H1 := hS1
  have hL : ([.inl (1, 1084, fun _ => .int 0)] ++ [.inl (1, 1084, fun _ => .int 0)] ++ [.inl (1, 1084, fun _ => .int 0)] ++ [.inl (1, 1084, fun _ => .int 0)] ++ [.inl (1, 1084, fun _ => .int 0)] ++ [.inl (2, 2, fun _ => .int 0)] ++ [.inl (1, 800, fun _ => .int 0)] ++ [.inl (1, 4, fun _ => .int 0)] ++ [.inl (1, 4, fun _ => .int 0)] ++ [.inl (1, 4, fun _ => .int 0)] ++ [.inl (1, 16, fun _ => .int 0)] : List ug_C).length = 11 := by simp only [List.length_append, List.length_cons, List.length_nil, ug_NSetup, ug_NTrans, ug_NJobs, ug_NReader, ug_NWorld, ug_NSM, ug_NModel]
  have hlo : ∀ l ∈ locs1, l.base = h0 := hlo1
  refine W.widen (k := 11) (n := 6250) (Nat.le_of_ble_eq_true rfl) (Nat.le_of_ble_eq_true rfl) ?_
  show W p l e (ug_room 1 12 6266) s m _ below meth c H1 locs1 11 6250 _ (F0 m 94 ls [])
  refine lv_aload_n hx hb dc_145_94 rfl (lv_at hl 0 rfl) ?_
  refine lv_bipush (v := 16) hx hb dc_145_95 (by decide) ?_
  refine ug_arr (ty := .int) (atype := .int) (qq := 11) (kd := 1) (len := 16) (k := 21) (tf := .array .int) G hL (by decide) rfl (pa := 281) (by decide +kernel) rfl rfl ug_raI (by decide) (by decide +kernel) gw_1398 (by decide +kernel) (fun _ => rfl) (fun _ => rfl) (by exact Nat.le_of_ble_eq_true rfl) (by decide) (by decide +kernel) (Nat.le_of_ble_eq_true rfl) (Nat.le_of_ble_eq_true rfl) (Nat.le_of_ble_eq_true rfl) hS hlo dc_145_97 dc_145_99 (fun H1 locs1 hS1 hlo1 => ?_)
  have hS : ug_St D cA n h0 6 [.ref n, .ref (n + 1), .ref (n + 2), .ref (n + 3), .ref (n + 4), .ref (n + 5), .int 0, .ref (n + 6), .int 0, .int 0, .int 0, .int 0, .int 0, .int 0, .int 0, .ref (n + 7), .ref (n + 8), .ref (n + 9), .int 0, .int 0, .ref (n + 10), .ref (n + 11)] ([.inl (1, 1084, fun _ => .int 0)] ++ [.inl (1, 1084, fun _ => .int 0)] ++ [.inl (1, 1084, fun _ => .int 0)] ++ [.inl (1, 1084, fun _ => .int 0)] ++ [.inl (1, 1084, fun _ => .int 0)] ++ [.inl (2, 2, fun _ => .int 0)] ++ [.inl (1, 800, fun _ => .int 0)] ++ [.inl (1, 4, fun _ => .int 0)] ++ [.inl (1, 4, fun _ => .int 0)] ++ [.inl (1, 4, fun _ => .int 0)] ++ [.inl (1, 16, fun _ => .int 0)] ++ [.inl (1, 16, fun _ => .int 0)]) s.heap H1 := hS1
  have hL : ([.inl (1, 1084, fun _ => .int 0)] ++ [.inl (1, 1084, fun _ => .int 0)] ++ [.inl (1, 1084, fun _ => .int 0)] ++ [.inl (1, 1084, fun _ => .int 0)] ++ [.inl (1, 1084, fun _ => .int 0)] ++ [.inl (2, 2, fun _ => .int 0)] ++ [.inl (1, 800, fun _ => .int 0)] ++ [.inl (1, 4, fun _ => .int 0)] ++ [.inl (1, 4, fun _ => .int 0)] ++ [.inl (1, 4, fun _ => .int 0)] ++ [.inl (1, 16, fun _ => .int 0)] ++ [.inl (1, 16, fun _ => .int 0)] : List ug_C).length = 12 := by simp only [List.length_append, List.length_cons, List.length_nil, ug_NSetup, ug_NTrans, ug_NJobs, ug_NReader, ug_NWorld, ug_NSM, ug_NModel]
  have hlo : ∀ l ∈ locs1, l.base = h0 := hlo1
  refine W.widen (k := 12) (n := 6266) (Nat.le_of_ble_eq_true rfl) (Nat.le_of_ble_eq_true rfl) ?_
  show W p l e (ug_room 1 12 6266) s m _ below meth c H1 locs1 12 6266 _ (F0 m 102 ls [])
  exact W.vret (hlocks := hlocks) hx hb hr (fun t ht hW => ⟨rfl, by rw [ht]; exact hS⟩) (fun q h => hlo q h) dc_145_102
