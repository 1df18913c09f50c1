/-! THE CLAIM OUT OF ONE WALK OF THE LAW'S BODY. Your part is whole_start (and what it stands on); all else here is the same for every law, but numbers. -/
def R_law : String := "ServiceManagerLaw"
def lw_P (b : Addr) (xs : List Int32) (args : Array Value) (s : State) : Prop := args = #[.ref b] ∧ s.IntsAt b xs ∧ xs.length ≤ 2048 ∧ (Jvm.Cond.and given_1 narrow_1).before args s = true
def lw_Q (_ : Array Value) (s : State) (o : Outcome) (t : State) : Prop := o = .returned (some (.int 1)) ∧ Framed s o t [] 601024 7293034
def lw_Z (below : List Frame) (a : Array Value) (s : State) : State → Prop := fun t => ∃ o, t.status = .running ∧ Ended t below o ∧ lw_Q a s o t
/-- the law's own end, with 1 on the stack, nothing written that was there before, its room as the claim has it -/
theorem lw_ret {p : Program} {l : Launch} {e : Env} {s : State} {m : MethodId} {below : List Frame} {meth : Method} {c : Code} {b : Nat} (hx : p.tables.exec = Jvm.exec) (hb : c.code = code) (hr : meth.sig.returnType = ret) (hlocks : meth.locks = false) {pc : Nat} {H : Heap} {ls : Array Slot} (hdg : decode code pc = .ok (.ireturn, 1)) : W p l e room_1 s m #[Value.ref b] below meth c H [] 601024 7293034 (lw_Z below #[Value.ref b] s) (F0 m pc ls [.int 1]) := by
  intro T hT X
  obtain ⟨fs, hret, hrun, hended, hW, hframe⟩ := X.leave (v := some (.int 1)) (hlocks := hlocks) (fun h => by rw [hr] at h; cases h)
  have hmeth' : T.vm.method? m = some meth := X.method'
  refine ⟨T.setFrames fs, ?_, .returned (some (.int 1)), hrun, hended, rfl, ⟨_, rfl⟩, hW, hframe⟩
  jvm_step X.here [X.here.top, hx, hb, hdg, hmeth', hr, ret, narrow_b1]
  (try refine ⟨rfl, ?_⟩); (try refine ⟨rfl, ?_⟩)
  first | (intro acts; rw [hret _ acts rfl rfl rfl]) | rw [hret _ _ rfl rfl rfl]
  exact Steps.refl _
/-- what holds at the law's entry: the machine, the code, the tables' words (any of lw_tbl by 'hts w (by decide +kernel)'), the script of L ints xs at the cell b, what the Statement gives of the start (any of its parts by flat_of_before) -/
def lw_At (p : Program) (s : State) (m : MethodId) (meth : Method) (c : Code) (b L : Nat) (xs : Nat → Int32) : Prop :=
  p.tables.exec = Jvm.exec ∧ c.code = code ∧ meth.sig.returnType = ret ∧ c.maxLocals = 7 ∧ s.vm.findClass R_law = some m.cls ∧ (∀ w ∈ lw_tbl, w.before #[Value.ref b] s = true) ∧ va_X b L xs s s.heap ∧ b < s.heap.size ∧ meth.locks = false ∧ (Jvm.Cond.and given_1 narrow_1).before #[Value.ref b] s = true
/-- the law's memory: where the domain's cells lie; the words and rows that are read only -/
def fl_E (b0 aL aG : Nat) (aw : Nat → Nat) (D : va_G) (cA : Nat → ClassId) : ux_E := (fun k s r => if ux_dom k s r = true then b0 + fl_off k s r else if s = 1310806 then aL else if s = 1327190 then aG else aw (s / 16384 - 100), D, cA, fj_F (fun q => b0 ≤ q) aL aG aw)
section FLZ
variable {b0 aL aG : Nat} {aw : Nat → Nat} {D : va_G} {cA : Nat → ClassId}
theorem fl_Ed {k s r : Nat} (h : ux_dom k s r = true) : (fl_E b0 aL aG aw D cA).1 k s r = b0 + fl_off k s r := if_pos h
theorem fl_Aq {q : Nat} (h : ux_A (fl_E b0 aL aG aw D cA) q) : b0 ≤ q ∧ q < b0 + 187 := by
  obtain ⟨k, s, r, hd, rfl⟩ := h
  rw [fl_Ed hd]
  have := fl_lt hd
  omega
theorem fl_Einj : ux_inj (fl_E b0 aL aG aw D cA) := fun k s r k' s' r' h h' e => by
  rw [fl_Ed h, fl_Ed h'] at e
  exact fl_inj h h' (by omega)
theorem fl_Eclo : ux_clo (fl_E b0 aL aG aw D cA) := ⟨fun u U H H' hW hq h => (fj_F.warm hW h).kept (fun a h1 h2 => hq a h1 (fun z => h2 (fl_Aq z).1)), fun u U H hv h => fj_F.same hv h⟩
theorem fl_nd {k s r : Nat} (h : 6 ≤ s % 8) : ¬ ux_dom k s r = true := fun z => by have : s % 8 < 6 := uy_dom6 z; omega
theorem fl_Ero {U : State} {H : Heap} (h : (fl_E b0 aL aG aw D cA).2.2.2 U H) : ux_RO (fl_E b0 aL aG aw D cA) U H ∧ ux_TH (fl_E b0 aL aG aw D cA) U H := by
  have h : fj_F (fun q => b0 ≤ q) aL aG aw U H := h
  refine h.ro (fun q z => (fl_Aq z).1) ?_ ?_ (fun j hj => ?_)
  · show (if ux_dom 0 1310806 0 = true then b0 + fl_off 0 1310806 0 else if 1310806 = 1310806 then aL else if 1310806 = 1327190 then aG else aw (1310806 / 16384 - 100)) = aL
    rw [if_neg (fl_nd (by decide)), if_pos rfl]
  · show (if ux_dom 0 1327190 0 = true then b0 + fl_off 0 1327190 0 else if 1327190 = 1310806 then aL else if 1327190 = 1327190 then aG else aw (1327190 / 16384 - 100)) = aG
    rw [if_neg (fl_nd (by decide)), if_neg (by decide), if_pos rfl]
  · obtain ⟨-, e7, ej⟩ := uy_wdn hj
    show (if ux_dom 0 (ux_wd j) 0 = true then b0 + fl_off 0 (ux_wd j) 0 else if ux_wd j = 1310806 then aL else if ux_wd j = 1327190 then aG else aw (ux_wd j / 16384 - 100)) = aw j
    rw [if_neg (fl_nd (by omega)), if_neg (by omega), if_neg (by omega), ej]
end FLZ
/-- THE FIRST MEMORY is related -/
abbrev fl_M0 : ux_M := fun _ _ _ _ => 0
theorem fl_bt0 (u : Nat) : bt (0 : Int32) u = false := by
  cases h : bt (0 : Int32) u with
  | false => rfl
  | true => exact absurd h (by unfold bt; simp)
theorem fl_ST0 (k : Nat) : z_ST k 0 fl_M0 fl_M0 := by
  have hn : ∀ u : Nat, ¬ u < 0 := fun u => Nat.not_lt_zero u
  have h0 : (0 : Int32) = nI 0 := nI_0.symm
  refine ⟨0, 0, 0, by omega, by omega, ⟨⟨⟨by omega, by omega, h0, h0, h0, h0⟩, ⟨fun u hu => absurd hu (hn u), fun u _ _ => ?_⟩, fun q _ u hu => absurd hu (hn u), fun u _ => ?_, ⟨0, by omega, h0, h0, fun i hi => absurd hi (by omega)⟩, fun u hu => absurd hu (hn u)⟩, fun u hu => absurd hu (hn u)⟩, fun u hu => absurd hu (hn u)⟩
  · simp only [ite_self, implies_true, and_self]
  · have hd : decide (u < 0) = false := decide_eq_false (hn u)
    rw [hd]
    simp only [Bool.false_and]
    exact ⟨fl_bt0 u, fl_bt0 u, fl_bt0 u, fl_bt0 u, fl_bt0 u⟩
theorem fl_nd0 (k : Nat) : z_nd k fl_M0 := fun u v c hc h16 hu hv _ => by
  have : c = 0 := ((z_eq (a := 0) (b := c) (by omega) (by omega)).mp (nI_0.trans hc)).symm
  omega
theorem fl_Q0 : z_Q 0 fl_M0 := ⟨fl_ST0 0, ⟨0, by omega, nI_0.symm, nI_0.symm, fun i hi => absurd hi (by omega)⟩, ⟨rfl, fl_nd0 0⟩, ⟨rfl, .inl rfl⟩, ⟨rfl, .inl rfl⟩⟩
section FLN
variable {p : Program} {l : Launch} {e : Env} {s : State} {m : MethodId} {args : Array Value} {below : List Frame} {meth : Method} {c : Code} {H : Heap} {cells slots : Nat} {Q : State → Prop} {D : va_G} {cA : Nat → ClassId} {pc : Nat} {ls : Array Slot} {rest : List Value}
/-- a new object, its constructor -/
theorem fl_new (S : CallFix p m c code 7 s args lw_tbl fl_own) (hKg : ug_K D cA s) {y2 : ux_Y} {ci2 dd mc ms i1 i3 p1 p2 p3 p4 p5 p6 h0 : Nat} {fs0 fs2 : List Value} {L2 : List ug_C} (hci2 : ci2 < 7) (hy2 : y2.1.cls = ux_rM ci2) (hyn : y2.1.name = "<init>") (hyd : (parseMethodDescriptor y2.1.desc).map (fun d => d.parameters.length) = some 0) (hyv : y2.2.2.2 = none) (hym : y2.2.2.1 = 1)
    (w1 : lw_tbl[p1]? = some (.classLink fl_own i1 (ux_rM ci2))) (w2 : lw_tbl[p2]? = some (.instantiable (ux_rM ci2) (ux_nf ci2))) (w3 : lw_tbl[p3]? = some (.initialized y2.1.cls)) (w4 : lw_tbl[p4]? = some (.methodLink fl_own i3 y2.1)) (w5 : lw_tbl[p5]? = some (.instanceMethod y2.1)) (w6 : lw_tbl[p6]? = some (.code y2.1 y2.2.1 y2.2.2.1 y2.2.2.2)) (hnh : y2.1.cls ≠ "java/lang/invoke/MethodHandle" ∧ y2.1.cls ≠ "java/lang/invoke/VarHandle")
    (hfs0 : ∀ j, j < ux_nf ci2 → defaultValue (ux_ty ci2 j) = vp_V fs0 j) (hM : ug_Met l y2 dd mc ms D cA ci2 h0 (h0 + 1) fs0 fs2 L2) (hdd : dd ≤ 10) (hH : H.size = h0) (hsz : s.heap.size ≤ h0) (hce : cells + 1 + mc ≤ 601024) (hsl : slots + ux_nf ci2 + ms ≤ 7293034) (hls : ls.size = 7) (hcat : (rest.map fun v => v.category).sum ≤ 7)
    (hd1 : decode code pc = .ok (.new i1, 3)) (hd2 : decode code (pc + 3) = .ok (.dup, 1)) (hd3 : decode code (pc + 3 + 1) = .ok (.invokespecial i3, 3))
    (kk : ∀ H1 : Heap, H1.size = h0 + 1 + L2.length → ug_P D cA (h0 + 1) L2 H1 → t_OB h0 (D.1 ci2) (ux_nf ci2) (D.2 ci2) H1 (vp_V fs2) → (∀ q, q < h0 → H1[q]? = H[q]?) → W p l e room_1 s m args below meth c H1 [] (cells + 1 + mc) (slots + ux_nf ci2 + ms) Q (F0 m (pc + 3 + 1 + 3) ls (.ref h0 :: rest))) :
    W p l e room_1 s m args below meth c H [] cells slots Q (F0 m pc ls rest) := by
  obtain ⟨hx, hb, hml, hown, hts⟩ := id S
  have ht : ∀ {p : Nat} {w : Cond}, lw_tbl[p]? = some w → w.before args s = true := fun h => hts _ (ux_at h)
  have hKn := hKg.1.1 ci2 _ (ux_cl_at ci2 hci2)
  have hGd : GoodIn lw_tbl (ux_ws y2) := by
    intro w hwm
    rcases List.mem_cons.mp hwm with rfl | h
    · exact ⟨ux_at w6, good_of_word rfl⟩
    · exact ⟨(List.mem_filter.mp h).1, good_of_word (List.mem_filter.mp h).2⟩
  refine W.newcK hx hb hown (ht w1) (ht w2) (by rw [← hy2]; exact ht w3) (g := F0 m pc ls rest) rfl hd1 (by show cells + 1 ≤ 601024; omega) (by show slots + ux_nf ci2 ≤ 7293034; omega) hKn.2.1 hH fun Ha kC hkC e1 z1 o1 => ?_
  have hborn : t_OB h0 (D.1 ci2) (ux_nf ci2) (D.2 ci2) Ha (vp_V fs0) := (u_born (ux_ty ci2) hts (ux_lays_in ci2 hci2) hKn hkC e1 (ux_ty_ok ci2 hci2)).to hfs0
  refine lv_dup hx hb hd2 rfl ?_
  refine ug_after (y2 := y2) (a := h0) (rest := .ref h0 :: rest) hsz (va_runI (As := []) (rest := .ref h0 :: rest) S hM
    (cwI (bytes := y2.2.1) (maxL := y2.2.2.1) 0 hts hGd (by unfold ux_ws; rw [hyv]) rfl rfl (ht w3) (ht w4) (ht w5) hyn ⟨hnh.1, hnh.2, hyd⟩ ⟨by show dd + 1 ≤ 2048; omega, by show 8 + (y2.2.2.1 + 11) + (60 * dd + 60) ≤ 84000; rw [hym]; omega⟩)
    ⟨fun a U g mk q => ⟨q.1, q.2.1, q.2.2.1, q.2.2.2.1, ug_K.moved (u := U) (U := U.calling g mk a) rfl q.2.2.2.2⟩, fun U hU hW => ⟨rfl, by rw [hU, z1], by omega, by rw [hU]; exact hborn, hKg.warm hW⟩⟩ rfl rfl hls rfl (lv_room (by show 1 + (rest.map fun v => v.category).sum ≤ 8; omega)) hd3 ⟨by show cells + 1 + mc ≤ 601024; exact hce, by show slots + ux_nf ci2 + ms ≤ 7293034; exact hsl⟩) fun Hb hSb => ?_
  obtain ⟨-, g2, g3, g4, g5⟩ := hSb
  exact kk Hb g2 g3 g4 (fun q hq => (g5 q (by omega) (by omega)).trans (o1 q hq))
end FLN
/-- from the entry, for every script of at most 2048 ints, the law comes to its end with true -/
theorem whole_start {p : Program} {e : Env} {s : State} {m : MethodId} {below : List Frame} {meth : Method} {c : Code} (l : Launch) (hflags : l.flags = flags0) {b L : Nat} {xs : Nat → Int32} (hL : L ≤ 2048) (C0 : lw_At p s m meth c b L xs) : W p l e room_1 s m #[Value.ref b] below meth c s.heap [] 0 0 (lw_Z below #[Value.ref b] s) (entryFrame m ([Value.ref b] : List Value).toArray 7) := by
  obtain ⟨hx, hb, hr, hml, hown, hts, hX, hbl, hlocks, hgv⟩ := id C0
  have S : CallFix p m c code 7 s #[Value.ref b] lw_tbl fl_own := ⟨hx, hb, hml, hown, hts⟩
  have hst : l.stackTraces = false := by unfold Launch.stackTraces; rw [hflags]; decide +kernel
  obtain ⟨D, cA, hKa, hKu, hKn⟩ := fj_K hts
  obtain ⟨b0, eb0⟩ : ∃ z, z = s.heap.size := ⟨_, rfl⟩
  obtain ⟨aL, aG, aw, hF⟩ := fj_start hts hgv (D := D) hKa.1 (A := fun q => b0 ≤ q) (fun a h => by show ¬ b0 ≤ a; omega)
  have hE : ux_ROok (fl_E b0 aL aG aw D cA) ∧ ux_THok (fl_E b0 aL aG aw D cA) := ⟨fun U H h => (fl_Ero h).1, fun U H h => (fl_Ero h).2⟩
  have hK : ux_K (fl_E b0 aL aG aw D cA) s s.heap := ⟨fl_Einj, fl_Eclo, hKa, hKn, hF⟩
  have hqo : ¬ ux_A (fl_E b0 aL aG aw D cA) (b0 + 187) := fun z => by have := (fl_Aq z).2; omega
  have G : fl_G (fl_E b0 aL aG aw D cA) p s m #[Value.ref b] c b L xs (b0 + 187) := ⟨S, hK, hX, hbl, fun q z => by have := (fl_Aq z).1; omega, by omega, hqo, hL⟩
  have hl := lv_entry ([.ref b]) (n := 7) (Nat.le_of_ble_eq_true rfl)
  rw [lg_entry_eq]
  generalize (lg_sl ([.ref b]) ++ List.replicate (7 - (lg_sl ([.ref b])).length) Slot.unset).toArray = ls at hl ⊢
  have hl : lv_has ls 7 [(0, .ref b)] := hl
  show W p l e room_1 s m #[Value.ref b] below meth c s.heap [] 0 0 (lw_Z below #[Value.ref b] s) (F0 m 0 ls [])
  refine fl_new (y2 := y_0) (ci2 := 0) (p1 := 194) (p2 := 195) (p3 := 175) (p4 := 196) (p5 := 197) (p6 := 198) (h0 := b0) S ⟨hKa, hKu, hKn⟩ (by decide) rfl rfl (by decide +kernel) rfl rfl (by decide +kernel) (by decide +kernel) (by decide +kernel) (by decide +kernel) (by decide +kernel) (by decide +kernel) ⟨by decide +kernel, by decide +kernel⟩ ug_dSM (c_init_SM l D cA b0 (b0 + 1)) (by decide) eb0.symm (by omega) (Nat.le_of_ble_eq_true rfl) (Nat.le_of_ble_eq_true rfl) hl.1 (Nat.le_of_ble_eq_true rfl) dl_0 dl_3 dl_4 (fun H1 a1 a2 a3 a4 => ?_)
  rw [ug_NSM] at a1
  refine W.widen (k := 174) (n := 5860) (Nat.le_of_ble_eq_true rfl) (Nat.le_of_ble_eq_true rfl) ?_
  refine lv_astore_n (lv' := [(1, .ref b0), (0, .ref b)]) hx hb dl_7 rfl hl (by decide) rfl (fun ls hl => ?_)
  refine fl_new (y2 := y_145) (ci2 := 6) (p1 := 1371) (p2 := 1372) (p3 := 181) (p4 := 1373) (p5 := 1374) (p6 := 1375) (h0 := b0 + 174) S ⟨hKa, hKu, hKn⟩ (by decide) rfl rfl (by decide +kernel) rfl rfl (by decide +kernel) (by decide +kernel) (by decide +kernel) (by decide +kernel) (by decide +kernel) (by decide +kernel) ⟨by decide +kernel, by decide +kernel⟩ ug_dModel (c_init_Model l D cA (b0 + 174) (b0 + 174 + 1)) (by decide) (by omega) (by omega) (Nat.le_of_ble_eq_true rfl) (Nat.le_of_ble_eq_true rfl) hl.1 (Nat.le_of_ble_eq_true rfl) dl_8 dl_11 dl_12 (fun H2 c1 c2 c3 c4 => ?_)
  rw [ug_NModel] at c1
  refine W.widen (k := 187) (n := 12148) (Nat.le_of_ble_eq_true rfl) (Nat.le_of_ble_eq_true rfl) ?_
  refine lv_astore_n (lv' := [(2, .ref (b0 + 174)), (1, .ref b0), (0, .ref b)]) hx hb dl_15 rfl hl (by decide) rfl (fun ls hl => ?_)
  refine lv_iconst (v := 1) hx hb dl_16 (by decide) ?_
  refine va_newaK (atype := .long) (N := 1) (h := b0 + 187) hx hb (hts (.arrayClass .long) (ux_at (p := 2091) (by decide +kernel))) (g := F0 m 17 ls [.int 1]) rfl dl_17 (rest := []) rfl (by decide) (by decide +kernel) (Nat.le_of_ble_eq_true rfl) (Nat.le_of_ble_eq_true rfl) (Nat.le_of_ble_eq_true rfl) (by omega) fun H3 cB e1 z1 o1 _ hNm => ?_
  show W p l e room_1 s m #[Value.ref b] below meth c H3 [] 188 12149 (lw_Z below #[Value.ref b] s) (F0 m 19 ls [.ref (b0 + 187)])
  have ecB : cB = cA 3 := Option.some.inj (hNm.symm.trans (hKa.2 2 _ rfl).2)
  subst ecB
  refine lv_astore_n (lv' := [(3, .ref (b0 + 187)), (2, .ref (b0 + 174)), (1, .ref b0), (0, .ref b)]) hx hb dl_19 rfl hl (by decide) rfl (fun ls hl => ?_)
  refine lv_iconst (v := 0) hx hb dl_20 (by decide) ?_
  refine lv_istore (lv' := [(4, .int 0), (3, .ref (b0 + 187)), (2, .ref (b0 + 174)), (1, .ref b0), (0, .ref b)]) hx hb dl_21 hl (by decide) rfl (fun ls hl => ?_)
  have eSM : (fl_E b0 aL aG aw D cA).1 4 655365 0 = b0 := by rw [fl_Ed (by decide +kernel), show fl_off 4 655365 0 = 0 by decide +kernel, Nat.add_zero]
  have eMo : (fl_E b0 aL aG aw D cA).1 5 819253 0 = b0 + 174 := by rw [fl_Ed (by decide +kernel), show fl_off 5 819253 0 = 174 by decide +kernel]
  have hl5 : lv_has ls 7 (fl_L (fl_E b0 aL aG aw D cA) b (b0 + 187) 0) := by
    unfold fl_L
    rw [eSM, eMo]
    exact lv_sub hl [4, 3, 2, 1, 0] rfl
  have hP : ug_P D cA b0 (fl_rel.map (fl_sh b0)) H3 := by
    have k12 : ∀ q, q < b0 + 174 → H3[q]? = H1[q]? := fun q hq => (o1 q (by omega)).trans (c4 q hq)
    have k23 : ∀ q, q < b0 + 187 → H3[q]? = H2[q]? := fun q hq => o1 q hq
    have f1 : ug_at D cA b0 (fl_sh b0 (.inr (.inr (0, fl_oSM)))) H3 := ug_at.kept (H := H1) (by
      show t_OB b0 (D.1 0) (ux_nf 0) (D.2 0) H1 (vp_V (fl_oSM.map (fl_va b0)))
      rw [← fl_fSM]; exact a3) (k12 b0 (by omega))
    have f2 : ug_P D cA (b0 + 1) (fl_rSM.map (fl_sh b0)) H3 := by
      rw [← fl_eSM]
      exact a2.kept (fun q q1 q2 => k12 q (by rw [ug_NSM] at q2; omega))
    have f3 : ug_at D cA (b0 + 174) (fl_sh b0 (.inr (.inr (6, fl_oMo)))) H3 := ug_at.kept (H := H2) (by
      show t_OB (b0 + 174) (D.1 6) (ux_nf 6) (D.2 6) H2 (vp_V (fl_oMo.map (fl_va b0)))
      rw [← fl_fMo]; exact c3) (k23 _ (by omega))
    have f4 : ug_P D cA (b0 + 175) (fl_rMo.map (fl_sh b0)) H3 := by
      rw [← fl_eMo]
      exact c2.kept (fun q q1 q2 => k23 q (by rw [ug_NModel] at q2; omega))
    have e5 : fl_rel.map (fl_sh b0) = fl_sh b0 (.inr (.inr (0, fl_oSM))) :: (fl_rSM.map (fl_sh b0) ++ (fl_sh b0 (.inr (.inr (6, fl_oMo))) :: fl_rMo.map (fl_sh b0))) := by
      unfold fl_rel
      rw [List.map_cons, List.map_append, List.map_cons]
    rw [e5]
    have n1 : (fl_rSM.map (fl_sh b0)).length = 173 := by rw [← fl_eSM, ug_NSM]
    exact ug_P.cons f1 (f2.app (by rw [n1]; exact ug_P.cons f3 f4))
  have hV : fl_V (fl_E b0 aL aG aw D cA) s (b0 + 187) 0 fl_M0 H3 := by
    refine ⟨fl_rep (b0 := b0) (fun k s r hd => fl_Ed hd) (fun i x hi => hP i _ (by rw [List.getElem?_map, hi]; rfl)), e1, by omega, fun q h1 h2 => ?_, fun l h => by cases h⟩
    rw [o1 q (by omega), c4 q (by omega), a4 q (by omega)]
  refine W.widen (k := 188 + 0) (n := 12149 + 6 * 0) (by omega) (by omega) ?_
  exact fl_loop G (ux_spec_ok hE.1) hE.2 hst (fun H9 ls9 => lv_iconst (v := 1) hx hb dl_3031 (by decide) (lw_ret hx hb hr hlocks dl_3032)) L 0 H3 fl_M0 0 ls (by omega) (by omega) hV fl_Q0 hl5
set_option maxHeartbeats 4000000 in
theorem lw_walk (l : Launch) (hflags : l.flags = flags0) (b : Addr) (xs : List Int32) : MetFree l x (headSpec (Jvm.Cond.code x code maxLocals ret :: tables_1) room_1) (lw_P b xs) (fun _ _ _ _ _ => True) lw_Q := by
  refine MetFree.of_bodyS (code := code) (maxLocals := maxLocals) (ret := ret) (by decide) ?_ ?_
  · intro args s m h hn
    obtain ⟨meth, c, h1, h2, h3, h4, h5, h6, -, -⟩ := Cond.code_spec hn (atoms_spec (ws := Jvm.Cond.code x code maxLocals ret :: tables_1) h _ List.mem_cons_self)
    exact ⟨meth, c, h1, h2, h3, h4, h5, h6⟩
  · intro p e s m args below meth c s₁ B hml0 hP _
    obtain ⟨rfl, hx, hbd, hgv⟩ := hP
    obtain ⟨scr, harrAt, hlist, hof, hsmall⟩ := hx
    obtain ⟨hcb, hkn, -, -⟩ := State.arrayAt?_spec harrAt
    have hown : s.vm.findClass R_law = some m.cls := findClass_of_methodNamed B.named
    have hts0 : ∀ c ∈ (Jvm.Cond.code x code maxLocals ret :: tables_1), c.before #[Value.ref b] s = true := atoms_spec (ws := Jvm.Cond.code x code maxLocals ret :: tables_1) B.pre
    have hts : ∀ w ∈ lw_tbl, w.before #[Value.ref b] s = true := k2_hts_sels lw_privs (fun w hw => hts0 w (List.mem_cons_of_mem _ hw)) lw_privs_ok
    have hml : c.maxLocals = 7 := B.maxLocals_eq (hts0 _ List.mem_cons_self)
    have X₀ : Stand p l e room_1 s m #[Value.ref b] below meth c s₁ [] 0 0 := Stand.of_body B
    have hh0 : s₁.heap = s.heap := by rw [B.state]; rfl
    have hsz : scr.slots.size = xs.length := by rw [← Array.length_toList, hlist, List.length_map]
    have hval : ∀ j : Nat, j < xs.length → scr.slots[j]? = some (.int (xs.getD j 0)) := fun j hj => by
      rw [← Array.getElem?_toList, hlist]
      simp [hj]
    have hbl : b < s.heap.size := (Array.getElem?_eq_some_iff.mp hcb).1
    have hX : va_X b xs.length (fun j => xs.getD j 0) s s.heap := ⟨scr, hcb, hof, hkn, hsz, hval⟩
    have K : W p l e room_1 s m #[Value.ref b] below meth c s₁.heap [] 0 0 (lw_Z below #[Value.ref b] s) (entryFrame m ([Value.ref b] : List Value).toArray 7) := by
      rw [hh0]
      exact whole_start l hflags hbd ⟨B.exec, B.bytes, B.returns, hml, hown, hts, hX, hbl, B.notSynchronized, hgv⟩
    obtain ⟨t, a1, o, b1, b2, b3⟩ := K s₁ rfl X₀
    exact ⟨t, o, a1, b1, b2, b3⟩
theorem lw_pre_spec {args : Array Value} {s : State} (h : (Jvm.Cond.and given_1 narrow_1).before args s = true) (hr : rest_1_c.before args s = true) : ∃ (b : Addr) (xs : List Int32), lw_P b xs args s := by
  have hs := flat_of_before _ h
  have hq := flat_of_before _ hr
  have hc : (Cond.count 1).before args s = true := hs _ (by decide +kernel)
  have harr : (Cond.arrayOf (.arg 0) .int).before args s = true := hs _ (by decide +kernel)
  have hle : (Cond.le (.length (.arg 0)) (.int 2048)).before args s = true := hs _ (by decide +kernel)
  have hlen : (Cond.isInt (.length (.arg 0))).before args s = true := hq _ (by decide +kernel)
  have hall : (Cond.all (.arg 0) (.isInt (.elem (.arg 0) (.index 0)))).before args s = true := hq _ (by decide +kernel)
  obtain ⟨b, xs, hb, hx⟩ := State.ints_of_pre rfl harr hlen hall
  have hsm : xs.length < 2 ^ 31 := hx.choose_spec.2.2.2
  have hev : (Term.length (.arg 0)).eval args s none [] s = some (.int xs.length.toInt32) := hx.length_eval hb
  have hv := Cond.le_ints hev (show (Term.int 2048).eval args s none [] s = some (.int 2048) from rfl)
  have hd : xs.length.toInt32 ≤ 2048 := by
    simpa [Cond.before, Cond.holds, hv] using hle
  have hN : xs.length ≤ 2048 := (Int32.ofNat_le_ofNat hsm (by decide)).mp (show Int32.ofNat xs.length ≤ Int32.ofNat 2048 from hd)
  exact ⟨b, xs, Cond.one_arg hc (show args[0]? = some (.ref b) from hb), hx, hN, h⟩
theorem lw_comes (l : Launch) (hflags : l.flags = flags0) : Comes l x (Jvm.Cond.code x code maxLocals ret :: tables_1) room_1 (fun tb e args s => Calls_1 tb e args s ∧ rest_1 tb e args s ∧ Pre_1 tb e args s)
    (fun _ _ args s o t => lw_Q args s o t) := by
  intro p e ha hc hk s m args below hf hfit hheap happ hpre
  obtain ⟨b, xs, hP⟩ := lw_pre_spec hpre.2.2 hpre.2.1
  obtain ⟨k, o, h1, h2, h3, hQ⟩ := lw_walk l hflags b xs p e ha hc hk s m args below hf ((Spec.applies_iff_loose hf).mp happ).1 hP trivial
  exact ⟨k, o, h1, h2, h3, hQ⟩
theorem lw_frame {s t : State} {o : Outcome} {args : Array Value} (h : Framed s o t [] 601024 7293034) :
    Framed s o t (fieldLocs frame_1_writes args s ++ arrayLocs frame_1_arrays args s ++ staticLocs frame_1_statics s) 601024 7293034 := h
theorem lw_limb (L : Cond) (hL : ∀ (args : Array Value) (s t : State), L.after args s (.returned (some (.int 1))) t = true) :
    ArmFor flags0 classFile x code maxLocals ret World_1 tables_1 room_1 Calls_1 rest_1 Pre_1
      (fun tb e a s o t => postC L tb e a s o t ∧ Framed s o t (fieldLocs frame_1_writes a s ++ arrayLocs frame_1_arrays a s ++ staticLocs frame_1_statics s) 601024 7293034) := by
  intro l hflags _ _ p e ha hc hk s m args below hf hfit hheap happ hpre
  obtain ⟨k, o, h1, h2, h3, rfl, hF⟩ := lw_comes l hflags p e ha hc hk s m args below hf hfit hheap happ hpre
  exact ⟨k, _, h1, h2, h3, hL args s _, lw_frame hF⟩
theorem i_vc : Claimed_1_1 ∧ Claimed_1_2 := ⟨lw_limb limb_1_1 (fun args s t => by simp [limb_1_1, Cond.after, Cond.holds, Cond.value]), lw_limb limb_1_2 (fun args s t => Cond.after_iff.mpr (by
  first | (rw [show limb_1_2 = Cond.eq .result (.int 1) from rfl, Cond.eq_ints (x := 1) (y := 1) rfl rfl]; simp; done) | (simp [limb_1_2, Cond.value, Term.eval]; done)))⟩
