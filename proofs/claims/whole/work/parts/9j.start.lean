/-! THE LAW, 5: what the tables say at its start (by hand) -/
theorem fj_arr {args : Array Value} {s : State} {ty : FieldType} (h : (Cond.arrayClass ty).before args s = true) : ∃ c, s.vm.findClass ("[" ++ ty.toString) = some c ∧ ArrOfT s c ty := by
  obtain ⟨c, k, comp, h1, h2, h3⟩ := Cond.arrayClass_spec h
  exact ⟨c, h1, fun n z => ⟨fun k h => (by cases h), k, h2, comp, h3⟩⟩
/-- the rows of rows -/
theorem fj_over {args : Array Value} {s : State} {cI : ClassId} (h : (Cond.arrayOver (.array .int)).before args s = true) (hI : s.vm.findClass ("[" ++ FieldType.int.toString) = some cI) (hA : ArrOfT s cI .int) :
    ∃ cO, um_K s cI cO ∧ ArrOfT s cO (.array .int) ∧ s.vm.findClass ("[" ++ (FieldType.array .int).toString) = some cO := by
  obtain ⟨-, kI, hkI, cc, hkindI⟩ := hA 0 (fun _ => .null)
  have hI' : s.vm.findClass (FieldType.array .int).toString = some cI := hI
  have h : (Cond.arrayOver (.array .int)).holds args s none s [] = true := h
  have e2 : "[" ++ (FieldType.array .int).toString = "[[I" := by decide +kernel
  simp only [Cond.holds, Cond.value, beq_iff_eq, hI', Option.bind_some, Option.bind_eq_some_iff, Option.map_eq_some_iff] at h
  obtain ⟨c, hi, k, hk, hb⟩ := h
  obtain ⟨hlt, hp, -⟩ := Array.findIdx?_eq_some_iff_getElem.mp hi
  have hkk : s.vm.classes[c] = k := (Array.getElem?_eq_some_iff.mp hk).2
  rw [hkk] at hp
  cases hkind : k.kind with
  | array component ty =>
    rw [hkind] at hb hp
    simp only [Bool.and_eq_true, decide_eq_true_eq] at hb
    have hp : component = cI := by simpa using hp
    exact ⟨c, ⟨by rw [← e2]; exact hb.2, k, kI, cc, hk, by rw [hkind, hp, hb.1], hkI, hkindI⟩, fun n z => ⟨fun k h => (by cases h), k, hk, cI, by rw [hkind, hp, hb.1]⟩, hb.2⟩
  | _ => rw [hkind] at hb; simp at hb
theorem fj_inst : ∀ c, c < 7 → Cond.instantiable (ux_rM c) (ux_nf c) ∈ lw_tbl := by decide +kernel
theorem fj_n (s : State) : ux_cl.length = 7 := by decide +kernel
/-- the classes -/
theorem fj_K {args : Array Value} {s : State} (hts : ∀ w ∈ lw_tbl, w.before args s = true) : ∃ (D : va_G) (cA : Nat → ClassId), va_K D ux_cl [(cA 1, .int), (cA 2, .boolean), (cA 3, .long), (cA 4, .array .int)] s ∧ um_K s (cA 1) (cA 4) ∧ ∀ w ∈ lw_tbl, ux_isNest w = true → va_Nw w s := by
  have hn : ∀ c : Nat, ∃ q : ClassId × (Nat → Nat), c < 7 → u_Kn s (ux_rM c) (ux_fM c) (ux_nf c) q.1 q.2 := by
    intro c
    by_cases hc : c < 7
    · obtain ⟨cC, iS, h⟩ := u_known hts (ux_lays_in c hc) (hts _ (fj_inst c hc))
      exact ⟨(cC, iS), fun _ => h⟩
    · exact ⟨((0 : Nat), fun _ => 0), fun z => absurd z hc⟩
  obtain ⟨f, hf⟩ := Classical.skolem.mp hn
  obtain ⟨c1, n1, a1⟩ := fj_arr (hts (.arrayClass .int) (List.mem_of_getElem? (i := 281) (by decide +kernel)))
  obtain ⟨c2, n2, a2⟩ := fj_arr (hts (.arrayClass .boolean) (List.mem_of_getElem? (i := 1444) (by decide +kernel)))
  obtain ⟨c3, n3, a3⟩ := fj_arr (hts (.arrayClass .long) (List.mem_of_getElem? (i := 2091) (by decide +kernel)))
  obtain ⟨c4, hu, a4, n4⟩ := fj_over (hts (.arrayOver (.array .int)) (List.mem_of_getElem? (i := 215) (by decide +kernel))) n1 a1
  refine ⟨(fun c => (f c).1, fun c => (f c).2), fun k => if k = 1 then c1 else if k = 2 then c2 else if k = 3 then c3 else c4, ⟨fun c q hq => ?_, fun k q hq => ?_⟩, hu, fun w hw h => ?_⟩
  · have hc : c < 7 := by have := (List.getElem?_eq_some_iff.mp hq).1; rw [fj_n s] at this; exact this
    cases (ux_cl_at c hc).symm.trans hq
    exact hf c hc
  · match k, hq with
    | 0, hq => cases hq; exact ⟨a1, n1⟩
    | 1, hq => cases hq; exact ⟨a2, n2⟩
    | 2, hq => cases hq; exact ⟨a3, n3⟩
    | 3, hq => cases hq; exact ⟨a4, n4⟩
    | k + 4, hq => cases hq
  · unfold ux_isNest at h
    split at h
    · exact va_Nw.of rfl (hts _ hw)
    · exact va_Nw.of rfl (hts _ hw)
    · cases h
def fj_r : List Nat := [93, 99, 101, 134, 136, 138, 140, 142, 144, 146, 148, 150, 161, 163, 165, 174, 176, 178, 180, 182, 184, 186]
def fj_m : List Nat := [133, 139, 141, 155, 161, 163, 165, 167, 168, 173, 175, 177, 149, 151, 153, 185, 187, 189, 191, 193, 195, 197]
def fj_rp : List Nat := [526, 579, 580, 624, 625, 626, 627, 628, 629, 630, 631, 632, 637, 638, 639, 597, 598, 599, 600, 601, 602, 603]
def fj_mp : List Nat := [1478, 1514, 1515, 1531, 1547, 1548, 1549, 1550, 1551, 1559, 1560, 1561, 1556, 1557, 1558, 1578, 1579, 1580, 1581, 1582, 1583, 1584]
abbrev fj_R : String := "ServiceManager$Reader"
abbrev fj_M : String := "ServiceManagerModel"
def fj_fl : List Cond := flatC (Jvm.Cond.and given_1 narrow_1)
abbrev fj_tR (j : Nat) : Term := .string fj_R (fj_r.getD j 0)
abbrev fj_tM (j : Nat) : Term := .string fj_M (fj_m.getD j 0)
abbrev fj_vR (j : Nat) : Term := .field (fj_tR j) "java/lang/String" "value" "[B"
theorem fj_m1 : ∀ j, j < 22 → Cond.exactly (fj_tR j) "java/lang/String" ∈ fj_fl := by decide +kernel
theorem fj_m2 : ∀ j, j < 22 → Cond.eq (.field (fj_tR j) "java/lang/String" "coder" "B") (.int 0) ∈ fj_fl := by decide +kernel
theorem fj_m3 : ∀ j, j < 22 → Cond.arrayOf (fj_vR j) .byte ∈ fj_fl := by decide +kernel
theorem fj_m4 : ∀ j, j < 22 → Cond.eq (.length (fj_vR j)) (.int (Int32.ofNat (uy_len j))) ∈ fj_fl := by decide +kernel
theorem fj_m5 : ∀ j, j < 22 → ∀ q, q < uy_len j → Cond.eq (.elem (fj_vR j) (.int (Int32.ofNat q))) (.int (nI (uy_let j q))) ∈ fj_fl := by decide +kernel
theorem fj_m6 : ∀ j, j < 22 → Cond.eq (fj_tR j) (fj_tM j) ∈ fj_fl := by decide +kernel
theorem fj_w1 : ∀ j, j < 22 → lw_tbl[fj_rp.getD j 0]? = some (.stringRef fj_R (fj_r.getD j 0) (ux_str j)) := by decide +kernel
theorem fj_w2 : ∀ j, j < 22 → lw_tbl[fj_mp.getD j 0]? = some (.stringRef fj_M (fj_m.getD j 0) (ux_str j)) := by decide +kernel
def fj_ok (w : Cond) : Bool := match w with
  | .stringRef own i tx => (List.range 22).all (fun j => !(tx == ux_str j) || ((own == fj_R && i == fj_r.getD j 0) || (own == fj_M && i == fj_m.getD j 0)))
  | _ => true
theorem fj_uq0 : lw_tbl.all fj_ok = true := by decide +kernel
theorem fj_uq {own : String} {i j p : Nat} (hj : j < 22) (h : lw_tbl[p]? = some (.stringRef own i (ux_str j))) : (own = fj_R ∧ i = fj_r.getD j 0) ∨ (own = fj_M ∧ i = fj_m.getD j 0) := by
  have h1 : fj_ok (.stringRef own i (ux_str j)) = true := List.all_eq_true.mp fj_uq0 _ (List.mem_of_getElem? h)
  have h1 : (List.range 22).all (fun q => !(ux_str j == ux_str q) || ((own == fj_R && i == fj_r.getD q 0) || (own == fj_M && i == fj_m.getD q 0))) = true := h1
  have h2 := List.all_eq_true.mp h1 j (List.mem_range.mpr hj)
  simp only [beq_self_eq_true, Bool.not_true, Bool.false_or, Bool.or_eq_true, Bool.and_eq_true, beq_iff_eq] at h2
  exact h2
theorem fj_eqr {args : Array Value} {s : State} {t1 t2 : Term} {a : Nat} (h : (Cond.eq t1 t2).before args s = true) (h1 : t1.eval args s none [] s = some (.ref a)) : t2.eval args s none [] s = some (.ref a) := by
  cases hv : t2.eval args s none [] s with
  | none => simp [Cond.before, Cond.holds, Cond.value, h1, hv] at h
  | some w =>
    simp only [Cond.before, Cond.holds, Cond.value, h1, hv] at h
    cases w <;> simp_all
/-- what is read only, its addresses told -/
def fj_F (A : Nat → Prop) (aL aG : Nat) (aw : Nat → Nat) (U : State) (H : Heap) : Prop :=
  uy_J A U H
  ∧ (va_Z "ServiceManager$Reader" "LEAST" "[I" (.ref aL) A U H ∧ va_T .int aL 10 (fun j => .int (ux_ro 1310806 j)) A U H)
  ∧ (va_Z "ServiceManager$Reader" "GREATEST" "[I" (.ref aG) A U H ∧ va_T .int aG 10 (fun j => .int (ux_ro 1327190 j)) A U H)
  ∧ (∀ j, j < 22 → ∃ t, uy_S (aw j) t (uy_len j) (fun i => nI (uy_let j i)) A U H)
  ∧ (∀ (own : String) (i j p : Nat), j < 22 → lw_tbl[p]? = some (.stringRef own i (ux_str j)) → vk_R own i (ux_str j) (aw j) U)
  ∧ (vx_Zq Bundle.tN "UNASSIGNED_STACK" Bundle.steD A U H ∧ vx_Zq Bundle.tN "SUPPRESSED_SENTINEL" Bundle.listD A U H)
  ∧ ((∃ sa, vk_R "ServiceManager" 275 "there is no such unit" sa U) ∧ ∃ sa, vk_R "ServiceManager" 282 "an argument is out of its range" sa U)
  ∧ (va_Nw (.castable fx_IO fx_IO) U ∧ va_Nw (.castable fx_IA fx_IA) U) ∧ va_Nc fx_IA fx_IO U
  ∧ va_Nw (.declares fx_dR) U ∧ va_Nw (.declares fx_dE) U ∧ va_Nw (.declares fx_dT) U
section FJA
variable {A B : Nat → Prop} {aL aG : Nat} {aw : Nat → Nat} {u U : State} {H H1 : Heap}
theorem fj_F.warm (hW : u.WarmedH U.vm) (h : fj_F A aL aG aw u H) : fj_F A aL aG aw U H := by
  obtain ⟨h1, ⟨h2, h3⟩, ⟨h4, h5⟩, h6, h7, ⟨h8, h9⟩, ⟨⟨s1, h10⟩, s2, h11⟩, ⟨h12, h13⟩, h14, h15, h16, h17⟩ := h
  have hv := hW.alike
  exact ⟨h1.moved hv, ⟨h2.moved hv, va_T.moved hv h3⟩, ⟨h4.moved hv, va_T.moved hv h5⟩, fun j hj => (h6 j hj).imp (fun t ht => ht.moved hv), fun own i j p hj hp => (h7 own i j p hj hp).warm hW, ⟨h8.moved hv, h9.moved hv⟩, ⟨⟨s1, h10.warm hW⟩, s2, h11.warm hW⟩, ⟨va_Nw.warmC hW h12, va_Nw.warmC hW h13⟩, h14.moved hv, va_Nw.warmD hW h15, va_Nw.warmD hW h16, va_Nw.warmD hW h17⟩
theorem fj_F.same (hv : u.vm = U.vm) (h : fj_F A aL aG aw u H) : fj_F A aL aG aw U H := by
  obtain ⟨h1, ⟨h2, h3⟩, ⟨h4, h5⟩, h6, h7, ⟨h8, h9⟩, ⟨⟨s1, h10⟩, s2, h11⟩, ⟨h12, h13⟩, h14, h15, h16, h17⟩ := h
  have ha : u.vm.Alike U.vm := by rw [hv]; exact Vm.Alike.refl _
  exact ⟨h1.moved ha, ⟨h2.moved ha, va_T.moved ha h3⟩, ⟨h4.moved ha, va_T.moved ha h5⟩, fun j hj => (h6 j hj).imp (fun t ht => ht.moved ha), fun own i j p hj hp => (h7 own i j p hj hp).same hv.symm, ⟨h8.moved ha, h9.moved ha⟩, ⟨⟨s1, h10.same hv.symm⟩, s2, h11.same hv.symm⟩, ⟨va_Nw.same rfl hv h12, va_Nw.same rfl hv h13⟩, h14.moved ha, va_Nw.same rfl hv h15, va_Nw.same rfl hv h16, va_Nw.same rfl hv h17⟩
theorem fj_F.kept (h : fj_F A aL aG aw U H) (hq : ∀ a : Nat, a < H.size → ¬ A a → H1[a]? = H[a]?) : fj_F A aL aG aw U H1 := by
  obtain ⟨h1, ⟨h2, h3⟩, ⟨h4, h5⟩, h6, h7, ⟨h8, h9⟩, hr⟩ := h
  exact ⟨h1.kept hq, ⟨h2.kept hq, h3.kept hq⟩, ⟨h4.kept hq, h5.kept hq⟩, fun j hj => (h6 j hj).imp (fun t ht => ht.kept hq), h7, ⟨h8.kept hq, h9.kept hq⟩, hr⟩
theorem fj_F.ro {E : ux_E} (h : fj_F A aL aG aw U H) (hA : ∀ q, ux_A E q → A q) (eL : E.1 0 1310806 0 = aL) (eG : E.1 0 1327190 0 = aG) (eW : ∀ j, j < 22 → E.1 0 (ux_wd j) 0 = aw j) : ux_RO E U H ∧ ux_TH E U H := by
  obtain ⟨h1, ⟨h2, h3⟩, ⟨h4, h5⟩, h6, h7, ⟨h8, h9⟩, h10, h12, h14, h15, h16, h17⟩ := h
  refine ⟨⟨h1.narrow hA, ?_, ?_, fun j hj => ?_, fun own i j p hj hp => ?_⟩, ⟨h8.narrow hA, h9.narrow hA⟩, h10, h12, h14, h15, h16, h17⟩
  · rw [eL]; exact ⟨h2.narrow hA, h3.narrow hA⟩
  · rw [eG]; exact ⟨h4.narrow hA, h5.narrow hA⟩
  · rw [eW j hj]; exact (h6 j hj).imp (fun t ht => ht.narrow hA)
  · rw [eW j hj]; exact h7 own i j p hj hp
end FJA
theorem fj_n1 : Cond.eq (.static "java/lang/String" "COMPACT_STRINGS" "Z") (.int 1) ∈ fj_fl ∧ Cond.isRef (.static "jdk/internal/util/Preconditions" "SIOOBE_FORMATTER" "Ljava/util/function/BiFunction;") ∈ fj_fl ∧ Cond.isRef (.static Bundle.tN "UNASSIGNED_STACK" Bundle.steD) ∈ fj_fl ∧ Cond.isRef (.static Bundle.tN "SUPPRESSED_SENTINEL" Bundle.listD) ∈ fj_fl ∧ Cond.not (.castable fx_IA fx_IO) ∈ fj_fl := by decide +kernel
theorem fj_n2 : ∀ q ∈ [("LEAST", 1310806), ("GREATEST", 1327190)], Cond.arrayOf (.static fj_R q.1 "[I") .int ∈ fj_fl ∧ Cond.eq (.length (.static fj_R q.1 "[I")) (.int (Int32.ofNat 10)) ∈ fj_fl ∧ ∀ j, j < 10 → Cond.eq (.elem (.static fj_R q.1 "[I") (.int (Int32.ofNat j))) (.int (ux_ro q.2 j)) ∈ fj_fl := by decide +kernel
/-- all that at the start -/
theorem fj_start {args : Array Value} {s : State} (hts : ∀ w ∈ lw_tbl, w.before args s = true) (hgv : (Jvm.Cond.and given_1 narrow_1).before args s = true) {D : va_G} (hK : ∀ (c : Nat) (q : vw_C), ux_cl[c]? = some q → u_Kn s q.1 q.2.1 q.2.2 (D.1 c) (D.2 c)) {A : Nat → Prop} (hA : ∀ a : Nat, a < s.heap.size → ¬ A a) :
    ∃ (aL aG : Nat) (aw : Nat → Nat), fj_F A aL aG aw s s.heap := by
  have hs : ∀ w ∈ fj_fl, w.before args s = true := flat_of_before _ hgv
  have ht : ∀ {p : Nat} {w : Cond}, lw_tbl[p]? = some w → w.before args s = true := fun h => hts _ (List.mem_of_getElem? h)
  obtain ⟨n1, n2, n3, n4, n5⟩ := fj_n1
  have hro : ∀ (n : String) (k p : Nat), (n, k) ∈ [("LEAST", 1310806), ("GREATEST", 1327190)] → lw_tbl[p]? = some (.laysStatic fj_R n "[I") → ∃ a, va_Z fj_R n "[I" (.ref a) A s s.heap ∧ va_T .int a 10 (fun j => .int (ux_ro k j)) A s s.heap := by
    intro n k p hm hp
    obtain ⟨g1, g2, g3⟩ := fj_n2 _ hm
    obtain ⟨a, e1, e2⟩ := va_Tof (N := 10) (f := fun j => .int (ux_ro k j)) (A := A) (by decide) (hs _ g1) (va_eqt (hs _ g2)) (fun j hj => va_eqt (hs _ (g3 j hj))) hA
    exact ⟨a, va_Zof (ht hp) (ht (p := 176) (w := .initialized fj_R) (by decide +kernel)) e1 hA, e2⟩
  obtain ⟨aL, hL⟩ := hro "LEAST" 1310806 645 (by decide) (by decide +kernel)
  obtain ⟨aG, hG⟩ := hro "GREATEST" 1327190 647 (by decide) (by decide +kernel)
  have hw : ∀ j : Nat, ∃ a : Nat, j < 22 → (∃ t, uy_S a t (uy_len j) (fun i => nI (uy_let j i)) A s s.heap) ∧ (fj_tR j).eval args s none [] s = some (.ref a) := by
    intro j
    by_cases hj : j < 22
    · obtain ⟨adK, adV, g1, g2⟩ := vk_Sof (args := args) (s := s) (N := 1) (tm := fun _ => fj_tR j) (len := [uy_len j]) (byt := [(ux_words.getD j []).map nI]) (A := A) (fun i hi => by
          have : i = 0 := by omega
          subst this
          have := (uy_wl j hj).1
          show uy_len j < 2 ^ 31
          omega) (fun _ _ => hs _ (fj_m1 j hj)) (fun _ _ => hs _ (fj_m2 j hj)) (fun _ _ => hs _ (fj_m3 j hj)) (fun i hi => by
          have : i = 0 := by omega
          subst this
          exact hs _ (fj_m4 j hj)) (fun i hi q hq => by
          have : i = 0 := by omega
          subst this
          have hq : q < uy_len j := hq
          have e : ((ux_words.getD j []).map nI).getD q 0 = nI (uy_let j q) := by
            have hq' : q < (ux_words.getD j []).length := hq
            unfold uy_let
            rw [List.getD_eq_getElem?_getD, List.getD_eq_getElem?_getD (l := ux_words.getD j []), List.getElem?_map, List.getElem?_eq_getElem hq']
            rfl
          show (Cond.eq (.elem (fj_vR j) (.int (Int32.ofNat q))) (.int (((ux_words.getD j []).map nI).getD q 0))).before args s = true
          rw [e]
          exact hs _ (fj_m5 j hj q hq)) (fun i k hi hk hne => absurd (by omega) hne) hA
      obtain ⟨k1, k2, k3, k4⟩ := g1.1 0 (by omega)
      refine ⟨adK 0, fun _ => ⟨⟨adV 0, k1, k2, k3, ?_⟩, g2 0 (by omega)⟩⟩
      have k4 : va_T .byte (adV 0) (uy_len j) (fun q => .int (((ux_words.getD j []).map nI).getD q 0)) A s s.heap := k4
      have e : (fun q => Value.int (((ux_words.getD j []).map nI).getD q 0)) = fun q => .int (nI (uy_let j q)) := by
        funext q
        unfold uy_let
        rw [List.getD_eq_getElem?_getD, List.getD_eq_getElem?_getD (l := ux_words.getD j []), List.getElem?_map]
        cases (ux_words.getD j [])[q]? <;> rfl
      rw [e] at k4
      exact k4
    · exact ⟨0, fun z => absurd z hj⟩
  obtain ⟨aw, haw⟩ := Classical.skolem.mp hw
  have hrf : ∀ (k p : Nat) (tx : String), lw_tbl[p]? = some (.stringRef "ServiceManager" k tx) → ∃ sa, vk_R "ServiceManager" k tx sa s := by
    intro k p tx hp
    have hc : ∃ cur, s.vm.findClass "ServiceManager" = some cur := by
      obtain ⟨-, ⟨hfc, -⟩⟩ := hK 0 _ (ux_cl_at 0 (by decide))
      exact ⟨_, hfc⟩
    obtain ⟨cur, hcur⟩ := hc
    obtain ⟨-, -, -, a, -, -, -, -, -, he⟩ := Cond.stringRef_spec hcur (ht hp)
    exact ⟨a, vk_R.of (ht hp) he⟩
  refine ⟨aL, aG, aw, ⟨va_Zof (ht (p := 540) (by decide +kernel)) (ht (p := 183) (by decide +kernel)) (va_eqi (hs _ n1)) hA, va_Zqof (ht (p := 556) (by decide +kernel)) (ht (p := 185) (by decide +kernel)) (hs _ n2) hA⟩, hL, hG, fun j hj => (haw j hj).1, fun own i j p hj hp => ?_,
    ⟨vx_Zqof (ht (p := 980) (by decide +kernel)) (ht (p := 188) (by decide +kernel)) (hs _ n3) hA, vx_Zqof (ht (p := 982) (by decide +kernel)) (ht (p := 188) (by decide +kernel)) (hs _ n4) hA⟩,
    ⟨hrf 275 993 _ (by decide +kernel), hrf 282 1046 _ (by decide +kernel)⟩,
    ⟨va_Nw.of rfl (ht (p := 955) (w := .castable fx_IO fx_IO) (by decide +kernel)), va_Nw.of rfl (ht (p := 1039) (w := .castable fx_IA fx_IA) (by decide +kernel))⟩, va_Nc.of (hs _ n5),
    va_Nw.of rfl (ht (p := 957) (w := .declares fx_dR) (by decide +kernel)), va_Nw.of rfl (ht (p := 959) (w := .declares fx_dE) (by decide +kernel)), va_Nw.of rfl (ht (p := 961) (w := .declares fx_dT) (by decide +kernel))⟩
  have e1 := (haw j hj).2
  rcases fj_uq hj hp with ⟨rfl, rfl⟩ | ⟨rfl, rfl⟩
  · exact vk_R.of (ht hp) e1
  · exact vk_R.of (ht hp) (fj_eqr (hs _ (fj_m6 j hj)) e1)
