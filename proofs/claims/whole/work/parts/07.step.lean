theorem ux_fs_dom' {k s r ci f ty m t : Nat} (h : ux_dom k s r = true) (h5 : s % 8 = 5) (hn : ux_n s = ci) (hf : f < ux_nf ci) (hfs : ux_fs ci f = (ty, m, t)) (hz : ty = 1 ∨ ty = 2) : ux_dom (ux_tg m k) t 0 = true := by
  subst hn
  have := ux_fs_dom h h5 hf (by rw [hfs]; exact hz)
  rw [hfs] at this
  exact this
theorem ux_fv1 {E : ux_E} {k s r c f m t : Nat} {M : ux_M} (h : ux_fs c f = (1, m, t)) : ux_fv E k s r c f M = .ref (E.1 (ux_tg m k) t 0) := by
  unfold ux_fv
  rw [h]
  exact if_pos rfl
theorem ux_fv2 {E : ux_E} {k s r c f m t : Nat} {M : ux_M} (h : ux_fs c f = (2, m, t)) (h1 : M k s r f = 1) : ux_fv E k s r c f M = .ref (E.1 (ux_tg m k) t 0) := by
  unfold ux_fv
  rw [h]
  exact (if_neg (by show ¬ (2 : Nat) = 1; decide)).trans ((if_pos rfl).trans (congrArg Value.ref (if_pos h1)))
theorem ux_fv0 {E : ux_E} {k s r c f ty m t : Nat} {M : ux_M} (h : ux_fs c f = (ty, m, t)) (h1 : ¬ ty = 1) (h2 : ¬ ty = 2) : ux_fv E k s r c f M = .int (M k s r f) := by
  unfold ux_fv
  rw [h]
  exact (if_neg h1).trans (if_neg h2)
theorem ux_split1 {n : Nat} {st rest : List ux_V} {a : ux_V} (h : st.drop n = a :: rest) : st = (st.take n).reverse.reverse ++ a :: rest := by
  rw [List.reverse_reverse, ← h]
  exact (List.take_append_drop n st).symm
theorem ux_split2 {n : Nat} {st : List ux_V} (_ : (st.take n).length = n) : st = (st.take n).reverse.reverse ++ st.drop n := by
  rw [List.reverse_reverse]
  exact (List.take_append_drop n st).symm
theorem ux_okdrop {n : Nat} {st : List ux_V} (_ : (st.take n).length = n) (h : ∀ v ∈ st, ux_okV v) : ∀ v ∈ st.drop n, ux_okV v := fun v hv => h v (List.mem_of_mem_drop hv)
theorem ux_ofNat_eq {x : Int32} {v : Nat} (h : v < 2147483648) : x = Int32.ofNat v ↔ x.toInt = (v : Int) := by
  have e := nI_toInt (n := v) (by omega)
  constructor
  · intro z; rw [z]; exact e
  · intro z; exact Int32.toInt_inj.mp (z.trans e.symm)
theorem ux_sw_t {x : Int32} {C : Nat → Prop} {td pc : Nat} : ∀ (os : List Int) (v : Nat), v + os.length < 2147483648 → ux_sw x C td (ux_tps pc v os) → (∀ (i : Nat) (o : Int), os[i]? = some o → x.toInt = ((v + i : Nat) : Int) → C ((pc : Int) + o).toNat) ∧ ((∀ i, i < os.length → ¬ x.toInt = ((v + i : Nat) : Int)) → C td)
  | [], v, _, h => ⟨fun i o hi => by simp at hi, fun _ => h⟩
  | o :: os, v, hv, h => by
    unfold ux_tps ux_sw at h
    simp only [List.length_cons] at hv
    obtain ⟨h1, h2⟩ := h
    have e := ux_ofNat_eq (x := x) (v := v) (by omega)
    refine ⟨fun i o' hi hx => ?_, fun hn => ?_⟩
    · cases i with
      | zero =>
        rw [List.getElem?_cons_zero] at hi
        cases hi
        exact h1 (e.mpr hx)
      | succ i =>
        rw [List.getElem?_cons_succ] at hi
        refine (ux_sw_t os (v + 1) (by omega) (h2 (fun z => ?_))).1 i o' hi (by rw [hx]; congr 1; omega)
        have := e.mp z
        omega
    · refine (ux_sw_t os (v + 1) (by omega) (h2 (fun z => ?_))).2 (fun i hi => ?_)
      · exact hn 0 (by simp) (e.mp z)
      · have := hn (i + 1) (by simp; omega)
        rw [show v + 1 + i = v + (i + 1) by omega]
        exact this
theorem ux_sw_l {x : Int32} {C : Nat → Prop} {td pc : Nat} {df : Int} (hd : (pc : Int) + df = (td : Int)) : ∀ (ps : List (Int × Int)), (∀ q ∈ ps, 0 ≤ q.1 ∧ q.1 < 1000000 ∧ 0 ≤ (pc : Int) + q.2) → ux_sw x C td (ux_lps pc ps) → ∃ t : Nat, (pc : Int) + Op.lookupswitch.offset ps df x.toInt = (t : Int) ∧ C t
  | [], _, h => ⟨td, hd, h⟩
  | (a, o) :: ps, hp, h => by
    unfold ux_lps ux_sw at h
    obtain ⟨h1, h2⟩ := h
    obtain ⟨p1, p2, p3⟩ := hp (a, o) List.mem_cons_self
    have e := ux_ofNat_eq (x := x) (v := a.toNat) (by omega)
    rw [Op.lookupswitch.offset_cons]
    split
    · rename_i z
      exact ⟨((pc : Int) + o).toNat, by simp only at p3; omega, h1 (e.mpr (by simp only at p1; omega))⟩
    · rename_i z
      exact ux_sw_l hd ps (fun q hq => hp q (List.mem_cons_of_mem _ hq)) (h2 (fun w => z (by have := e.mp w; simp only at p1; omega)))
theorem ux_tsw {b : ByteArray} {pc td n : Nat} {df lo hi : Int} {offs : Array Int} {x : Int32} {C : Nat → Prop} {G : Prop} (_ : decode b pc = .ok (.tableswitch df lo hi offs, n)) (hlo : 0 ≤ lo) (hhi : hi + 1 = lo + (offs.toList.length : Int)) (hos : ∀ o ∈ offs.toList, 0 ≤ (pc : Int) + o)
    (t1 : ∀ (i : Nat) (o : Int), offs.toList[i]? = some o → x.toInt = ((lo.toNat + i : Nat) : Int) → C ((pc : Int) + o).toNat) (t2 : (∀ i, i < offs.toList.length → ¬ x.toInt = ((lo.toNat + i : Nat) : Int)) → C td)
    (g1 : ∀ (off : Int) (tgt : Nat), ¬ x.toInt < lo → ¬ hi < x.toInt → offs[(x.toInt - lo).toNat]? = some off → (pc : Int) + off = (tgt : Int) → C tgt → G) (g2 : (x.toInt < lo ∨ hi < x.toInt) → C td → G) : G := by
  by_cases h1 : x.toInt < lo
  · exact g2 (Or.inl h1) (t2 (fun i _ z => by omega))
  by_cases h2 : hi < x.toInt
  · exact g2 (Or.inr h2) (t2 (fun i _ z => by omega))
  have hl : (x.toInt - lo).toNat < offs.toList.length := by omega
  have hg : offs.toList[(x.toInt - lo).toNat]? = some offs.toList[(x.toInt - lo).toNat] := List.getElem?_eq_getElem hl
  have hm := hos _ (List.getElem_mem hl)
  exact g1 _ _ h1 h2 (by rw [← Array.getElem?_toList]; exact hg) (by omega) (t1 _ _ hg (by omega))
theorem ux_in01 : ¬ ((0 : Int32) < 0 ∨ 1 ≤ (0 : Int32).toNatClampNeg) := by
  rw [sb_cl0]
  decide
theorem ux_lst (M : ux_M) (k s r : Nat) (x : Int64) : ux_j2 (ux_set (ux_set M k s r 0 (ux_lo x)) k s r 1 (ux_hi x) k s r (2 * 0)) (ux_set (ux_set M k s r 0 (ux_lo x)) k s r 1 (ux_hi x) k s r (2 * 0 + 1)) = x := by
  have e0 : ux_set (ux_set M k s r 0 (ux_lo x)) k s r 1 (ux_hi x) k s r (2 * 0) = ux_lo x := by simp [ux_set]
  have e1 : ux_set (ux_set M k s r 0 (ux_lo x)) k s r 1 (ux_hi x) k s r (2 * 0 + 1) = ux_hi x := by simp [ux_set]
  rw [e0, e1, ux_j2_lh]
/-- rows of one long: by their only place -/
theorem ux_arr1 {c : ClassId} {f g : Nat → Value} (h : f 0 = g 0) : arrV c 1 f = arrV c 1 g := by
  unfold arrV
  congr 1
  apply Array.ext
  · simp
  · intro i h1 h2
    simp at h1
    subst h1
    simpa using h
set_option maxHeartbeats 4000000 in
theorem ux_step_snd {l : Launch} {E : ux_E} {d : Nat} {y : ux_Y} {p : Program} {e : Env} {s : State} {m : MethodId} {args : Array Value} {below : List Frame} {meth : Method} {c : Code} {R : Option ux_V → ux_M → Prop} {pc : Nat} {L : ux_L} {st : List ux_V} {M : ux_M} {op : ux_op} {K : ux_L → List ux_V → ux_M → Prop} {J : Nat → ux_L → List ux_V → ux_M → Prop} {chs : ux_Chs}
    (hS : ux_SpecOK l E chs) (G : ux_G l E y p s m args meth c) (hchk : ux_chk chs y.1.cls y.2.2.2 y.2.1 pc op = true) (hstep : ux_step l E d op L st M K J R)
    (hK : ∀ L' st' M', K L' st' M' → ux_Wt l E d y p e s m args below meth c R (pc + op.2.1) L' st' M') (hJ : ∀ t L' st' M', J t L' st' M' → ux_Wt l E d y p e s m args below meth c R t L' st' M') : ux_Wt l E d y p e s m args below meth c R pc L st M := by
  unfold ux_chk at hchk
  rw [Bool.and_eq_true, decide_eq_true_eq] at hchk
  obtain ⟨hd, hc⟩ := hchk
  unfold ux_step at hstep
  split at hstep
  · dsimp only at hd hK
    rename_i j da _ _
    split at hstep
    · exact hstep.elim
    · split at hstep
      · rename_i hwt
        exact hS _ y p e s m args below meth c R pc L st M _ _ _ _ (fun st' M' => K L st' M') G hd (by simpa only [ux_chd] using hc) hwt hstep (fun st' M' h => hK L st' M' h)
      · exact hstep.elim
  · simp only [ux_chd, decide_eq_true_eq] at hc
    dsimp only at hd hK
    obtain ⟨rfl, hv⟩ := hc
    intro H locs ls hlr hokL hokst hRep hVS
    exact lv_iconst G.1 G.2.1 hd hv (hK _ _ _ hstep H locs ls hlr hokL (ux_cn trivial hokst) hRep hVS)
  · simp only [ux_chd, decide_eq_true_eq] at hc
    dsimp only at hd hK
    obtain ⟨rfl, hv⟩ := hc
    intro H locs ls hlr hokL hokst hRep hVS
    exact lv_bipush G.1 G.2.1 hd hv (hK _ _ _ hstep H locs ls hlr hokL (ux_cn trivial hokst) hRep hVS)
  · simp only [ux_chd, decide_eq_true_eq] at hc
    dsimp only at hd hK
    obtain ⟨rfl, hv⟩ := hc
    intro H locs ls hlr hokL hokst hRep hVS
    exact lv_sipush G.1 G.2.1 hd hv (hK _ _ _ hstep H locs ls hlr hokL (ux_cn trivial hokst) hRep hVS)
  · simp only [ux_chd, decide_eq_true_eq] at hc
    dsimp only at hd hK
    obtain ⟨rfl, hv⟩ := hc
    intro H locs ls hlr hokL hokst hRep hVS
    exact lv_ldc G.1 G.2.1 G.2.2.2.1 (ux_word G (ux_at hv) rfl) hd (hK _ _ _ hstep H locs ls hlr hokL (ux_cn trivial hokst) hRep hVS)
  · simp only [ux_chd, decide_eq_true_eq] at hc
    dsimp only at hd hK
    obtain ⟨rfl, hv⟩ := hc
    intro H locs ls hlr hokL hokst hRep hVS
    exact lv_ldcw G.1 G.2.1 G.2.2.2.1 (ux_word G (ux_at hv) rfl) hd (hK _ _ _ hstep H locs ls hlr hokL (ux_cn trivial hokst) hRep hVS)
  · simp only [ux_chd, decide_eq_true_eq] at hc
    dsimp only at hd hK
    obtain ⟨rfl, hv⟩ := hc
    intro H locs ls hlr hokL hokst hRep hVS
    exact lv_lconst G.1 G.2.1 hd hv (hK _ _ _ hstep H locs ls hlr hokL (ux_cn trivial hokst) hRep hVS)
  · simp only [ux_chd, decide_eq_true_eq] at hc
    dsimp only at hd hK
    obtain ⟨rfl, hv⟩ := hc
    intro H locs ls hlr hokL hokst hRep hVS
    exact lv_ldc2 G.1 G.2.1 G.2.2.2.1 (ux_word G (ux_at hv) rfl) hd (hK _ _ _ hstep H locs ls hlr hokL (ux_cn trivial hokst) hRep hVS)
  · simp only [ux_chd, decide_eq_true_eq] at hc
    dsimp only at hd hK
    obtain ⟨rfl, hi⟩ := hc
    split at hstep
    · rename_i x hx
      intro H locs ls hlr hokL hokst hRep hVS
      exact lv_iload_n G.1 G.2.1 hd hi (hlr.2.2.2 _ _ (ux_lg_spec hx)) (hK _ _ _ hstep H locs ls hlr hokL (ux_cn (hokL _ _ (ux_lg_spec hx)) hokst) hRep hVS)
    · exact hstep.elim
  · simp only [ux_chd, decide_eq_true_eq] at hc
    dsimp only at hd hK
    obtain ⟨rfl, rfl⟩ := hc
    split at hstep
    · rename_i x hx
      intro H locs ls hlr hokL hokst hRep hVS
      exact lv_iload G.1 G.2.1 hd (hlr.2.2.2 _ _ (ux_lg_spec hx)) (hK _ _ _ hstep H locs ls hlr hokL (ux_cn (hokL _ _ (ux_lg_spec hx)) hokst) hRep hVS)
    · exact hstep.elim
  · simp only [ux_chd, decide_eq_true_eq] at hc
    dsimp only at hd hK
    obtain ⟨rfl, hi⟩ := hc
    split at hstep
    · rename_i x hx
      intro H locs ls hlr hokL hokst hRep hVS
      exact lv_lload_n G.1 G.2.1 hd hi (hlr.2.2.2 _ _ (ux_lg_spec hx)) (hK _ _ _ hstep H locs ls hlr hokL (ux_cn (hokL _ _ (ux_lg_spec hx)) hokst) hRep hVS)
    · exact hstep.elim
  · simp only [ux_chd, decide_eq_true_eq] at hc
    dsimp only at hd hK
    obtain ⟨rfl, rfl⟩ := hc
    split at hstep
    · rename_i x hx
      intro H locs ls hlr hokL hokst hRep hVS
      exact lv_lload G.1 G.2.1 hd (hlr.2.2.2 _ _ (ux_lg_spec hx)) (hK _ _ _ hstep H locs ls hlr hokL (ux_cn (hokL _ _ (ux_lg_spec hx)) hokst) hRep hVS)
    · exact hstep.elim
  · simp only [ux_chd, decide_eq_true_eq] at hc
    dsimp only at hd hK
    obtain ⟨rfl, hi⟩ := hc
    split at hstep
    · rename_i x hx
      intro H locs ls hlr hokL hokst hRep hVS
      exact lv_aload_n G.1 G.2.1 hd hi (hlr.2.2.2 _ _ (ux_lg_spec hx)) (hK _ _ _ hstep H locs ls hlr hokL (ux_cn (hokL _ _ (ux_lg_spec hx)) hokst) hRep hVS)
    · exact hstep.elim
  · simp only [ux_chd, decide_eq_true_eq] at hc
    dsimp only at hd hK
    obtain ⟨rfl, rfl⟩ := hc
    split at hstep
    · rename_i x hx
      intro H locs ls hlr hokL hokst hRep hVS
      exact lv_aload G.1 G.2.1 hd (hlr.2.2.2 _ _ (ux_lg_spec hx)) (hK _ _ _ hstep H locs ls hlr hokL (ux_cn (hokL _ _ (ux_lg_spec hx)) hokst) hRep hVS)
    · exact hstep.elim
  · simp only [ux_chd, decide_eq_true_eq] at hc
    dsimp only at hd hK
    obtain ⟨rfl, hi⟩ := hc
    split at hstep
    · split at hstep
      · rename_i hlt
        intro H locs ls hlr hokL hokst hRep hVS
        exact lv_istore_n (lv := ux_al E L) G.1 G.2.1 hd hi (ux_al_has hlr) (Nat.lt_of_lt_of_le hlt hlr.2.2.1) rfl (fun ls' h' => hK _ _ _ hstep H locs ls' (ux_st_lr hlr h') (ux_st_ok hokL (ux_hd hokst)) (ux_tl hokst) hRep hVS)
      · exact hstep.elim
    · exact hstep.elim
  · simp only [ux_chd, decide_eq_true_eq] at hc
    dsimp only at hd hK
    obtain ⟨rfl, rfl⟩ := hc
    split at hstep
    · split at hstep
      · rename_i hlt
        intro H locs ls hlr hokL hokst hRep hVS
        exact lv_istore (lv := ux_al E L) G.1 G.2.1 hd (ux_al_has hlr) (Nat.lt_of_lt_of_le hlt hlr.2.2.1) rfl (fun ls' h' => hK _ _ _ hstep H locs ls' (ux_st_lr hlr h') (ux_st_ok hokL (ux_hd hokst)) (ux_tl hokst) hRep hVS)
      · exact hstep.elim
    · exact hstep.elim
  · simp only [ux_chd, decide_eq_true_eq] at hc
    dsimp only at hd hK
    obtain ⟨rfl, hi⟩ := hc
    split at hstep
    · split at hstep
      · rename_i hlt
        intro H locs ls hlr hokL hokst hRep hVS
        exact lv_astore_n (lv := ux_al E L) G.1 G.2.1 hd hi (ux_al_has hlr) (Nat.lt_of_lt_of_le hlt hlr.2.2.1) rfl (fun ls' h' => hK _ _ _ hstep H locs ls' (ux_st_lr hlr h') (ux_st_ok hokL (ux_hd hokst)) (ux_tl hokst) hRep hVS)
      · exact hstep.elim
    · exact hstep.elim
  · simp only [ux_chd, decide_eq_true_eq] at hc
    dsimp only at hd hK
    obtain ⟨rfl, rfl⟩ := hc
    split at hstep
    · split at hstep
      · rename_i hlt
        intro H locs ls hlr hokL hokst hRep hVS
        exact lv_astore (lv := ux_al E L) G.1 G.2.1 hd (ux_al_has hlr) (Nat.lt_of_lt_of_le hlt hlr.2.2.1) rfl (fun ls' h' => hK _ _ _ hstep H locs ls' (ux_st_lr hlr h') (ux_st_ok hokL (ux_hd hokst)) (ux_tl hokst) hRep hVS)
      · exact hstep.elim
    · exact hstep.elim
  · simp only [ux_chd, decide_eq_true_eq] at hc
    dsimp only at hd hK
    obtain ⟨rfl, hi⟩ := hc
    split at hstep
    · split at hstep
      · rename_i hlt
        intro H locs ls hlr hokL hokst hRep hVS
        exact lv_lstore_n (lv := ux_al E L) G.1 G.2.1 hd hi (ux_al_has hlr) (Nat.lt_of_lt_of_le hlt hlr.2.2.1) rfl (fun ls' h' => hK _ _ _ hstep H locs ls' (ux_st2_lr hlr h') (ux_st2_ok hokL (ux_hd hokst)) (ux_tl hokst) hRep hVS)
      · exact hstep.elim
    · exact hstep.elim
  · simp only [ux_chd, decide_eq_true_eq] at hc
    dsimp only at hd hK
    obtain ⟨rfl, rfl⟩ := hc
    split at hstep
    · split at hstep
      · rename_i hlt
        intro H locs ls hlr hokL hokst hRep hVS
        exact lv_lstore (lv := ux_al E L) G.1 G.2.1 hd (ux_al_has hlr) (Nat.lt_of_lt_of_le hlt hlr.2.2.1) rfl (fun ls' h' => hK _ _ _ hstep H locs ls' (ux_st2_lr hlr h') (ux_st2_ok hokL (ux_hd hokst)) (ux_tl hokst) hRep hVS)
      · exact hstep.elim
    · exact hstep.elim
  · simp only [ux_chd, decide_eq_true_eq] at hc
    dsimp only at hd hK
    obtain ⟨rfl, rfl, hv⟩ := hc
    split at hstep
    · rename_i x hx
      intro H locs ls hlr hokL hokst hRep hVS
      obtain ⟨k, hk⟩ := List.getElem?_of_mem (ux_al_mem (E := E) |>.mpr ⟨_, ux_lg_spec hx, rfl⟩)
      exact lv_iinc (lv := ux_al E L) (k := k) G.1 G.2.1 hd (ux_al_has hlr) hk (by rw [hv]) (ux_lr_lt hlr (ux_lg_spec hx)) rfl (fun ls' h' => hK _ _ _ hstep H locs ls' (ux_st_lr hlr h') (ux_st_ok hokL trivial) hokst hRep hVS)
    · exact hstep.elim
  · simp only [ux_chd, decide_eq_true_eq] at hc
    dsimp only at hd hK
    subst hc
    split at hstep
    · intro H locs ls hlr hokL hokst hRep hVS
      exact lv_iadd G.1 G.2.1 hd (hK _ _ _ hstep H locs ls hlr hokL (ux_cn trivial (ux_tl (ux_tl hokst))) hRep hVS)
    · exact hstep.elim
  · simp only [ux_chd, decide_eq_true_eq] at hc
    dsimp only at hd hK
    subst hc
    split at hstep
    · intro H locs ls hlr hokL hokst hRep hVS
      exact lv_isub G.1 G.2.1 hd (hK _ _ _ hstep H locs ls hlr hokL (ux_cn trivial (ux_tl (ux_tl hokst))) hRep hVS)
    · exact hstep.elim
  · simp only [ux_chd, decide_eq_true_eq] at hc
    dsimp only at hd hK
    subst hc
    split at hstep
    · intro H locs ls hlr hokL hokst hRep hVS
      exact lv_imul G.1 G.2.1 hd (hK _ _ _ hstep H locs ls hlr hokL (ux_cn trivial (ux_tl (ux_tl hokst))) hRep hVS)
    · exact hstep.elim
  · simp only [ux_chd, decide_eq_true_eq] at hc
    dsimp only at hd hK
    subst hc
    split at hstep
    · intro H locs ls hlr hokL hokst hRep hVS
      exact lv_irem G.1 G.2.1 hd hstep.1 (hK _ _ _ hstep.2 H locs ls hlr hokL (ux_cn trivial (ux_tl (ux_tl hokst))) hRep hVS)
    · exact hstep.elim
  · simp only [ux_chd, decide_eq_true_eq] at hc
    dsimp only at hd hK
    subst hc
    split at hstep
    · intro H locs ls hlr hokL hokst hRep hVS
      exact lv_ineg G.1 G.2.1 hd (hK _ _ _ hstep H locs ls hlr hokL (ux_cn trivial (ux_tl hokst)) hRep hVS)
    · exact hstep.elim
  · simp only [ux_chd, decide_eq_true_eq] at hc
    dsimp only at hd hK
    subst hc
    split at hstep
    · intro H locs ls hlr hokL hokst hRep hVS
      exact lv_iand G.1 G.2.1 hd (hK _ _ _ hstep H locs ls hlr hokL (ux_cn trivial (ux_tl (ux_tl hokst))) hRep hVS)
    · exact hstep.elim
  · simp only [ux_chd, decide_eq_true_eq] at hc
    dsimp only at hd hK
    subst hc
    split at hstep
    · intro H locs ls hlr hokL hokst hRep hVS
      exact lv_ior G.1 G.2.1 hd (hK _ _ _ hstep H locs ls hlr hokL (ux_cn trivial (ux_tl (ux_tl hokst))) hRep hVS)
    · exact hstep.elim
  · simp only [ux_chd, decide_eq_true_eq] at hc
    dsimp only at hd hK
    subst hc
    split at hstep
    · intro H locs ls hlr hokL hokst hRep hVS
      exact lv_ixor G.1 G.2.1 hd (hK _ _ _ hstep H locs ls hlr hokL (ux_cn trivial (ux_tl (ux_tl hokst))) hRep hVS)
    · exact hstep.elim
  · simp only [ux_chd, decide_eq_true_eq] at hc
    dsimp only at hd hK
    subst hc
    split at hstep
    · intro H locs ls hlr hokL hokst hRep hVS
      exact lv_ishl G.1 G.2.1 hd (hK _ _ _ hstep H locs ls hlr hokL (ux_cn trivial (ux_tl (ux_tl hokst))) hRep hVS)
    · exact hstep.elim
  · simp only [ux_chd, decide_eq_true_eq] at hc
    dsimp only at hd hK
    subst hc
    split at hstep
    · intro H locs ls hlr hokL hokst hRep hVS
      exact lv_ishr G.1 G.2.1 hd (hK _ _ _ hstep H locs ls hlr hokL (ux_cn trivial (ux_tl (ux_tl hokst))) hRep hVS)
    · exact hstep.elim
  · simp only [ux_chd, decide_eq_true_eq] at hc
    dsimp only at hd hK
    subst hc
    split at hstep
    · intro H locs ls hlr hokL hokst hRep hVS
      exact lv_land G.1 G.2.1 hd (hK _ _ _ hstep H locs ls hlr hokL (ux_cn trivial (ux_tl (ux_tl hokst))) hRep hVS)
    · exact hstep.elim
  · simp only [ux_chd, decide_eq_true_eq] at hc
    dsimp only at hd hK
    subst hc
    split at hstep
    · intro H locs ls hlr hokL hokst hRep hVS
      exact lv_lor G.1 G.2.1 hd (hK _ _ _ hstep H locs ls hlr hokL (ux_cn trivial (ux_tl (ux_tl hokst))) hRep hVS)
    · exact hstep.elim
  · simp only [ux_chd, decide_eq_true_eq] at hc
    dsimp only at hd hK
    subst hc
    split at hstep
    · intro H locs ls hlr hokL hokst hRep hVS
      exact lv_ladd G.1 G.2.1 hd (hK _ _ _ hstep H locs ls hlr hokL (ux_cn trivial (ux_tl (ux_tl hokst))) hRep hVS)
    · exact hstep.elim
  · simp only [ux_chd, decide_eq_true_eq] at hc
    dsimp only at hd hK
    subst hc
    split at hstep
    · intro H locs ls hlr hokL hokst hRep hVS
      exact lv_lsub G.1 G.2.1 hd (hK _ _ _ hstep H locs ls hlr hokL (ux_cn trivial (ux_tl (ux_tl hokst))) hRep hVS)
    · exact hstep.elim
  · simp only [ux_chd, decide_eq_true_eq] at hc
    dsimp only at hd hK
    subst hc
    split at hstep
    · intro H locs ls hlr hokL hokst hRep hVS
      exact lv_lmul G.1 G.2.1 hd (hK _ _ _ hstep H locs ls hlr hokL (ux_cn trivial (ux_tl (ux_tl hokst))) hRep hVS)
    · exact hstep.elim
  · simp only [ux_chd, decide_eq_true_eq] at hc
    dsimp only at hd hK
    subst hc
    split at hstep
    · intro H locs ls hlr hokL hokst hRep hVS
      exact lv_lushr G.1 G.2.1 hd rfl (hK _ _ _ hstep H locs ls hlr hokL (ux_cn trivial (ux_tl (ux_tl hokst))) hRep hVS)
    · exact hstep.elim
  · simp only [ux_chd, decide_eq_true_eq] at hc
    dsimp only at hd hK
    subst hc
    split at hstep
    · intro H locs ls hlr hokL hokst hRep hVS
      exact lv_lshl G.1 G.2.1 hd rfl (hK _ _ _ hstep H locs ls hlr hokL (ux_cn trivial (ux_tl (ux_tl hokst))) hRep hVS)
    · exact hstep.elim
  · simp only [ux_chd, decide_eq_true_eq] at hc
    dsimp only at hd hK
    subst hc
    split at hstep
    · intro H locs ls hlr hokL hokst hRep hVS
      exact W.lcmp G.1 G.2.1 hd (hK _ _ _ hstep H locs ls hlr hokL (ux_cn trivial (ux_tl (ux_tl hokst))) hRep hVS)
    · exact hstep.elim
  · simp only [ux_chd, decide_eq_true_eq] at hc
    dsimp only at hd hK
    subst hc
    split at hstep
    · intro H locs ls hlr hokL hokst hRep hVS
      exact lv_i2l G.1 G.2.1 hd rfl (hK _ _ _ hstep H locs ls hlr hokL (ux_cn trivial (ux_tl hokst)) hRep hVS)
    · exact hstep.elim
  · simp only [ux_chd, decide_eq_true_eq] at hc
    dsimp only at hd hK
    subst hc
    split at hstep
    · intro H locs ls hlr hokL hokst hRep hVS
      exact lv_l2i G.1 G.2.1 hd rfl (hK _ _ _ hstep H locs ls hlr hokL (ux_cn trivial (ux_tl hokst)) hRep hVS)
    · exact hstep.elim
  · simp only [ux_chd, decide_eq_true_eq] at hc
    dsimp only at hd hK
    subst hc
    split at hstep
    · intro H locs ls hlr hokL hokst hRep hVS
      exact lv_dup G.1 G.2.1 hd rfl (hK _ _ _ hstep H locs ls hlr hokL (ux_cn (ux_hd hokst) hokst) hRep hVS)
    · intro H locs ls hlr hokL hokst hRep hVS
      exact lv_dup G.1 G.2.1 hd rfl (hK _ _ _ hstep H locs ls hlr hokL (ux_cn (ux_hd hokst) hokst) hRep hVS)
    · exact hstep.elim
  · simp only [ux_chd, decide_eq_true_eq] at hc
    dsimp only at hd hK
    subst hc
    split at hstep
    · intro H locs ls hlr hokL hokst hRep hVS
      exact lv_dup2_11 G.1 G.2.1 hd rfl rfl (hK _ _ _ hstep H locs ls hlr hokL (ux_cn (ux_hd hokst) (ux_cn (ux_hd (ux_tl hokst)) hokst)) hRep hVS)
    · exact hstep.elim
  · simp only [ux_chd, decide_eq_true_eq] at hc
    dsimp only at hd hK
    subst hc
    split at hstep
    · intro H locs ls hlr hokL hokst hRep hVS
      exact lv_pop G.1 G.2.1 hd rfl (hK _ _ _ hstep H locs ls hlr hokL (ux_tl hokst) hRep hVS)
    · exact hstep.elim
  · simp only [ux_chd, decide_eq_true_eq] at hc
    dsimp only at hd hK
    obtain ⟨rfl, ht⟩ := hc
    intro H locs ls hlr hokL hokst hRep hVS
    exact lv_goto G.1 G.2.1 hd ht (hJ _ _ _ _ hstep H locs ls hlr hokL hokst hRep hVS)
  · simp only [ux_chd, decide_eq_true_eq] at hc
    dsimp only at hd hK
    obtain ⟨rfl, ht⟩ := hc
    split at hstep
    · intro H locs ls hlr hokL hokst hRep hVS
      exact lv_if_eq G.1 G.2.1 hd ht (fun h => hJ _ _ _ _ (hstep.1 h) H locs ls hlr hokL (ux_tl hokst) hRep hVS) (fun h => hK _ _ _ (hstep.2 h) H locs ls hlr hokL (ux_tl hokst) hRep hVS)
    · exact hstep.elim
  · simp only [ux_chd, decide_eq_true_eq] at hc
    dsimp only at hd hK
    obtain ⟨rfl, ht⟩ := hc
    split at hstep
    · intro H locs ls hlr hokL hokst hRep hVS
      exact lv_if_ne G.1 G.2.1 hd ht (fun h => hJ _ _ _ _ (hstep.1 h) H locs ls hlr hokL (ux_tl hokst) hRep hVS) (fun h => hK _ _ _ (hstep.2 h) H locs ls hlr hokL (ux_tl hokst) hRep hVS)
    · exact hstep.elim
  · simp only [ux_chd, decide_eq_true_eq] at hc
    dsimp only at hd hK
    obtain ⟨rfl, ht⟩ := hc
    split at hstep
    · intro H locs ls hlr hokL hokst hRep hVS
      exact lv_if_lt G.1 G.2.1 hd ht (fun h => hJ _ _ _ _ (hstep.1 h) H locs ls hlr hokL (ux_tl hokst) hRep hVS) (fun h => hK _ _ _ (hstep.2 h) H locs ls hlr hokL (ux_tl hokst) hRep hVS)
    · exact hstep.elim
  · simp only [ux_chd, decide_eq_true_eq] at hc
    dsimp only at hd hK
    obtain ⟨rfl, ht⟩ := hc
    split at hstep
    · intro H locs ls hlr hokL hokst hRep hVS
      exact lv_if_ge G.1 G.2.1 hd ht (fun h => hJ _ _ _ _ (hstep.1 h) H locs ls hlr hokL (ux_tl hokst) hRep hVS) (fun h => hK _ _ _ (hstep.2 h) H locs ls hlr hokL (ux_tl hokst) hRep hVS)
    · exact hstep.elim
  · simp only [ux_chd, decide_eq_true_eq] at hc
    dsimp only at hd hK
    obtain ⟨rfl, ht⟩ := hc
    split at hstep
    · intro H locs ls hlr hokL hokst hRep hVS
      exact lv_if_gt G.1 G.2.1 hd ht (fun h => hJ _ _ _ _ (hstep.1 h) H locs ls hlr hokL (ux_tl hokst) hRep hVS) (fun h => hK _ _ _ (hstep.2 h) H locs ls hlr hokL (ux_tl hokst) hRep hVS)
    · exact hstep.elim
  · simp only [ux_chd, decide_eq_true_eq] at hc
    dsimp only at hd hK
    obtain ⟨rfl, ht⟩ := hc
    split at hstep
    · intro H locs ls hlr hokL hokst hRep hVS
      exact lv_if_le G.1 G.2.1 hd ht (fun h => hJ _ _ _ _ (hstep.1 h) H locs ls hlr hokL (ux_tl hokst) hRep hVS) (fun h => hK _ _ _ (hstep.2 h) H locs ls hlr hokL (ux_tl hokst) hRep hVS)
    · exact hstep.elim
  · simp only [ux_chd, decide_eq_true_eq] at hc
    dsimp only at hd hK
    obtain ⟨rfl, ht⟩ := hc
    split at hstep
    · intro H locs ls hlr hokL hokst hRep hVS
      exact lv_icmp_eq G.1 G.2.1 hd ht (fun h => hJ _ _ _ _ (hstep.1 h) H locs ls hlr hokL (ux_tl (ux_tl hokst)) hRep hVS) (fun h => hK _ _ _ (hstep.2 h) H locs ls hlr hokL (ux_tl (ux_tl hokst)) hRep hVS)
    · exact hstep.elim
  · simp only [ux_chd, decide_eq_true_eq] at hc
    dsimp only at hd hK
    obtain ⟨rfl, ht⟩ := hc
    split at hstep
    · intro H locs ls hlr hokL hokst hRep hVS
      exact lv_icmp_ne G.1 G.2.1 hd ht (fun h => hJ _ _ _ _ (hstep.1 h) H locs ls hlr hokL (ux_tl (ux_tl hokst)) hRep hVS) (fun h => hK _ _ _ (hstep.2 h) H locs ls hlr hokL (ux_tl (ux_tl hokst)) hRep hVS)
    · exact hstep.elim
  · simp only [ux_chd, decide_eq_true_eq] at hc
    dsimp only at hd hK
    obtain ⟨rfl, ht⟩ := hc
    split at hstep
    · intro H locs ls hlr hokL hokst hRep hVS
      exact lv_icmp_lt G.1 G.2.1 hd ht (fun h => hJ _ _ _ _ (hstep.1 h) H locs ls hlr hokL (ux_tl (ux_tl hokst)) hRep hVS) (fun h => hK _ _ _ (hstep.2 h) H locs ls hlr hokL (ux_tl (ux_tl hokst)) hRep hVS)
    · exact hstep.elim
  · simp only [ux_chd, decide_eq_true_eq] at hc
    dsimp only at hd hK
    obtain ⟨rfl, ht⟩ := hc
    split at hstep
    · intro H locs ls hlr hokL hokst hRep hVS
      exact lv_icmp_ge G.1 G.2.1 hd ht (fun h => hJ _ _ _ _ (hstep.1 h) H locs ls hlr hokL (ux_tl (ux_tl hokst)) hRep hVS) (fun h => hK _ _ _ (hstep.2 h) H locs ls hlr hokL (ux_tl (ux_tl hokst)) hRep hVS)
    · exact hstep.elim
  · simp only [ux_chd, decide_eq_true_eq] at hc
    dsimp only at hd hK
    obtain ⟨rfl, ht⟩ := hc
    split at hstep
    · intro H locs ls hlr hokL hokst hRep hVS
      exact lv_icmp_gt G.1 G.2.1 hd ht (fun h => hJ _ _ _ _ (hstep.1 h) H locs ls hlr hokL (ux_tl (ux_tl hokst)) hRep hVS) (fun h => hK _ _ _ (hstep.2 h) H locs ls hlr hokL (ux_tl (ux_tl hokst)) hRep hVS)
    · exact hstep.elim
  · simp only [ux_chd, decide_eq_true_eq] at hc
    dsimp only at hd hK
    obtain ⟨rfl, ht⟩ := hc
    split at hstep
    · intro H locs ls hlr hokL hokst hRep hVS
      exact lv_icmp_le G.1 G.2.1 hd ht (fun h => hJ _ _ _ _ (hstep.1 h) H locs ls hlr hokL (ux_tl (ux_tl hokst)) hRep hVS) (fun h => hK _ _ _ (hstep.2 h) H locs ls hlr hokL (ux_tl (ux_tl hokst)) hRep hVS)
    · exact hstep.elim
  · simp only [ux_chd, decide_eq_true_eq] at hc
    dsimp only at hd hK
    obtain ⟨rfl, hci, hf, hfs, hp⟩ := hc
    split at hstep
    · rename_i k0 s0 r0 rest
      split at hstep
      · rename_i hq
        obtain ⟨h5, hn⟩ := hq
        intro H locs ls hlr hokL hokst hRep hVS
        have hdq := ux_okR (q := (k0, s0, r0)) (ux_hd hokst) (by show s0 % 8 < 6; omega)
        refine ux_getf (q := (k0, s0, r0)) G hRep hdq h5 hn hci hf hp hd ?_
        split at hstep
        · rename_i h1
          subst h1
          rw [ux_fv1 hfs]
          exact hK _ _ _ hstep H locs ls hlr hokL (ux_cn (Or.inl (ux_fs_dom' hdq h5 hn hf hfs (Or.inl rfl))) (ux_tl hokst)) hRep hVS
        · rename_i h1
          split at hstep
          · rename_i h2
            subst h2
            rw [ux_fv2 hfs hstep.1]
            exact hK _ _ _ hstep.2 H locs ls hlr hokL (ux_cn (Or.inl (ux_fs_dom' hdq h5 hn hf hfs (Or.inr rfl))) (ux_tl hokst)) hRep hVS
          · rename_i h2
            rw [ux_fv0 hfs h1 h2]
            exact hK _ _ _ hstep H locs ls hlr hokL (ux_cn trivial (ux_tl hokst)) hRep hVS
      · exact hstep.elim
    · exact hstep.elim
  · simp only [ux_chd, decide_eq_true_eq] at hc
    dsimp only at hd hK
    obtain ⟨rfl, hci, hf, hfs, hp, hfin, hde⟩ := hc
    split at hstep
    · rename_i x k0 s0 r0 rest
      split at hstep
      · rename_i hq
        obtain ⟨h5, hn⟩ := hq
        intro H locs ls hlr hokL hokst hRep hVS
        have hdq := ux_okR (q := (k0, s0, r0)) (ux_hd (ux_tl hokst)) (by show s0 % 8 < 6; omega)
        split at hstep
        · rename_i h0
          subst h0
          refine ux_putf (q := (k0, s0, r0)) G hRep hVS hdq h5 hn hci hf hp hfin (ty := .int) (v := .int x) (M' := ux_set M k0 s0 r0 _ x) (by rw [hde]; rfl) rfl rfl (fun k' s' r' hne => ux_set_other hne) ?_ (fun j hj => by rw [ux_set_self, if_neg hj]) hd (fun H1 locs1 hR1 hS1 => hK _ _ _ hstep H1 locs1 ls hlr hokL (ux_tl (ux_tl hokst)) hR1 hS1)
          unfold ux_fv; rw [hfs]; exact (if_neg (by show ¬ (0 : Nat) = 1; decide)).trans ((if_neg (by show ¬ (0 : Nat) = 2; decide)).trans (by rw [ux_set_self, if_pos rfl]))
        · split at hstep
          · rename_i h0 h3
            subst h3
            have hbn : narrow .boolean (.int x) = .int x ∧ fits .boolean (.int x) = true := by rcases hstep.1 with rfl | rfl <;> exact ⟨rfl, rfl⟩
            refine ux_putf (q := (k0, s0, r0)) G hRep hVS hdq h5 hn hci hf hp hfin (ty := .boolean) (v := .int x) (M' := ux_set M k0 s0 r0 _ x) (by rw [hde]; rfl) hbn.1 hbn.2 (fun k' s' r' hne => ux_set_other hne) ?_ (fun j hj => by rw [ux_set_self, if_neg hj]) hd (fun H1 locs1 hR1 hS1 => hK _ _ _ hstep.2 H1 locs1 ls hlr hokL (ux_tl (ux_tl hokst)) hR1 hS1)
            unfold ux_fv; rw [hfs]; exact (if_neg (by show ¬ (3 : Nat) = 1; decide)).trans ((if_neg (by show ¬ (3 : Nat) = 2; decide)).trans (by rw [ux_set_self, if_pos rfl]))
          · exact hstep.elim
      · exact hstep.elim
    · rename_i o k0 s0 r0 rest
      split at hstep
      · rename_i hq
        obtain ⟨h5, hn, rfl⟩ := hq
        obtain ⟨rfl, hstep⟩ := hstep
        intro H locs ls hlr hokL hokst hRep hVS
        have hdq := ux_okR (q := (k0, s0, r0)) (ux_hd (ux_tl hokst)) (by show s0 % 8 < 6; omega)
        refine ux_putf (q := (k0, s0, r0)) G hRep hVS hdq h5 hn hci hf hp hfin (ty := .array .int) (v := .ref (E.1 (ux_tg _ k0) _ 0)) (M' := ux_set M k0 s0 r0 _ 1) (by rw [hde]; rfl) rfl rfl (fun k' s' r' hne => ux_set_other hne) ?_ (fun j hj => by rw [ux_set_self, if_neg hj]) hd (fun H1 locs1 hR1 hS1 => hK _ _ _ hstep H1 locs1 ls hlr hokL (ux_tl (ux_tl hokst)) hR1 hS1)
        unfold ux_fv; rw [hfs]; exact (if_neg (by show ¬ (2 : Nat) = 1; decide)).trans ((if_pos rfl).trans (congrArg Value.ref (if_pos (by rw [ux_set_self, if_pos rfl]))))
      · exact hstep.elim
    · exact hstep.elim
  · simp only [ux_chd, decide_eq_true_eq] at hc
    dsimp only at hd hK
    subst hc
    split at hstep
    · rename_i i k0 s0 r0 rest
      split at hstep
      · rename_i h1
        intro H locs ls hlr hokL hokst hRep hVS
        have hdq := ux_okR (q := (k0, s0, r0)) (ux_hd (ux_tl hokst)) (by show s0 % 8 < 6; omega)
        have hlt : i.toNatClampNeg < ux_n s0 := Nat.not_le.mp fun z => hstep.1 (Or.inr z)
        exact W.iald (v := .int (M k0 s0 r0 i.toNatClampNeg)) G.1 G.2.1 ((ux_cell1 h1).mp (hRep _ _ _ hdq)) ((G.2.2.2.2.2.1.2.2.1.2 0 _ rfl).1 _ _) (fun z => by cases z) (by rw [arrV_size]; exact hstep.1) (arrV_read _ _ hlt) rfl rfl hd (hK _ _ _ hstep.2 H locs ls hlr hokL (ux_cn trivial (ux_tl (ux_tl hokst))) hRep hVS)
      · exact hstep.elim
    · exact hstep.elim
  · simp only [ux_chd, decide_eq_true_eq] at hc
    dsimp only at hd hK
    subst hc
    split at hstep
    · rename_i i k0 s0 r0 rest
      split at hstep
      · rename_i h1
        intro H locs ls hlr hokL hokst hRep hVS
        have hdq := ux_okR (q := (k0, s0, r0)) (ux_hd (ux_tl hokst)) (by show s0 % 8 < 6; omega)
        have hlt : i.toNatClampNeg < ux_n s0 := Nat.not_le.mp fun z => hstep.1 (Or.inr z)
        exact W.zald (v := .int (M k0 s0 r0 i.toNatClampNeg)) G.1 G.2.1 ((ux_cell2 h1).mp (hRep _ _ _ hdq)) ((G.2.2.2.2.2.1.2.2.1.2 1 _ rfl).1 _ _) (fun z => by cases z) (by rw [arrV_size]; exact hstep.1) (arrV_read _ _ hlt) rfl rfl hd (hK _ _ _ hstep.2 H locs ls hlr hokL (ux_cn trivial (ux_tl (ux_tl hokst))) hRep hVS)
      · exact hstep.elim
    · exact hstep.elim
  · simp only [ux_chd, decide_eq_true_eq] at hc
    dsimp only at hd hK
    subst hc
    split at hstep
    · rename_i x i k0 s0 r0 rest
      split at hstep
      · rename_i h1
        intro H locs ls hlr hokL hokst hRep hVS
        have hdq := ux_okR (q := (k0, s0, r0)) (ux_hd (ux_tl (ux_tl hokst))) (by show s0 % 8 < 6; omega)
        refine W.iast G.1 G.2.1 ((ux_cell1 h1).mp (hRep _ _ _ hdq)) ((G.2.2.2.2.2.1.2.2.1.2 0 _ rfl).1 _ _) (fun z => by cases z) (by rw [arrV_size]; exact hstep.1) rfl rfl hd (fun H1 e1 z oq => ?_)
        refine hK _ _ _ hstep.2 H1 _ ls hlr hokL (ux_tl (ux_tl (ux_tl hokst))) (ux_Rep_upd G.2.2.2.2.2.1.1 hdq hRep oq (fun k' s' r' hne => ux_set_other hne) ((ux_cell1 h1).mpr ?_)) (ux_vs_put hVS z oq hdq)
        rw [e1, arrV_store]
        congr 2
        funext j
        unfold updV
        rw [ux_set_self]
        split <;> rfl
      · exact hstep.elim
    · exact hstep.elim
  · simp only [ux_chd, decide_eq_true_eq] at hc
    dsimp only at hd hK
    subst hc
    split at hstep
    · rename_i x i k0 s0 r0 rest
      split at hstep
      · rename_i h1
        intro H locs ls hlr hokL hokst hRep hVS
        have hdq := ux_okR (q := (k0, s0, r0)) (ux_hd (ux_tl (ux_tl hokst))) (by show s0 % 8 < 6; omega)
        have hnr : narrow .boolean (.int x) = .int x := by rcases hstep.2.1 with rfl | rfl <;> rfl
        refine W.zast G.1 G.2.1 ((ux_cell2 h1).mp (hRep _ _ _ hdq)) ((G.2.2.2.2.2.1.2.2.1.2 1 _ rfl).1 _ _) (fun z => by cases z) (by rw [arrV_size]; exact hstep.1) rfl rfl hd (fun H1 e1 z oq => ?_)
        refine hK _ _ _ hstep.2.2 H1 _ ls hlr hokL (ux_tl (ux_tl (ux_tl hokst))) (ux_Rep_upd G.2.2.2.2.2.1.1 hdq hRep oq (fun k' s' r' hne => ux_set_other hne) ((ux_cell2 h1).mpr ?_)) (ux_vs_put hVS z oq hdq)
        rw [e1, hnr, arrV_store]
        congr 2
        funext j
        unfold updV
        rw [ux_set_self]
        split <;> rfl
      · exact hstep.elim
    · exact hstep.elim
  · simp only [ux_chd, decide_eq_true_eq] at hc
    dsimp only at hd hK
    subst hc
    split at hstep
    · rename_i i k0 s0 r0 rest
      split at hstep
      · rename_i h1
        obtain ⟨h1, h2⟩ := h1
        obtain ⟨rfl, hstep⟩ := hstep
        intro H locs ls hlr hokL hokst hRep hVS
        have hdq := ux_okR (q := (k0, s0, r0)) (ux_hd (ux_tl hokst)) (by show s0 % 8 < 6; omega)
        exact W.lald (v := .long (ux_j2 (M k0 s0 r0 0) (M k0 s0 r0 1))) G.1 G.2.1 ((ux_cell3 h1).mp (hRep _ _ _ hdq)) ((G.2.2.2.2.2.1.2.2.1.2 2 _ rfl).1 _ _) (fun z => by cases z) (by rw [arrV_size, h2]; exact ux_in01) (by rw [sb_cl0]; exact arrV_read _ _ (by rw [h2]; exact Nat.one_pos)) rfl rfl hd (hK _ _ _ hstep H locs ls hlr hokL (ux_cn trivial (ux_tl (ux_tl hokst))) hRep hVS)
      · exact hstep.elim
    · exact hstep.elim
  · simp only [ux_chd, decide_eq_true_eq] at hc
    dsimp only at hd hK
    subst hc
    split at hstep
    · rename_i x i k0 s0 r0 rest
      split at hstep
      · rename_i h1
        obtain ⟨h1, h2⟩ := h1
        obtain ⟨rfl, hstep⟩ := hstep
        intro H locs ls hlr hokL hokst hRep hVS
        have hdq := ux_okR (q := (k0, s0, r0)) (ux_hd (ux_tl (ux_tl hokst))) (by show s0 % 8 < 6; omega)
        refine W.last G.1 G.2.1 ((ux_cell3 h1).mp (hRep _ _ _ hdq)) ((G.2.2.2.2.2.1.2.2.1.2 2 _ rfl).1 _ _) (fun z => by cases z) (by rw [arrV_size, h2]; exact ux_in01) rfl rfl hd (fun H1 e1 z oq => ?_)
        refine hK _ _ _ hstep H1 _ ls hlr hokL (ux_tl (ux_tl (ux_tl hokst))) (ux_Rep_upd G.2.2.2.2.2.1.1 hdq hRep oq (fun k' s' r' hne => (ux_set_other hne).trans (ux_set_other hne)) ((ux_cell3 h1).mpr ?_)) (ux_vs_put hVS z oq hdq)
        rw [e1, sb_cl0, arrV_store, h2]
        exact congrArg some (ux_arr1 ((if_pos rfl).trans (congrArg Value.long (ux_lst M k0 s0 r0 x).symm)))
      · exact hstep.elim
    · exact hstep.elim
  · simp only [ux_chd, decide_eq_true_eq] at hc
    dsimp only at hd hK
    subst hc
    split at hstep
    · intro H locs ls hlr hokL hokst hRep hVS
      exact lv_iushr G.1 G.2.1 hd rfl (hK _ _ _ hstep H locs ls hlr hokL (ux_cn trivial (ux_tl (ux_tl hokst))) hRep hVS)
    · exact hstep.elim
  · simp only [ux_chd, decide_eq_true_eq] at hc
    dsimp only at hd hK
    subst hc
    split at hstep
    · rename_i i k0 s0 r0 rest
      split at hstep
      · rename_i h1
        intro H locs ls hlr hokL hokst hRep hVS
        have hdq := ux_okR (q := (k0, s0, r0)) (ux_hd (ux_tl hokst)) (by show s0 % 8 < 6; omega)
        have hlt : i.toNatClampNeg < 6 := Nat.not_le.mp fun z => hstep.1 (Or.inr z)
        exact W.aald (v := .ref (E.1 k0 ux_row i.toNatClampNeg)) (ty := .array .int) G.1 G.2.1 ((ux_cell4 h1.1).mp (hRep _ _ _ hdq)) ((G.2.2.2.2.2.1.2.2.1.2 3 _ rfl).1 _ _) rfl (fun z => by cases z) (by rw [arrV_size, h1.2]; exact hstep.1) (arrV_read _ _ (by rw [h1.2]; exact hlt)) rfl rfl hd (hK _ _ _ hstep.2 H locs ls hlr hokL (ux_cn (Or.inl (ux_row_dom hdq h1.1 hlt)) (ux_tl (ux_tl hokst))) hRep hVS)
      · exact hstep.elim
    · exact hstep.elim
  · simp only [ux_chd, decide_eq_true_eq] at hc
    dsimp only at hd hK
    subst hc
    split at hstep
    · rename_i k0 s0 r0 rest
      split at hstep
      · rename_i h1
        intro H locs ls hlr hokL hokst hRep hVS
        have hdq := ux_okR (q := (k0, s0, r0)) (ux_hd hokst) (by show s0 % 8 < 6; omega)
        exact W.alen (ty := .int) G.1 G.2.1 ((ux_cell1 h1).mp (hRep _ _ _ hdq)) ((G.2.2.2.2.2.1.2.2.1.2 0 _ rfl).1 _ _) (by rw [arrV_size]) rfl rfl hd (hK _ _ _ hstep H locs ls hlr hokL (ux_cn trivial (ux_tl hokst)) hRep hVS)
      · exact hstep.elim
    · exact hstep.elim
  · simp only [ux_chd, decide_eq_true_eq] at hc
    dsimp only at hd hK
    obtain ⟨hdf, hlo, hps, hhi, hbig, hos⟩ := hc
    split at hstep
    · intro H locs ls hlr hokL hokst hRep hVS
      rw [← hps] at hstep
      obtain ⟨t1, t2⟩ := ux_sw_t _ _ (by omega) hstep
      refine ux_tsw hd hlo hhi hos t1 t2 (fun off tgt h1 h2 ho ht hC => lv_tableIn G.1 G.2.1 hd h1 h2 ho ht (hJ _ _ _ _ hC H locs ls hlr hokL (ux_tl hokst) hRep hVS)) (fun hout hC => lv_tableOut G.1 G.2.1 hd hout hdf (hJ _ _ _ _ hC H locs ls hlr hokL (ux_tl hokst) hRep hVS))
    · exact hstep.elim
  · simp only [ux_chd, decide_eq_true_eq] at hc
    dsimp only at hd hK
    obtain ⟨hdf, hps, hsort, hall⟩ := hc
    split at hstep
    · intro H locs ls hlr hokL hokst hRep hVS
      rw [← hps] at hstep
      obtain ⟨t, ht, hC⟩ := ux_sw_l hdf _ hall hstep
      exact lv_lookup G.1 G.2.1 hd hsort rfl ht (hJ _ _ _ _ hC H locs ls hlr hokL (ux_tl hokst) hRep hVS)
    · exact hstep.elim
  · simp only [ux_chd, decide_eq_true_eq] at hc
    dsimp only at hd hK
    obtain ⟨rfl, hci, hcl, hk, hw, hw1, hw2⟩ := hc
    split at hstep
    · exact hstep.elim
    · split at hstep
      · rename_i k0 s0 r0 rest hdr
        split at hstep
        · rename_i hq
          obtain ⟨h5, hn, hwt, hlen⟩ := hq
          intro H locs ls hlr hokL hokst hRep hVS
          have hsplit := ux_split1 hdr
          have hok2 : ∀ v ∈ (Sum.inr (Sum.inr (k0, s0, r0)) : ux_V) :: rest, ux_okV v := fun v hv => hokst v (by rw [← hdr] at hv; exact List.mem_of_mem_drop hv)
          have hokr := ux_tl hok2
          rw [hsplit]
          refine ux_callv (q := (k0, s0, r0)) G hci hcl hk hw hw1 hw2 h5 hn (by rw [List.length_reverse]; exact hlen) hwt hstep hlr (fun v hv => hokst v (List.mem_of_mem_take (List.mem_reverse.mp hv))) (ux_hd hok2) hRep hVS hd ?_
          intro r M' H1 locs1 hok hq hR1 hS1
          split at hq
          · obtain ⟨rfl, hq⟩ := hq
            exact hK _ _ _ hq H1 locs1 ls hlr hokL hokr hR1 hS1
          · split at hq
            · obtain ⟨x, rfl, hq⟩ := hq
              exact hK _ _ _ hq H1 locs1 ls hlr hokL (ux_cn trivial hokr) hR1 hS1
            · obtain ⟨k1, s1, n1, rfl, hq⟩ := hq
              exact hK _ _ _ hq H1 locs1 ls hlr hokL (ux_cn (hok _ rfl) hokr) hR1 hS1
        · exact hstep.elim
      · exact hstep.elim
  · simp only [ux_chd, decide_eq_true_eq] at hc
    dsimp only at hd hK
    obtain ⟨rfl, hk, hw, hw1⟩ := hc
    split at hstep
    · exact hstep.elim
    · split at hstep
      · rename_i hq
        obtain ⟨hwt, hlen⟩ := hq
        intro H locs ls hlr hokL hokst hRep hVS
        have hsplit := ux_split2 hlen
        have hokr := ux_okdrop hlen hokst
        rw [hsplit]
        refine ux_calls G hk hw hw1 (by rw [List.length_reverse]; exact hlen) hwt hstep hlr (fun v hv => hokst v (List.mem_of_mem_take (List.mem_reverse.mp hv))) hRep hVS hd ?_
        intro r M' H1 locs1 hok hq hR1 hS1
        split at hq
        · obtain ⟨rfl, hq⟩ := hq
          exact hK _ _ _ hq H1 locs1 ls hlr hokL hokr hR1 hS1
        · split at hq
          · obtain ⟨x, rfl, hq⟩ := hq
            exact hK _ _ _ hq H1 locs1 ls hlr hokL (ux_cn trivial hokr) hR1 hS1
          · obtain ⟨k1, s1, n1, rfl, hq⟩ := hq
            exact hK _ _ _ hq H1 locs1 ls hlr hokL (ux_cn (hok _ rfl) hokr) hR1 hS1
      · exact hstep.elim
  · simp only [ux_chd, decide_eq_true_eq] at hc
    dsimp only at hd hK
    obtain ⟨rfl, hr⟩ := hc
    split at hstep
    · rename_i x
      intro H locs ls hlr hokL hokst hRep hVS
      have hG := G.2.2.2.2.2.2
      split at hstep
      · rename_i h0
        rw [if_pos h0] at hr
        exact W.iret (hlocks := hG.1) G.1 G.2.1 (hG.2.trans hr) (fun t ht hW => ⟨⟨some (.inl x), M, rfl, fun v hv => by cases hv; trivial, hstep, by rw [ht]; exact hRep⟩, hVS.F ht⟩) hVS.2.2 hd
      · rename_i h0
        rw [if_neg h0] at hr
        have hnr : narrow .boolean (.int x) = .int x := by rcases hstep.1 with rfl | rfl <;> rfl
        exact W.zret (hlocks := hG.1) G.1 G.2.1 (hG.2.trans hr) hnr (fun t ht hW => ⟨⟨some (.inl x), M, rfl, fun v hv => by cases hv; trivial, hstep.2, by rw [ht]; exact hRep⟩, hVS.F ht⟩) hVS.2.2 hd
    · exact hstep.elim
  · simp only [ux_chd, decide_eq_true_eq] at hc
    dsimp only at hd hK
    obtain ⟨rfl, hr⟩ := hc
    split at hstep
    · rename_i q
      intro H locs ls hlr hokL hokst hRep hVS
      have hG := G.2.2.2.2.2.2
      exact W.aret (hlocks := hG.1) G.1 G.2.1 (hG.2.trans hr) (Or.inr ⟨_, rfl⟩) (Or.inr ⟨_, rfl⟩) (fun t ht hW => ⟨⟨some (.inr (.inr q)), M, rfl, fun v hv => by cases hv; exact ux_hd hokst, hstep, by rw [ht]; exact hRep⟩, hVS.F ht⟩) hVS.2.2 hd
    · exact hstep.elim
  · simp only [ux_chd, decide_eq_true_eq] at hc
    dsimp only at hd hK
    obtain ⟨rfl, hr⟩ := hc
    split at hstep
    · intro H locs ls hlr hokL hokst hRep hVS
      have hG := G.2.2.2.2.2.2
      exact W.vret (hlocks := hG.1) G.1 G.2.1 (hG.2.trans hr) (fun t ht hW => ⟨⟨none, M, rfl, fun v hv => (by cases hv), hstep, by rw [ht]; exact hRep⟩, hVS.F ht⟩) hVS.2.2 hd
    · exact hstep.elim
  · exact hstep.elim
