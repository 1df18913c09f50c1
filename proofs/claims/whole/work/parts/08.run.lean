/-! a stretch of code; a method's contract from its body -/
def ux_jn (j : Nat) : MethodName := match j with
  | 1 => ⟨"java/lang/Math", "min", "(II)I"⟩
  | 2 => ⟨"java/lang/Math", "max", "(II)I"⟩
  | 3 => ⟨"java/lang/Integer", "bitCount", "(I)I"⟩
  | 4 => ⟨"java/lang/Math", "floorMod", "(II)I"⟩
  | 5 => ⟨"java/lang/System", "arraycopy", "(Ljava/lang/Object;ILjava/lang/Object;II)V"⟩
  | 6 => ⟨"java/lang/String", "length", "()I"⟩
  | 7 => ⟨"java/lang/String", "charAt", "(I)C"⟩
  | _ => ⟨"java/lang/Math", "min", "(JJ)J"⟩
def ux_str (j : Nat) : String := (["service", "socket", "target", "startup", "stopping", "run", "exit", "fails", "restart", "delay", "limit", "idle", "never", "failure", "always", "requires", "wants", "binds", "partof", "conflicts", "after", "before"] : List String).getD j ""
def ux_chs : ux_Chs := fun own _ ig n j da => match ig, j, da with
  | .invokestatic i, 1, [p] => decide (n = 3 ∧ lw_tbl[p]? = some (.methodLink own i (ux_jn 1)))
  | .invokestatic i, 2, [p] => decide (n = 3 ∧ lw_tbl[p]? = some (.methodLink own i (ux_jn 2)))
  | .invokestatic i, 3, [p] => decide (n = 3 ∧ lw_tbl[p]? = some (.methodLink own i (ux_jn 3)))
  | .invokestatic i, 4, [p] => decide (n = 3 ∧ lw_tbl[p]? = some (.methodLink own i (ux_jn 4)))
  | .invokestatic i, 5, [p] => decide (n = 3 ∧ lw_tbl[p]? = some (.methodLink own i (ux_jn 5)))
  | .invokevirtual i, 6, [p] => decide (n = 3 ∧ lw_tbl[p]? = some (.methodLink own i (ux_jn 6)))
  | .invokevirtual i, 7, [p] => decide (n = 3 ∧ lw_tbl[p]? = some (.methodLink own i (ux_jn 7)))
  | .invokestatic i, 10, [p] => decide (n = 3 ∧ lw_tbl[p]? = some (.methodLink own i (ux_jn 10)))
  | .getstatic i, 8, [s, p] => decide (n = 3 ∧ own = "ServiceManager$Reader" ∧ ((s = 1310806 ∧ lw_tbl[p]? = some (.fieldLink own i own "LEAST" "[I")) ∨ (s = 1327190 ∧ lw_tbl[p]? = some (.fieldLink own i own "GREATEST" "[I"))))
  | .ldc i, 8, [s, k, p] => decide (n = 2 ∧ k < 22 ∧ s = ux_wd k ∧ lw_tbl[p]? = some (.stringRef own i (ux_str k)))
  | .ldc_w i, 8, [s, k, p] => decide (n = 3 ∧ k < 22 ∧ s = ux_wd k ∧ lw_tbl[p]? = some (.stringRef own i (ux_str k)))
  | .iaload, 9, [] => decide (n = 1)
  | _, _, _ => false
section UXR
variable {l : Launch} {E : ux_E} {d : Nat} {y : ux_Y}
theorem ux_run_snd {chs : ux_Chs} (hS : ux_SpecOK l E chs) {p : Program} {e : Env} {s : State} {m : MethodId} {args : Array Value} {below : List Frame} {meth : Method} {c : Code} {R : Option ux_V → ux_M → Prop} {J : Nat → ux_L → List ux_V → ux_M → Prop} (G : ux_G l E y p s m args meth c)
    (hJ : ∀ t L' st' M', J t L' st' M' → ux_Wt l E d y p e s m args below meth c R t L' st' M') : ∀ (ops : List ux_op) (pc : Nat) (L : ux_L) (st : List ux_V) (M : ux_M), ux_chks chs y.1.cls y.2.2.2 y.2.1 pc ops = true → ux_run l E d R J ops pc L st M → ux_Wt l E d y p e s m args below meth c R pc L st M := by
  intro ops
  induction ops with
  | nil => intro pc L st M _ h; exact hJ _ _ _ _ h
  | cons op ops ih =>
    intro pc L st M hc h
    unfold ux_chks at hc
    rw [Bool.and_eq_true] at hc
    exact ux_step_snd hS G hc.1 h (fun L' st' M' h' => ih _ _ _ _ hc.2 h') hJ
/-- a stretch of code from pc on: what is asked of it, and of the places to which it comes, holds of pc -/
theorem ux_seg (hS : ux_SpecOK l E ux_chs) {ops : List ux_op} {pc : Nat} {L : ux_L} {st : List ux_V} {M : ux_M} {Q : Option ux_V → ux_M → Prop} (hc : ux_chks ux_chs y.1.cls y.2.2.2 y.2.1 pc ops = true)
    (h : ux_run l E d Q (fun pc' L' st' M' => ux_At l E d y pc' L' st' M' Q) ops pc L st M) : ux_At l E d y pc L st M Q :=
  fun p e s m args below meth c G => ux_run_snd hS G (fun t L' st' M' h' => h' p e s m args below meth c G) ops pc L st M hc h
def ux_mask : List Bool → ux_L → ux_L
  | true :: bs, v :: L => v :: ux_mask bs L
  | false :: bs, _ :: L => none :: ux_mask bs L
  | _, _ => []
theorem ux_mask_len : ∀ (bs : List Bool) (L : ux_L), (ux_mask bs L).length ≤ L.length
  | true :: bs, v :: L => by simp only [ux_mask, List.length_cons]; have := ux_mask_len bs L; omega
  | false :: bs, v :: L => by simp only [ux_mask, List.length_cons]; have := ux_mask_len bs L; omega
  | [], _ => by simp [ux_mask]
  | _ :: _, [] => by simp [ux_mask]
theorem ux_mask_at : ∀ (bs : List Bool) (L : ux_L) (i : Nat) (v : ux_V), (ux_mask bs L)[i]? = some (some v) → L[i]? = some (some v)
  | true :: bs, w :: L, i, v, h => by
    cases i with
    | zero => simpa [ux_mask] using h
    | succ i => simp only [ux_mask, List.getElem?_cons_succ] at h ⊢; exact ux_mask_at bs L i v h
  | false :: bs, w :: L, i, v, h => by
    cases i with
    | zero => simp [ux_mask] at h
    | succ i => simp only [ux_mask, List.getElem?_cons_succ] at h ⊢; exact ux_mask_at bs L i v h
  | [], _, i, v, h => by simp [ux_mask] at h
  | true :: _, [], i, v, h => by simp [ux_mask] at h
  | false :: _, [], i, v, h => by simp [ux_mask] at h
/-- locals that are asked for no more -/
theorem ux_drop {pc : Nat} {L : ux_L} {st : List ux_V} {M : ux_M} {Q : Option ux_V → ux_M → Prop} (bs : List Bool) (h : ux_At l E d y pc (ux_mask bs L) st M Q) : ux_At l E d y pc L st M Q := by
  intro p e s m args below meth c G H locs ls hlr hokL hokst hRep hVS
  exact h p e s m args below meth c G H locs ls ⟨hlr.1, hlr.2.1, Nat.le_trans (ux_mask_len bs L) hlr.2.2.1, fun i v hv => hlr.2.2.2 i v (ux_mask_at bs L i v hv)⟩ (fun i v hv => hokL i v (ux_mask_at bs L i v hv)) hokst hRep hVS
theorem ux_post_mono {Q Q' : Option ux_V → ux_M → Prop} (h : ∀ r M', Q r M' → Q' r M') {a : Array Value} {st : State} {o : Outcome} {t : State} (hp : ux_post E Q a st o t) : ux_post E Q' a st o t := by
  obtain ⟨⟨r, M', h1, h2, h3, h4⟩, h5⟩ := hp
  exact ⟨⟨r, M', h1, h2, h _ _ h3, h4⟩, h5⟩
theorem ux_At.mono {pc : Nat} {L : ux_L} {st : List ux_V} {M : ux_M} {Q Q' : Option ux_V → ux_M → Prop} (h : ux_At l E d y pc L st M Q) (hq : ∀ r M', Q r M' → Q' r M') : ux_At l E d y pc L st M Q' := by
  intro p e s m args below meth c G H locs ls hlr hokL hokst hRep hVS T hT X
  obtain ⟨t, h1, o, h2, h3, h4, h5⟩ := h p e s m args below meth c G H locs ls hlr hokL hokst hRep hVS T hT X
  exact ⟨t, h1, o, h2, h3, ux_post_mono hq h4, h5⟩
theorem ux_Call.mono {args : List ux_V} {M : ux_M} {Q Q' : Option ux_V → ux_M → Prop} (h : ux_Call l E d y args M Q) (hq : ∀ r M', Q r M' → Q' r M') : ux_Call l E d y args M Q' := by
  refine ⟨h.1, fun hok => ?_⟩
  intro p e ha hc hk s m as below hf hfit hP hK
  obtain ⟨n, o, h1, h2, h3, h4, h5⟩ := h.2 hok p e ha hc hk s m as below hf hfit hP hK
  exact ⟨n, o, h1, h2, h3, ux_post_mono hq h4, h5⟩
theorem ux_CI.mono {Q Q' : Int32 → ux_M → Prop} (h : ∀ x M', Q x M' → Q' x M') : ∀ r M', ux_CI Q r M' → ux_CI Q' r M' := fun r M' ⟨x, h1, h2⟩ => ⟨x, h1, h x M' h2⟩
theorem ux_CV.mono {Q Q' : ux_M → Prop} (h : ∀ M', Q M' → Q' M') : ∀ r M', ux_CV Q r M' → ux_CV Q' r M' := fun r M' ⟨h1, h2⟩ => ⟨h1, h M' h2⟩
def ux_ini (args : List ux_V) : ux_L := args.flatMap (fun v => match v with
  | .inr (.inl _) => [some v, none]
  | _ => [some v])
theorem ux_ini_len (E : ux_E) : ∀ (args : List ux_V), (lg_sl (args.map (ux_rho E))).length = (ux_ini args).length
  | [] => rfl
  | a :: args => by
    have ih := ux_ini_len E args
    rcases a with x | x | q
    · simp only [lg_sl, ux_ini, List.map_cons, List.flatMap_cons, List.length_append] at ih ⊢; rw [ih]; rfl
    · simp only [lg_sl, ux_ini, List.map_cons, List.flatMap_cons, List.length_append] at ih ⊢; rw [ih]; rfl
    · simp only [lg_sl, ux_ini, List.map_cons, List.flatMap_cons, List.length_append] at ih ⊢; rw [ih]; rfl
theorem ux_ini_at (E : ux_E) : ∀ (args : List ux_V) (k i : Nat) (v : ux_V), (ux_ini args)[i]? = some (some v) → (k + i, ux_rho E v) ∈ lv_args k (args.map (ux_rho E))
  | [], k, i, v, h => by simp [ux_ini] at h
  | a :: args, k, i, v, h => by
    have ih := ux_ini_at E args
    rcases a with x | x | q
    · cases i with
      | zero => simp [ux_ini] at h; subst h; exact List.mem_cons_self
      | succ i =>
        have h' : (ux_ini args)[i]? = some (some v) := by simpa [ux_ini] using h
        have := ih (k + 1) i v h'
        rw [show k + (i + 1) = k + 1 + i by omega]
        exact List.mem_cons_of_mem _ this
    · match i, h with
      | 0, h => simp [ux_ini] at h; subst h; exact List.mem_cons_self
      | 1, h => simp [ux_ini] at h
      | i + 2, h =>
        have h' : (ux_ini args)[i]? = some (some v) := by simpa [ux_ini] using h
        have := ih (k + 2) i v h'
        rw [show k + (i + 2) = k + 2 + i by omega]
        exact List.mem_cons_of_mem _ this
    · cases i with
      | zero => simp [ux_ini] at h; subst h; exact List.mem_cons_self
      | succ i =>
        have h' : (ux_ini args)[i]? = some (some v) := by simpa [ux_ini] using h
        have := ih (k + 1) i v h'
        rw [show k + (i + 1) = k + 1 + i by omega]
        exact List.mem_cons_of_mem _ this
theorem ux_ini_pad {args : List ux_V} {n i : Nat} {v : ux_V} (h : (ux_ini args ++ List.replicate n none)[i]? = some (some v)) : (ux_ini args)[i]? = some (some v) := by
  rw [List.getElem?_append] at h
  split at h
  · exact h
  · rw [List.getElem?_replicate] at h
    split at h <;> simp at h
theorem ux_ini_ok {args : List ux_V} (hok : ∀ v ∈ args, ux_okV v) {i : Nat} {v : ux_V} (h : (ux_ini args)[i]? = some (some v)) : ux_okV v := by
  have h1 : some v ∈ ux_ini args := List.mem_of_getElem? h
  unfold ux_ini at h1
  obtain ⟨a, ha, h2⟩ := List.mem_flatMap.mp h1
  have := hok a ha
  rcases a with x | x | q
  · simp at h2; rw [h2]; exact this
  · simp at h2; rw [h2]; exact this
  · simp at h2; rw [h2]; exact this
/-- A METHOD FROM ITS ENTRY -/
theorem ux_meth (hMO : ux_MO y) {args : List ux_V} {M : ux_M} {Q : Option ux_V → ux_M → Prop} (n : Nat) (hn : (ux_ini args ++ List.replicate n none).length = y.2.2.1) (h : ux_At l E d y 0 (ux_ini args ++ List.replicate n none) [] M Q) : ux_Call l E d y args M Q := by
  refine ⟨hMO, fun hok => ?_⟩
  refine Met.ofW (cc := y.2.1) (maxL := y.2.2.1) (ret := y.2.2.2) hMO.2.1 rfl ?_
  intro p e s m as below meth c s₁ B hml hv
  obtain ⟨rfl, hRep, hK⟩ := hv
  have hle : (lg_sl (args.map (ux_rho E))).length ≤ y.2.2.1 := by
    rw [ux_ini_len, ← hn, List.length_append]; omega
  have hl := lv_entry (args.map (ux_rho E)) (n := y.2.2.1) hle
  rw [lg_entry_eq]
  generalize (lg_sl (args.map (ux_rho E)) ++ List.replicate (y.2.2.1 - (lg_sl (args.map (ux_rho E))).length) Slot.unset).toArray = ls at hl ⊢
  refine h p e s m _ below meth c ⟨B.exec, B.bytes, hml, findClass_of_methodNamed B.named, atoms_spec (ws := ux_ws y) B.pre, hK, B.notSynchronized, B.returns⟩ s.heap [] ls ⟨hl.1, hl.2.1, Nat.le_of_eq hn, fun i v hi => ?_⟩ (fun i v hi => ux_ini_ok hok (ux_ini_pad hi)) (fun v hv => by cases hv) hRep va_S.rf
  have := ux_ini_at E args 0 i v (ux_ini_pad hi)
  rw [Nat.zero_add] at this
  exact hl.2.2 _ this
end UXR
