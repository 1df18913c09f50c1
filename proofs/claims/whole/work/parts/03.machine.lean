/-! THE SMALL MACHINE: values, memory, locals; what an instruction does to them; when a frame 'stands' over them -/
abbrev ux_V : Type := Int32 ⊕ (Int64 ⊕ (Nat × Nat × Nat))
abbrev ux_M : Type := Nat → Nat → Nat → Nat → Int32
abbrev ux_L : Type := List (Option ux_V)
/-- where the cells lie; the classes' numbers and slots; the array classes; what is read only -/
abbrev ux_E : Type := (Nat → Nat → Nat → Nat) × va_G × (Nat → ClassId) × (State → Heap → Prop)
abbrev ux_Y : Type := MethodName × ByteArray × Nat × Option FieldType
abbrev ux_op : Type := Instr × Nat × List Nat × Int32 × ux_Y
abbrev aI (x : Int32) : ux_V := .inl x
abbrev aL (x : Int64) : ux_V := .inr (.inl x)
abbrev aR (k s r : Nat) : ux_V := .inr (.inr (k, s, r))
def ux_set (M : ux_M) (k s r i : Nat) (v : Int32) : ux_M := fun a b c d => if a = k ∧ b = s ∧ c = r ∧ d = i then v else M a b c d
def ux_cpy (M : ux_M) (k s r : Nat) (f : Nat → Int32) : ux_M := fun a b c d => if a = k ∧ b = s ∧ c = r then f d else M a b c d
def ux_rho (E : ux_E) : ux_V → Value
  | .inl x => .int x
  | .inr (.inl x) => .long x
  | .inr (.inr q) => .ref (E.1 q.1 q.2.1 q.2.2)
def ux_dom (k s r : Nat) : Bool := ux_domL.any (fun q => q.1 == s && (decide (q.2.1 ≤ k) && (decide (k < q.2.2.1) && decide (r < q.2.2.2))))
def ux_words : List (List Nat) := [[115,101,114,118,105,99,101],[115,111,99,107,101,116],[116,97,114,103,101,116],[115,116,97,114,116,117,112],[115,116,111,112,112,105,110,103],[114,117,110],[101,120,105,116],[102,97,105,108,115],[114,101,115,116,97,114,116],[100,101,108,97,121],[108,105,109,105,116],[105,100,108,101],[110,101,118,101,114],[102,97,105,108,117,114,101],[97,108,119,97,121,115],[114,101,113,117,105,114,101,115],[119,97,110,116,115],[98,105,110,100,115],[112,97,114,116,111,102],[99,111,110,102,108,105,99,116,115],[97,102,116,101,114],[98,101,102,111,114,101]]
/-- a word as a value: kind 7, its length, its place in ux_words (from 100) -/
def ux_wd (j : Nat) : Nat := 7 + 8 * ((ux_words.getD j []).length + 2048 * (100 + j))
/-- a row or a word that is read only -/
def ux_cst (k s r : Nat) : Prop := k = 0 ∧ r = 0 ∧ (s = 1310806 ∨ s = 1327190 ∨ ∃ j, j < 22 ∧ s = ux_wd j)
def ux_okV : ux_V → Prop
  | .inr (.inr q) => ux_dom q.1 q.2.1 q.2.2 = true ∨ ux_cst q.1 q.2.1 q.2.2
  | _ => True
abbrev ux_kd (s : Nat) : Nat := s % 8
abbrev ux_n (s : Nat) : Nat := s / 8 % 2048
def ux_tg (m k : Nat) : Nat := match m with
  | 0 => k
  | j + 1 => j
def ux_row : Nat := 475265
def ux_fv (E : ux_E) (k s r c f : Nat) (M : ux_M) : Value :=
  if (ux_fs c f).1 = 1 then .ref (E.1 (ux_tg (ux_fs c f).2.1 k) (ux_fs c f).2.2 0)
  else if (ux_fs c f).1 = 2 then .ref (if M k s r f = 1 then E.1 (ux_tg (ux_fs c f).2.1 k) (ux_fs c f).2.2 0 else E.1 4 ux_empty 0)
  else .int (M k s r f)
/-- a long as two ints -/
def ux_j2 (lo hi : Int32) : Int64 := Int64.ofBitVec (hi.toBitVec ++ lo.toBitVec)
def ux_lo (x : Int64) : Int32 := Int32.ofBitVec (x.toBitVec.extractLsb' 0 32)
def ux_hi (x : Int64) : Int32 := Int32.ofBitVec (x.toBitVec.extractLsb' 32 32)
def ux_cell (E : ux_E) (M : ux_M) (k s r : Nat) (H : Heap) : Prop :=
  if s % 8 = 1 then H[E.1 k s r]? = some (arrV (E.2.2.1 1) (ux_n s) (fun j => .int (M k s r j)))
  else if s % 8 = 2 then H[E.1 k s r]? = some (arrV (E.2.2.1 2) (ux_n s) (fun j => .int (M k s r j)))
  else if s % 8 = 3 then H[E.1 k s r]? = some (arrV (E.2.2.1 3) (ux_n s) (fun j => .long (ux_j2 (M k s r (2 * j)) (M k s r (2 * j + 1)))))
  else if s % 8 = 4 then H[E.1 k s r]? = some (arrV (E.2.2.1 4) (ux_n s) (fun j => .ref (E.1 k ux_row j)))
  else t_OB (E.1 k s r) (E.2.1.1 (ux_n s)) (ux_nf (ux_n s)) (E.2.1.2 (ux_n s)) H (fun f => ux_fv E k s r (ux_n s) f M)
def ux_Rep (E : ux_E) (M : ux_M) (H : Heap) : Prop := ∀ k s r : Nat, ux_dom k s r = true → ux_cell E M k s r H
def ux_A (E : ux_E) : Nat → Prop := fun q => ∃ k s r : Nat, ux_dom k s r = true ∧ q = E.1 k s r
def ux_inj (E : ux_E) : Prop := ∀ k s r k' s' r' : Nat, ux_dom k s r = true → ux_dom k' s' r' = true → E.1 k s r = E.1 k' s' r' → k = k' ∧ s = s' ∧ r = r'
def ux_isNest : Cond → Bool
  | .fieldLinkNest .. => true
  | .methodLinkNest .. => true
  | _ => false
def ux_clo (E : ux_E) : Prop := (∀ (u U : State) (H H' : Heap), u.WarmedH U.vm → (∀ q : Nat, q < H.size → ¬ ux_A E q → H'[q]? = H[q]?) → E.2.2.2 u H → E.2.2.2 U H') ∧ ∀ (u U : State) (H : Heap), u.vm = U.vm → E.2.2.2 u H → E.2.2.2 U H
abbrev ux_tys (E : ux_E) : List (ClassId × FieldType) := [(E.2.2.1 1, .int), (E.2.2.1 2, .boolean), (E.2.2.1 3, .long), (E.2.2.1 4, .array .int)]
def ux_K (E : ux_E) (U : State) (H : Heap) : Prop := ux_inj E ∧ ux_clo E ∧ va_K E.2.1 ux_cl (ux_tys E) U ∧ (∀ w ∈ lw_tbl, ux_isNest w = true → va_Nw w U) ∧ E.2.2.2 U H
def ux_good : List Cond := lw_tbl.filter goodWord
def ux_ws (y : ux_Y) : List Cond := Cond.code y.1 y.2.1 y.2.2.1 y.2.2.2 :: ux_good
def uy_room (d : Nat) : Room := { frames := d, cells := 0, slots := 0, locals := 60 * d + 60 }
/-- four frames more: the JDK's own members call further ones -/
def ux_room (d : Nat) : Room := uy_room (d + 4)
def ux_post (E : ux_E) (Q : Option ux_V → ux_M → Prop) : Array Value → State → Outcome → State → Prop := fun _ st o t =>
  (∃ (r : Option ux_V) (M' : ux_M), o = .returned (r.map (ux_rho E)) ∧ (∀ v, r = some v → ux_okV v) ∧ Q r M' ∧ ux_Rep E M' t.heap) ∧ va_F (ux_A E) st t
/-- what the tables say of a method -/
def ux_MO (y : ux_Y) : Prop := Cond.code y.1 y.2.1 y.2.2.1 y.2.2.2 ∈ lw_tbl ∧ plainName y.1.cls = true ∧ Cond.initialized y.1.cls ∈ lw_tbl ∧ (y.1.cls ≠ "java/lang/invoke/MethodHandle" ∧ y.1.cls ≠ "java/lang/invoke/VarHandle") ∧ y.2.2.1 ≤ 30
/-- A METHOD'S CONTRACT: called with these arguments over this memory it returns, and Q holds of its answer and of the memory then -/
def ux_Call (l : Launch) (E : ux_E) (d : Nat) (y : ux_Y) (args : List ux_V) (M : ux_M) (Q : Option ux_V → ux_M → Prop) : Prop :=
  ux_MO y ∧ ((∀ v ∈ args, ux_okV v) → Met l y.1 (ux_ws y) (ux_room d) (va_Pc (args.map (ux_rho E)) (fun U => ux_Rep E M U.heap ∧ ux_K E U U.heap)) (ux_post E Q) 0 0 (ux_A E))
def ux_CI (Q : Int32 → ux_M → Prop) : Option ux_V → ux_M → Prop := fun r M' => ∃ x : Int32, r = some (.inl x) ∧ Q x M'
def ux_CL (Q : Int64 → ux_M → Prop) : Option ux_V → ux_M → Prop := fun r M' => ∃ x : Int64, r = some (.inr (.inl x)) ∧ Q x M'
def ux_CV (Q : ux_M → Prop) : Option ux_V → ux_M → Prop := fun r M' => r = none ∧ Q M'
def ux_CR (Q : Nat → Nat → Nat → ux_M → Prop) : Option ux_V → ux_M → Prop := fun r M' => ∃ k s n : Nat, r = some (.inr (.inr (k, s, n))) ∧ Q k s n M'
def ux_lg (L : ux_L) (i : Nat) : Option ux_V := match L[i]? with
  | some (some v) => some v
  | _ => none
def ux_cut (L : ux_L) (i : Nat) : ux_L := match i with
  | 0 => L
  | j + 1 => match ux_lg L j with
    | some (.inr (.inl _)) => L.set j none
    | _ => L
def ux_st (L : ux_L) (i : Nat) (v : ux_V) : ux_L := (ux_cut L i).set i (some v)
def ux_st2 (L : ux_L) (i : Nat) (v : ux_V) : ux_L := ((ux_cut L i).set i (some v)).set (i + 1) none
def ux_wt : List ux_V → Nat
  | [] => 0
  | .inr (.inl _) :: l => 2 + ux_wt l
  | _ :: l => 1 + ux_wt l
/-- the bits of a number, as Integer.bitCount counts them -/
def ux_bc (x : Int32) : Int32 :=
  let a := x - ((x.toUInt32 >>> ((1 : Int32).toUInt32 &&& Int32.toUInt32 31)).toInt32 &&& 1431655765)
  let b := (a &&& 858993459) + ((a.toUInt32 >>> ((2 : Int32).toUInt32 &&& Int32.toUInt32 31)).toInt32 &&& 858993459)
  let c := (b + (b.toUInt32 >>> ((4 : Int32).toUInt32 &&& Int32.toUInt32 31)).toInt32) &&& 252645135
  let e := c + (c.toUInt32 >>> ((8 : Int32).toUInt32 &&& Int32.toUInt32 31)).toInt32
  let f := e + (e.toUInt32 >>> ((16 : Int32).toUInt32 &&& Int32.toUInt32 31)).toInt32
  f &&& 63
def ux_fm (x y : Int32) : Int32 := let m := x - x / y * y; if (x ^^^ y) < 0 ∧ m ≠ 0 then m + y else m
/-- constants that are read only: LEAST, GREATEST, and the letters of the words -/
def ux_ro (s i : Nat) : Int32 := if s = 1310806 then ([0, 0, 0, 0, 0, 0, 1, 1, 1, 0] : List Int32).getD i 0 else ([100, 100, 1000, 255, 9, 2, 100, 9, 1000, 1000] : List Int32).getD i 0
/-- what the further members do: the stack and the memory behind them -/
def ux_spec (j : Nat) (da : List Nat) (st : List ux_V) (M : ux_M) (K : List ux_V → ux_M → Prop) : Prop := match j with
  | 1 => match st with
    | .inl y :: .inl x :: rest => K (.inl (if x < y then x else y) :: rest) M
    | _ => False
  | 2 => match st with
    | .inl y :: .inl x :: rest => K (.inl (if x < y then y else x) :: rest) M
    | _ => False
  | 3 => match st with
    | .inl x :: rest => K (.inl (ux_bc x) :: rest) M
    | _ => False
  | 4 => match st with
    | .inl y :: .inl x :: rest => ¬ y = 0 ∧ K (.inl (ux_fm x y) :: rest) M
    | _ => False
  | 5 => match st with
    | .inl n :: .inl dp :: .inr (.inr (k0, s0, r0)) :: .inl sp :: .inr (.inr (k1, s1, r1)) :: rest =>
      if s0 % 8 = 1 ∧ s1 % 8 = 1 then
        (¬ sp < 0 ∧ ¬ dp < 0 ∧ ¬ n < 0 ∧ sp.toNatClampNeg + n.toNatClampNeg ≤ ux_n s1 ∧ dp.toNatClampNeg + n.toNatClampNeg ≤ ux_n s0) ∧
          K rest (ux_cpy M k0 s0 r0 (va_cpy (M k1 s1 r1) (M k0 s0 r0) sp.toNatClampNeg dp.toNatClampNeg n.toNatClampNeg))
      else False
    | _ => False
  | 6 => match st with
    | .inr (.inr (k0, s0, r0)) :: rest => if s0 % 8 = 7 then K (.inl (Int32.ofNat (ux_n s0)) :: rest) M else False
    | _ => False
  | 7 => match st with
    | .inl i :: .inr (.inr (k0, s0, r0)) :: rest => if s0 % 8 = 7 then vp_in i (ux_n s0) ∧ K (.inl (Int32.ofNat ((ux_words.getD (s0 / 16384 - 100) []).getD i.toNatClampNeg 0)) :: rest) M else False
    | _ => False
  | 8 => match da with
    | s :: _ => K (.inr (.inr (0, s, 0)) :: st) M
    | _ => False
  | 9 => match st with
    | .inl i :: .inr (.inr (k0, s0, r0)) :: rest => if s0 % 8 = 6 then vp_in i (ux_n s0) ∧ K (.inl (ux_ro s0 i.toNatClampNeg) :: rest) M else False
    | _ => False
  | 10 => match st with
    | .inr (.inl y) :: .inr (.inl x) :: rest => K (.inr (.inl (if x < y then x else y)) :: rest) M
    | _ => False
  | _ => False
def ux_sw (x : Int32) (C : Nat → Prop) (td : Nat) : List Nat → Prop
  | v :: t :: ps => (x = Int32.ofNat v → C t) ∧ (¬ x = Int32.ofNat v → ux_sw x C td ps)
  | _ => C td
/-- what one instruction does: K goes on behind it, J at a target, R with an answer -/
def ux_step (l : Launch) (E : ux_E) (d : Nat) (op : ux_op) (L : ux_L) (st : List ux_V) (M : ux_M) (K : ux_L → List ux_V → ux_M → Prop) (J : Nat → ux_L → List ux_V → ux_M → Prop) (R : Option ux_V → ux_M → Prop) : Prop :=
  match op with
  | (ig, _, 9 :: j :: da, _, _) => match d with
    | 0 => False
    | _ + 1 => if ux_wt st ≤ 9 then ux_spec j da st M (fun st' M' => K L st' M') else False
  | (.iconst _, _, [], v, _) => K L (.inl v :: st) M
  | (.bipush _, _, [], v, _) => K L (.inl v :: st) M
  | (.sipush _, _, [], v, _) => K L (.inl v :: st) M
  | (.ldc _, _, [_], v, _) => K L (.inl v :: st) M
  | (.ldc_w _, _, [_], v, _) => K L (.inl v :: st) M
  | (.lconst _, _, [], v, _) => K L (.inr (.inl v.toInt64) :: st) M
  | (.ldc2_w _, _, [0, a, _], _, _) => K L (.inr (.inl (Int64.ofNat a)) :: st) M
  | (.iload_n _, _, [i], _, _) => match ux_lg L i with
    | some (.inl x) => K L (.inl x :: st) M
    | _ => False
  | (.iload _, _, [i], _, _) => match ux_lg L i with
    | some (.inl x) => K L (.inl x :: st) M
    | _ => False
  | (.lload_n _, _, [i], _, _) => match ux_lg L i with
    | some (.inr (.inl x)) => K L (.inr (.inl x) :: st) M
    | _ => False
  | (.lload _, _, [i], _, _) => match ux_lg L i with
    | some (.inr (.inl x)) => K L (.inr (.inl x) :: st) M
    | _ => False
  | (.aload_n _, _, [i], _, _) => match ux_lg L i with
    | some (.inr (.inr q)) => K L (.inr (.inr q) :: st) M
    | _ => False
  | (.aload _, _, [i], _, _) => match ux_lg L i with
    | some (.inr (.inr q)) => K L (.inr (.inr q) :: st) M
    | _ => False
  | (.istore_n _, _, [i], _, _) => match st with
    | .inl x :: rest => if i < L.length then K (ux_st L i (.inl x)) rest M else False
    | _ => False
  | (.istore _, _, [i], _, _) => match st with
    | .inl x :: rest => if i < L.length then K (ux_st L i (.inl x)) rest M else False
    | _ => False
  | (.astore_n _, _, [i], _, _) => match st with
    | .inr (.inr q) :: rest => if i < L.length then K (ux_st L i (.inr (.inr q))) rest M else False
    | _ => False
  | (.astore _, _, [i], _, _) => match st with
    | .inr (.inr q) :: rest => if i < L.length then K (ux_st L i (.inr (.inr q))) rest M else False
    | _ => False
  | (.lstore_n _, _, [i], _, _) => match st with
    | .inr (.inl x) :: rest => if i + 1 < L.length then K (ux_st2 L i (.inr (.inl x))) rest M else False
    | _ => False
  | (.lstore _, _, [i], _, _) => match st with
    | .inr (.inl x) :: rest => if i + 1 < L.length then K (ux_st2 L i (.inr (.inl x))) rest M else False
    | _ => False
  | (.iinc _ _, _, [i], v, _) => match ux_lg L i with
    | some (.inl x) => K (ux_st L i (.inl (x + v))) st M
    | _ => False
  | (.iadd, _, [], _, _) => match st with
    | .inl y :: .inl x :: rest => K L (.inl (x + y) :: rest) M
    | _ => False
  | (.isub, _, [], _, _) => match st with
    | .inl y :: .inl x :: rest => K L (.inl (x - y) :: rest) M
    | _ => False
  | (.imul, _, [], _, _) => match st with
    | .inl y :: .inl x :: rest => K L (.inl (x * y) :: rest) M
    | _ => False
  | (.irem, _, [], _, _) => match st with
    | .inl y :: .inl x :: rest => ¬ y = 0 ∧ K L (.inl (x - x / y * y) :: rest) M
    | _ => False
  | (.ineg, _, [], _, _) => match st with
    | .inl x :: rest => K L (.inl (-x) :: rest) M
    | _ => False
  | (.iand, _, [], _, _) => match st with
    | .inl y :: .inl x :: rest => K L (.inl (x &&& y) :: rest) M
    | _ => False
  | (.ior, _, [], _, _) => match st with
    | .inl y :: .inl x :: rest => K L (.inl (x ||| y) :: rest) M
    | _ => False
  | (.ixor, _, [], _, _) => match st with
    | .inl y :: .inl x :: rest => K L (.inl (x ^^^ y) :: rest) M
    | _ => False
  | (.ishl, _, [], _, _) => match st with
    | .inl y :: .inl x :: rest => K L (.inl (x <<< (y &&& 31)) :: rest) M
    | _ => False
  | (.ishr, _, [], _, _) => match st with
    | .inl y :: .inl x :: rest => K L (.inl (x >>> (y &&& 31)) :: rest) M
    | _ => False
  | (.land, _, [], _, _) => match st with
    | .inr (.inl y) :: .inr (.inl x) :: rest => K L (.inr (.inl (x &&& y)) :: rest) M
    | _ => False
  | (.lor, _, [], _, _) => match st with
    | .inr (.inl y) :: .inr (.inl x) :: rest => K L (.inr (.inl (x ||| y)) :: rest) M
    | _ => False
  | (.ladd, _, [], _, _) => match st with
    | .inr (.inl y) :: .inr (.inl x) :: rest => K L (.inr (.inl (x + y)) :: rest) M
    | _ => False
  | (.lsub, _, [], _, _) => match st with
    | .inr (.inl y) :: .inr (.inl x) :: rest => K L (.inr (.inl (x - y)) :: rest) M
    | _ => False
  | (.lmul, _, [], _, _) => match st with
    | .inr (.inl y) :: .inr (.inl x) :: rest => K L (.inr (.inl (x * y)) :: rest) M
    | _ => False
  | (.lushr, _, [], _, _) => match st with
    | .inl y :: .inr (.inl x) :: rest => K L (.inr (.inl ((x.toUInt64 >>> (y.toInt64.toUInt64 &&& Int64.toUInt64 63)).toInt64)) :: rest) M
    | _ => False
  | (.lshl, _, [], _, _) => match st with
    | .inl y :: .inr (.inl x) :: rest => K L (.inr (.inl (x <<< (y.toInt64 &&& 63))) :: rest) M
    | _ => False
  | (.lcmp, _, [], _, _) => match st with
    | .inr (.inl y) :: .inr (.inl x) :: rest => K L (.inl (lg_cmp x y) :: rest) M
    | _ => False
  | (.i2l, _, [], _, _) => match st with
    | .inl x :: rest => K L (.inr (.inl x.toInt64) :: rest) M
    | _ => False
  | (.l2i, _, [], _, _) => match st with
    | .inr (.inl x) :: rest => K L (.inl x.toInt32 :: rest) M
    | _ => False
  | (.dup, _, [], _, _) => match st with
    | .inl x :: rest => K L (.inl x :: .inl x :: rest) M
    | .inr (.inr x) :: rest => K L (.inr (.inr x) :: .inr (.inr x) :: rest) M
    | _ => False
  | (.dup2, _, [], _, _) => match st with
    | .inl x :: .inr (.inr z) :: rest => K L (.inl x :: .inr (.inr z) :: .inl x :: .inr (.inr z) :: rest) M
    | _ => False
  | (.pop, _, [], _, _) => match st with
    | .inl _ :: rest => K L rest M
    | _ => False
  | (.goto _, _, [t], _, _) => J t L st M
  | (.ifCond .eq _, _, [t], _, _) => match st with
    | .inl x :: rest => (x = 0 → J t L rest M) ∧ (¬ x = 0 → K L rest M)
    | _ => False
  | (.ifCond .ne _, _, [t], _, _) => match st with
    | .inl x :: rest => (¬ x = 0 → J t L rest M) ∧ (x = 0 → K L rest M)
    | _ => False
  | (.ifCond .lt _, _, [t], _, _) => match st with
    | .inl x :: rest => (x < 0 → J t L rest M) ∧ (¬ x < 0 → K L rest M)
    | _ => False
  | (.ifCond .ge _, _, [t], _, _) => match st with
    | .inl x :: rest => (0 ≤ x → J t L rest M) ∧ (¬ 0 ≤ x → K L rest M)
    | _ => False
  | (.ifCond .gt _, _, [t], _, _) => match st with
    | .inl x :: rest => (0 < x → J t L rest M) ∧ (¬ 0 < x → K L rest M)
    | _ => False
  | (.ifCond .le _, _, [t], _, _) => match st with
    | .inl x :: rest => (x ≤ 0 → J t L rest M) ∧ (¬ x ≤ 0 → K L rest M)
    | _ => False
  | (.if_icmp .eq _, _, [t], _, _) => match st with
    | .inl y :: .inl x :: rest => (x = y → J t L rest M) ∧ (¬ x = y → K L rest M)
    | _ => False
  | (.if_icmp .ne _, _, [t], _, _) => match st with
    | .inl y :: .inl x :: rest => (¬ x = y → J t L rest M) ∧ (x = y → K L rest M)
    | _ => False
  | (.if_icmp .lt _, _, [t], _, _) => match st with
    | .inl y :: .inl x :: rest => (x < y → J t L rest M) ∧ (¬ x < y → K L rest M)
    | _ => False
  | (.if_icmp .ge _, _, [t], _, _) => match st with
    | .inl y :: .inl x :: rest => (y ≤ x → J t L rest M) ∧ (¬ y ≤ x → K L rest M)
    | _ => False
  | (.if_icmp .gt _, _, [t], _, _) => match st with
    | .inl y :: .inl x :: rest => (y < x → J t L rest M) ∧ (¬ y < x → K L rest M)
    | _ => False
  | (.if_icmp .le _, _, [t], _, _) => match st with
    | .inl y :: .inl x :: rest => (x ≤ y → J t L rest M) ∧ (¬ x ≤ y → K L rest M)
    | _ => False
  | (.getfield _, _, [0, c, f, ty, m, t, _, _], _, _) => match st with
    | .inr (.inr (k0, s0, r0)) :: rest => if s0 % 8 = 5 ∧ ux_n s0 = c then
        (if ty = 1 then K L (.inr (.inr (ux_tg m k0, t, 0)) :: rest) M
        else if ty = 2 then M k0 s0 r0 f = 1 ∧ K L (.inr (.inr (ux_tg m k0, t, 0)) :: rest) M
        else K L (.inl (M k0 s0 r0 f) :: rest) M) else False
    | _ => False
  | (.putfield _, _, [0, c, f, ty, m, t, _, _], _, _) => match st with
    | .inl x :: .inr (.inr (k0, s0, r0)) :: rest => if s0 % 8 = 5 ∧ ux_n s0 = c then
        (if ty = 0 then K L rest (ux_set M k0 s0 r0 f x)
        else if ty = 3 then (x = 0 ∨ x = 1) ∧ K L rest (ux_set M k0 s0 r0 f x) else False) else False
    | .inr (.inr o) :: .inr (.inr (k0, s0, r0)) :: rest => if s0 % 8 = 5 ∧ ux_n s0 = c ∧ ty = 2 then
        o = (ux_tg m k0, t, 0) ∧ K L rest (ux_set M k0 s0 r0 f 1) else False
    | _ => False
  | (.iaload, _, [], _, _) => match st with
    | .inl i :: .inr (.inr (k0, s0, r0)) :: rest => if s0 % 8 = 1 then vp_in i (ux_n s0) ∧ K L (.inl (M k0 s0 r0 i.toNatClampNeg) :: rest) M else False
    | _ => False
  | (.baload, _, [], _, _) => match st with
    | .inl i :: .inr (.inr (k0, s0, r0)) :: rest => if s0 % 8 = 2 then vp_in i (ux_n s0) ∧ K L (.inl (M k0 s0 r0 i.toNatClampNeg) :: rest) M else False
    | _ => False
  | (.iastore, _, [], _, _) => match st with
    | .inl x :: .inl i :: .inr (.inr (k0, s0, r0)) :: rest => if s0 % 8 = 1 then vp_in i (ux_n s0) ∧ K L rest (ux_set M k0 s0 r0 i.toNatClampNeg x) else False
    | _ => False
  | (.bastore, _, [], _, _) => match st with
    | .inl x :: .inl i :: .inr (.inr (k0, s0, r0)) :: rest => if s0 % 8 = 2 then vp_in i (ux_n s0) ∧ (x = 0 ∨ x = 1) ∧ K L rest (ux_set M k0 s0 r0 i.toNatClampNeg x) else False
    | _ => False
  | (.laload, _, [], _, _) => match st with
    | .inl i :: .inr (.inr (k0, s0, r0)) :: rest => if s0 % 8 = 3 ∧ ux_n s0 = 1 then i = 0 ∧ K L (.inr (.inl (ux_j2 (M k0 s0 r0 0) (M k0 s0 r0 1))) :: rest) M else False
    | _ => False
  | (.lastore, _, [], _, _) => match st with
    | .inr (.inl x) :: .inl i :: .inr (.inr (k0, s0, r0)) :: rest => if s0 % 8 = 3 ∧ ux_n s0 = 1 then i = 0 ∧ K L rest (ux_set (ux_set M k0 s0 r0 0 (ux_lo x)) k0 s0 r0 1 (ux_hi x)) else False
    | _ => False
  | (.iushr, _, [], _, _) => match st with
    | .inl y :: .inl x :: rest => K L (.inl ((x.toUInt32 >>> (y.toUInt32 &&& Int32.toUInt32 31)).toInt32) :: rest) M
    | _ => False
  | (.aaload, _, [], _, _) => match st with
    | .inl i :: .inr (.inr (k0, s0, r0)) :: rest => if s0 % 8 = 4 ∧ ux_n s0 = 6 then vp_in i 6 ∧ K L (.inr (.inr (k0, ux_row, i.toNatClampNeg)) :: rest) M else False
    | _ => False
  | (.arraylength, _, [], _, _) => match st with
    | .inr (.inr (k0, s0, r0)) :: rest => if s0 % 8 = 1 then K L (.inl (Int32.ofNat (ux_n s0)) :: rest) M else False
    | _ => False
  | (.tableswitch _ _ _ _, _, 10 :: td :: ps, _, _) => match st with
    | .inl x :: rest => ux_sw x (fun t => J t L rest M) td ps
    | _ => False
  | (.lookupswitch _ _, _, 10 :: td :: ps, _, _) => match st with
    | .inl x :: rest => ux_sw x (fun t => J t L rest M) td ps
    | _ => False
  | (.invokevirtual _, _, [0, c, n, rk, _, _, _, _], _, y) => match d with
    | 0 => False
    | d' + 1 => match st.drop n with
      | .inr (.inr (k0, s0, r0)) :: rest => if s0 % 8 = 5 ∧ ux_n s0 = c ∧ ux_wt rest ≤ 8 ∧ (st.take n).length = n then
          ux_Call l E d' y (.inr (.inr (k0, s0, r0)) :: (st.take n).reverse) M (if rk = 0 then ux_CV (fun M' => K L rest M') else if rk = 1 then ux_CI (fun x M' => K L (.inl x :: rest) M') else ux_CR (fun k s r M' => K L (.inr (.inr (k, s, r)) :: rest) M'))
        else False
      | _ => False
  | (.invokestatic _, _, [0, _, n, rk, _, _], _, y) => match d with
    | 0 => False
    | d' + 1 => if ux_wt (st.drop n) ≤ 8 ∧ (st.take n).length = n then
          ux_Call l E d' y (st.take n).reverse M (if rk = 0 then ux_CV (fun M' => K L (st.drop n) M') else if rk = 1 then ux_CI (fun x M' => K L (.inl x :: st.drop n) M') else ux_CR (fun k s r M' => K L (.inr (.inr (k, s, r)) :: st.drop n) M'))
        else False
  | (.ireturn, _, [ty], _, _) => match st with
    | [.inl x] => if ty = 0 then R (some (.inl x)) M else (x = 0 ∨ x = 1) ∧ R (some (.inl x)) M
    | _ => False
  | (.areturn, _, [], _, _) => match st with
    | [.inr (.inr q)] => R (some (.inr (.inr q))) M
    | _ => False
  | (.return_, _, [], _, _) => match st with
    | [] => R none M
    | _ => False
  | _ => False
def ux_run (l : Launch) (E : ux_E) (d : Nat) (R : Option ux_V → ux_M → Prop) (J : Nat → ux_L → List ux_V → ux_M → Prop) : List ux_op → Nat → ux_L → List ux_V → ux_M → Prop
  | [], pc, L, st, M => J pc L st M
  | op :: ops, pc, L, st, M => ux_step l E d op L st M (fun L' st' M' => ux_run l E d R J ops (pc + op.2.1) L' st' M') J R
