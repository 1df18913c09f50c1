/-! a change of state on both sides -/
section ZE
variable {k c t B u v a s : Nat} {M m M' m' : ux_M}
theorem z_W.lo (h : z_W k c t B M m) : ∃ L, L < 120 ∧ M k 16413 0 18 = nI L ∧ m 5 844257 0 2 = nI (min L 60) := by
  obtain ⟨L, h1, h2, h3, _⟩ := h.2.2.2.2.1
  exact ⟨L, h1, h2, h3⟩
theorem z_logY (x s : Int32) {n : Nat} (hn : n ≤ 60) (h2 : m 5 844257 0 2 = nI n) (a w : Nat) : z_Y (m_191 x s m) a w = z_Y m a w := by
  unfold z_Y
  rw [(z_log x s hn h2).2, if_pos ⟨rfl, rfl, rfl⟩]
  unfold z_lg
  by_cases q : n < 60
  · rw [if_pos q, if_neg (by omega), if_neg (by omega), if_neg (by omega), if_neg (by omega)]
  · rw [if_neg q, if_neg (by omega), if_neg (by omega), if_neg (by omega), if_neg (by omega), if_neg (by omega)]
theorem z_Pr (m : ux_M) (a u : Nat) (v : Int32) (i : Nat) : z_P m a u v 5 844257 0 i = if i = 188 + 56 * u + a then v else m 5 844257 0 i := by
  unfold z_P; rw [z_set]; simp only [true_and]
theorem z_m3 (n : Nat) : nI n * (3 : Int32) = nI (n * 3) := by
  show Int32.ofNat n * Int32.ofNat 3 = Int32.ofNat _
  rw [← Int32.ofNat_mul]
theorem z_W.co (h : z_W k c t B M m) (hu : u < c) (s : Int32) : p_58_43 k (nI u) s M ∧ z_W k c t B (m_58_43 k (nI u) s M) (m_191 (nI u) s (z_P (z_P (z_P m 28 u s) 34 u (nI t)) 35 u (-1))) := by
  have h16 := h.u16 hu
  obtain ⟨L, hL, hl, h2⟩ := h.lo
  have e60 : nI L - nI L / (60 : Int32) * (60 : Int32) = nI (L % 60) := pk_rem (a := L) (d := 60) (by omega) (by omega) (by omega)
  have eL : M k 16413 0 3 = nI t := h.nw
  have h0 := ((h.wr (a := 28) (s := 65665) (List.mem_of_getElem? (i := 0) rfl) (by omega) hu s).wr (a := 34) (s := 82049) (List.mem_of_getElem? (i := 3) rfl) (by omega) hu (nI t)).wd (a := 35) (Or.inl rfl) u (-1)
  have hlt : L % 60 < 60 := Nat.mod_lt _ (by omega)
  have hi0 : (nI (L % 60 * 3)).toNatClampNeg = L % 60 * 3 := z_cls (by omega)
  have hi1 : (nI (L % 60 * 3 + 1)).toNatClampNeg = L % 60 * 3 + 1 := z_cls (by omega)
  have hi2 : (nI (L % 60 * 3 + 2)).toNatClampNeg = L % 60 * 3 + 2 := z_cls (by omega)
  have hx1 : nI (L % 60 * 3) + (1 : Int32) = nI (L % 60 * 3 + 1) := z_add _ 1
  have hx2 : nI (L % 60 * 3) + (2 : Int32) = nI (L % 60 * 3 + 2) := z_add _ 2
  have r3 : ∀ (N : ux_M) (a b : Int32), ux_set (ux_set N k 65665 0 u a) k 82049 0 u b k 16413 0 3 = N k 16413 0 3 := fun N a b => by rw [z_so (by omega), z_so (by omega)]
  have r18 : ∀ (N : ux_M) (a b : Int32), ux_set (ux_set N k 65665 0 u a) k 82049 0 u b k 16413 0 18 = N k 16413 0 18 := fun N a b => by rw [z_so (by omega), z_so (by omega)]
  have r31 : ∀ (N : ux_M) (a : Int32), ux_set N k 65665 0 u a k 16413 0 3 = N k 16413 0 3 := fun N a => z_so (by omega)
  constructor
  · unfold p_58_43
    simp only [z_cl h16, forall_eq, r31, r3, r18, eL, hl, e60, z_m3, hx1, hx2]
    exact ⟨z_i16 h16, z_i16 h16, by decide, z_in (by omega) (by omega), z_in (by omega) (by omega), z_in (by omega) (by omega)⟩
  · have hn : z_P (z_P (z_P m 28 u s) 34 u (nI t)) 35 u (-1) 5 844257 0 2 = nI (min L 60) := by
      rw [z_Yc _ _ _ _ (by omega), z_Yc _ _ _ _ (by omega), z_Yc _ _ _ _ (by omega)]; exact h2
    refine h0.lg hL (by rw [z_so (by omega), z_so (by omega)]; exact hl) (nI u) s ?_ ?_ ?_ (fun i => by rw [(z_log (nI u) s (by omega) hn).2, if_pos ⟨rfl, rfl, rfl⟩])
    · intro s' r i hs hq
      unfold m_58_43
      simp only [z_cl h16, r31, r3, r18, eL, hl, e60, z_m3, hx1, hx2, hi0, hi1, hi2]
      split
      · rw [z_set, if_neg (fun z => hq ⟨z.2.1, z.2.2.2⟩), z_so hs, z_so hs, z_so hs]
      · rw [z_set, if_neg (fun z => hq ⟨z.2.1, z.2.2.2⟩), z_so hs, z_so hs, z_so hs]
    · unfold m_58_43
      simp only [z_cl h16, r31, r3, r18, eL, hl, e60, z_m3, hx1, hx2, hi0, hi1, hi2]
      have e5 : ∀ (a b d : Int32), ux_set (ux_set (ux_set (ux_set (ux_set M k 65665 0 u s) k 82049 0 u (nI t)) k 263585 0 (L % 60 * 3) a) k 263585 0 (L % 60 * 3 + 1) b) k 263585 0 (L % 60 * 3 + 2) d k 16413 0 18 = nI L := fun a b d => by
        rw [z_so (by omega), z_so (by omega), z_so (by omega), r18]; exact hl
      simp only [e5]
      by_cases z : L = 119
      · subst z
        rw [if_pos rfl, if_pos (by rfl), z_ss]; rfl
      · have n119 : ¬ nI L = (119 : Int32) := fun q => z ((z_eq (b := 119) (by omega) (by omega)).mp q)
        rw [if_neg z, if_neg n119, z_ss, z_nx]
    · intro i
      unfold m_58_43
      simp only [z_cl h16, r31, r3, r18, eL, hl, e60, z_m3, hx1, hx2, hi0, hi1, hi2]
      have e6 : ux_set (ux_set (ux_set (ux_set (ux_set M k 65665 0 u s) k 82049 0 u (nI t)) k 263585 0 (L % 60 * 3) (nI t)) k 263585 0 (L % 60 * 3 + 1) (nI u)) k 263585 0 (L % 60 * 3 + 2) s k 263585 0 i = if i = L % 60 * 3 then nI t else if i = L % 60 * 3 + 1 then nI u else if i = L % 60 * 3 + 2 then s else ux_set (ux_set M k 65665 0 u s) k 82049 0 u (nI t) k 263585 0 i := by
        by_cases z0 : i = L % 60 * 3
        · subst z0; rw [z_si (by omega), z_si (by omega), z_ss, if_pos rfl]
        · by_cases z1 : i = L % 60 * 3 + 1
          · subst z1; rw [z_si (by omega), z_ss, if_neg (by omega), if_pos rfl]
          · by_cases z2 : i = L % 60 * 3 + 2
            · subst z2; rw [z_ss, if_neg (by omega), if_neg (by omega), if_pos rfl]
            · rw [z_si z2, z_si z1, z_si z0, if_neg z0, if_neg z1, if_neg z2]
      split
      · rw [z_so (by omega)]; exact e6
      · rw [z_so (by omega)]; exact e6
/-- what is seen of the reference behind becomes -/
def z_be (m : ux_M) (t u : Nat) (s : Int32) (a w : Nat) : Int32 :=
  if z_Y m 28 u = s then z_Y m a w else if w = u then (if a = 28 then s else if a = 34 then nI t else if a = 35 then -1
    else if a = 42 then (if z_Y m 28 u = 2 then 0 else z_Y m 42 u) else if a = 44 then (if z_Y m 28 u = 2 then z_Y m 44 u + z_Y m 42 u else z_Y m 44 u) else z_Y m a u) else z_Y m a w
theorem z_W.et (h : z_W k c t B M m) (hu : u < c) (s : Int32) (hq : z_Y m 0 u = 1 ∨ z_Y m 42 u = 0) :
    p_58 k (nI u) s M ∧ p_190 (nI u) s m ∧ z_W k c t B (m_58 k (nI u) s M) (m_190 (nI u) s m) ∧ ∀ a w, a < 56 → z_Y (m_190 (nI u) s m) a w = z_be m t u s a w := by
  have h16 := h.u16 hu
  have e28 := h.d28 hu
  obtain ⟨L, hL, hl, h2⟩ := h.lo
  by_cases hs : z_Y m 28 u = s
  · refine ⟨?_, ?_, ?_, ?_⟩
    · unfold p_58; simp only [z_cl h16, e28, hs, not_true_eq_false, false_implies, true_and, implies_true, and_true]; exact z_i16 h16
    · unfold p_190; simp only [of28 _ h16, hs, not_true_eq_false, false_implies, true_and, implies_true, and_true]; exact uu28 h16
    · unfold m_58 m_190; simp only [z_cl h16, e28, of28 _ h16, hs, if_true]; exact h
    · intro a w _; unfold m_190 z_be; simp only [of28 _ h16, hs, if_true]
  · have hn : z_P (z_P (z_P m 28 u s) 34 u (nI t)) 35 u (-1) 5 844257 0 2 = nI (min L 60) := by
      rw [z_Yc _ _ _ _ (by omega), z_Yc _ _ _ _ (by omega), z_Yc _ _ _ _ (by omega)]; exact h2
    have hl60 : min L 60 ≤ 60 := by omega
    have hp := (z_log (nI u) s hl60 hn).1
    have hYl := z_logY (nI u) s hl60 hn
    have e0 : z_P m 28 u s 5 844257 0 0 = nI t := by rw [z_Yc _ _ _ _ (by omega)]; exact h.now
    have y0 : z_Y (z_P (z_P (z_P m 28 u s) 34 u (nI t)) 35 u (-1)) 0 u = z_Y m 0 u := by simp only [z_YP _ _ _ _ (show 35 < 56 by omega) (show 0 < 56 by omega), z_YP _ _ _ _ (show 34 < 56 by omega) (show 0 < 56 by omega), z_YP _ _ _ _ (show 28 < 56 by omega) (show 0 < 56 by omega), Nat.reduceEqDiff, false_and, if_false]
    have y44 : z_Y (z_P (z_P (z_P m 28 u s) 34 u (nI t)) 35 u (-1)) 44 u = z_Y m 44 u := by simp only [z_YP _ _ _ _ (show 35 < 56 by omega) (show 44 < 56 by omega), z_YP _ _ _ _ (show 34 < 56 by omega) (show 44 < 56 by omega), z_YP _ _ _ _ (show 28 < 56 by omega) (show 44 < 56 by omega), Nat.reduceEqDiff, false_and, if_false]
    have y42 : z_Y (z_P (z_P (z_P m 28 u s) 34 u (nI t)) 35 u (-1)) 42 u = z_Y m 42 u := by simp only [z_YP _ _ _ _ (show 35 < 56 by omega) (show 42 < 56 by omega), z_YP _ _ _ _ (show 34 < 56 by omega) (show 42 < 56 by omega), z_YP _ _ _ _ (show 28 < 56 by omega) (show 42 < 56 by omega), Nat.reduceEqDiff, false_and, if_false]
    have yG : ∀ a w, a < 56 → z_Y (z_P (z_P (z_P m 28 u s) 34 u (nI t)) 35 u (-1)) a w = if w = u then (if a = 28 then s else if a = 34 then nI t else if a = 35 then -1 else z_Y m a u) else z_Y m a w := by
      intro a w ha
      rw [z_YP _ _ _ _ (show 35 < 56 by omega) ha, z_YP _ _ _ _ (show 34 < 56 by omega) ha, z_YP _ _ _ _ (show 28 < 56 by omega) ha]
      by_cases qw : w = u
      · subst qw
        by_cases a1 : a = 35
        · subst a1; simp
        · by_cases a2 : a = 34
          · subst a2; simp
          · by_cases a3 : a = 28
            · subst a3; simp
            · simp [a1, a2, a3]
      · simp [qw]
    have pe : p_190 (nI u) s m := by
      unfold p_190
      simp only [of28 _ h16, of0 _ h16, pu28 _ _ h16, pu34 _ _ h16, pu35 _ _ h16, hs, forall_eq, z_c0, e0, hYl, y0, false_implies, and_true, not_false_eq_true, true_implies, of42 _ h16, of44 _ h16, implies_true]
      exact ⟨uu28 h16, uu28 h16, z_v0, uu34 h16, uu35 h16, hp, trivial, fun _ => ⟨uu0 h16, fun _ => ⟨uu42 h16, uu44 h16, uu42 h16⟩⟩⟩
    by_cases h22 : z_Y m 28 u = 2
    · -- it was active
      have hM4 := (h.wr (a := 44) (s := 245889) (List.mem_of_getElem? (i := 11) rfl) (by omega) hu (z_Y m 44 u + z_Y m 42 u)).wr (a := 42) (s := 213121) (List.mem_of_getElem? (i := 9) rfl) (by omega) hu 0
      obtain ⟨cp, cw⟩ := hM4.co hu s
      have hn' : z_P (z_P (z_P (z_P (z_P m 44 u (z_Y m 44 u + z_Y m 42 u)) 42 u 0) 28 u s) 34 u (nI t)) 35 u (-1) 5 844257 0 2 = nI (min L 60) := by
        rw [z_Yc _ _ _ _ (by omega), z_Yc _ _ _ _ (by omega), z_Yc _ _ _ _ (by omega), z_Yc _ _ _ _ (by omega), z_Yc _ _ _ _ (by omega)]; exact h2
      have d44 := h.d44 hu
      have d42 := h.d42 hu
      have pc : p_58 k (nI u) s M := by
        unfold p_58
        simp only [z_cl h16, e28, h22, not_true_eq_false, false_implies, true_and, implies_true, forall_eq, d44, d42]
        rw [h22] at hs
        exact ⟨z_i16 h16, fun _ => ⟨z_i16 h16, fun _ => ⟨z_i16 h16, z_i16 h16, z_i16 h16, z_i16 h16, cp⟩⟩, trivial⟩
      have mc : m_58 k (nI u) s M = m_58_43 k (nI u) s (ux_set (ux_set M k 245889 0 u (z_Y m 44 u + z_Y m 42 u)) k 213121 0 u 0) := by
        unfold m_58
        simp only [z_cl h16, e28, if_neg hs, d44, d42]
        rw [if_pos h22]
      have rows : ∀ i, z_lg (z_P (z_P (z_P m 28 u s) 34 u (nI t)) 35 u (-1) 5 844257 0) (min L 60) (nI u) s i = if i < 188 then z_lg (m 5 844257 0) (min L 60) (nI u) s i else z_P (z_P (z_P m 28 u s) 34 u (nI t)) 35 u (-1) 5 844257 0 i := by
        intro i
        have lo : ∀ i, i < 188 → z_P (z_P (z_P m 28 u s) 34 u (nI t)) 35 u (-1) 5 844257 0 i = m 5 844257 0 i := fun i hi => by rw [z_Yc _ _ _ _ (by omega), z_Yc _ _ _ _ (by omega), z_Yc _ _ _ _ (by omega)]
        unfold z_lg
        by_cases q : min L 60 < 60
        · by_cases z : i < 188
          · simp only [if_pos q, if_pos z, lo 0 (by omega), lo i z]
          · rw [if_pos q, if_neg (by omega), if_neg (by omega), if_neg (by omega), if_neg (by omega), if_neg z]
        · by_cases z : i < 188
          · by_cases z2 : 8 ≤ i ∧ i < 185
            · simp only [if_neg q, if_pos z, lo 0 (by omega), lo i z, lo (i + 3) (by omega)]
            · simp only [if_neg q, if_pos z, lo 0 (by omega), lo i z, if_neg z2]
          · rw [if_neg q, if_neg (by omega), if_neg (by omega), if_neg (by omega), if_neg (by omega), if_neg (by omega), if_neg z]
      have rows' : ∀ i, z_lg (z_P (z_P (z_P (z_P (z_P m 44 u (z_Y m 44 u + z_Y m 42 u)) 42 u 0) 28 u s) 34 u (nI t)) 35 u (-1) 5 844257 0) (min L 60) (nI u) s i = if i < 188 then z_lg (m 5 844257 0) (min L 60) (nI u) s i else z_P (z_P (z_P (z_P (z_P m 44 u (z_Y m 44 u + z_Y m 42 u)) 42 u 0) 28 u s) 34 u (nI t)) 35 u (-1) 5 844257 0 i := by
        intro i
        have lo : ∀ i, i < 188 → z_P (z_P (z_P (z_P (z_P m 44 u (z_Y m 44 u + z_Y m 42 u)) 42 u 0) 28 u s) 34 u (nI t)) 35 u (-1) 5 844257 0 i = m 5 844257 0 i := fun i hi => by rw [z_Yc _ _ _ _ (by omega), z_Yc _ _ _ _ (by omega), z_Yc _ _ _ _ (by omega), z_Yc _ _ _ _ (by omega), z_Yc _ _ _ _ (by omega)]
        unfold z_lg
        by_cases q : min L 60 < 60
        · by_cases z : i < 188
          · simp only [if_pos q, if_pos z, lo 0 (by omega), lo i z]
          · rw [if_pos q, if_neg (by omega), if_neg (by omega), if_neg (by omega), if_neg (by omega), if_neg z]
        · by_cases z : i < 188
          · by_cases z2 : 8 ≤ i ∧ i < 185
            · simp only [if_neg q, if_pos z, lo 0 (by omega), lo i z, lo (i + 3) (by omega)]
            · simp only [if_neg q, if_pos z, lo 0 (by omega), lo i z, if_neg z2]
          · rw [if_neg q, if_neg (by omega), if_neg (by omega), if_neg (by omega), if_neg (by omega), if_neg (by omega), if_neg z]
      by_cases hk : z_Y m 0 u = 1
      · have me : m_190 (nI u) s m = z_P (z_P (m_191 (nI u) s (z_P (z_P (z_P m 28 u s) 34 u (nI t)) 35 u (-1))) 44 u (z_Y m 44 u + z_Y m 42 u)) 42 u 0 := by
          unfold m_190
          simp only [of28 _ h16, of0 _ h16, pu28 _ _ h16, pu34 _ _ h16, pu35 _ _ h16, if_neg hs, z_c0, e0, hYl, y0, hk, if_true, of42 _ h16, of44 _ h16, pu44 _ _ h16, pu42 _ _ h16, y44, y42]
          rw [if_pos h22]
        refine ⟨pc, pe, ?_, fun a w ha => ?_⟩
        · rw [mc, me]
          refine cw.cong (fun _ _ _ _ => rfl) (fun i => ?_)
          rw [(z_log (nI u) s hl60 hn').2, if_pos ⟨rfl, rfl, rfl⟩, rows']
          rw [z_Pr, z_Pr, (z_log (nI u) s hl60 hn).2, if_pos (show 5 = 5 ∧ 844257 = 844257 ∧ 0 = 0 from ⟨rfl, rfl, rfl⟩), rows]
          by_cases z : i < 188
          · rw [if_pos z, if_neg (by omega), if_neg (by omega), if_pos z]
          · rw [if_neg z, if_neg z]
            simp only [z_Pr]
            by_cases i35 : i = 188 + 56 * u + 35
            · subst i35; simp
            · by_cases i34 : i = 188 + 56 * u + 34
              · subst i34; simp
              · by_cases i28 : i = 188 + 56 * u + 28
                · subst i28; simp
                · simp [i35, i34, i28]
        · rw [me, z_YP _ _ _ _ (show 42 < 56 by omega) ha, z_YP _ _ _ _ (show 44 < 56 by omega) ha, hYl, yG a w ha]
          unfold z_be
          rw [if_neg hs, if_pos h22, if_pos h22]
          by_cases qw : w = u
          · subst qw
            by_cases a1 : a = 42
            · subst a1; simp
            · by_cases a2 : a = 44
              · subst a2; simp
              · simp [a1, a2]
          · simp [qw]
      · have q0 : z_Y m 42 u = 0 := hq.resolve_left hk
        have me : m_190 (nI u) s m = m_191 (nI u) s (z_P (z_P (z_P m 28 u s) 34 u (nI t)) 35 u (-1)) := by
          unfold m_190
          simp only [of28 _ h16, of0 _ h16, pu28 _ _ h16, pu34 _ _ h16, pu35 _ _ h16, if_neg hs, z_c0, e0, hYl, y0, if_neg hk, ite_self]
        have qa : z_Y m 44 u + z_Y m 42 u = z_Y m 44 u := by rw [q0]; exact Int32.add_zero _
        refine ⟨pc, pe, ?_, fun a w ha => ?_⟩
        · rw [mc, me]
          refine cw.cong (fun _ _ _ _ => rfl) (fun i => ?_)
          rw [(z_log (nI u) s hl60 hn').2, if_pos ⟨rfl, rfl, rfl⟩, rows', (z_log (nI u) s hl60 hn).2, if_pos ⟨rfl, rfl, rfl⟩, rows, qa]
          by_cases z : i < 188
          · rw [if_pos z, if_pos z]
          · rw [if_neg z, if_neg z]
            simp only [z_Pr]
            unfold z_Y at q0 ⊢
            by_cases i42 : i = 188 + 56 * u + 42
            · subst i42; simp [q0]
            · by_cases i44 : i = 188 + 56 * u + 44
              · subst i44; simp
              · simp [i42, i44]
        · rw [me, hYl, yG a w ha]
          unfold z_be
          rw [if_neg hs, if_pos h22, if_pos h22, qa]
          by_cases qw : w = u
          · subst qw
            by_cases a1 : a = 42
            · subst a1; simp [q0]
            · by_cases a2 : a = 44
              · subst a2; simp
              · simp [a1, a2]
          · simp [qw]
    · obtain ⟨cp, cw⟩ := h.co hu s
      have me : m_190 (nI u) s m = m_191 (nI u) s (z_P (z_P (z_P m 28 u s) 34 u (nI t)) 35 u (-1)) := by
        unfold m_190
        simp only [of28 _ h16, of0 _ h16, pu28 _ _ h16, pu34 _ _ h16, pu35 _ _ h16, if_neg hs, z_c0, e0, if_neg h22]
      have mc : m_58 k (nI u) s M = m_58_43 k (nI u) s M := by
        unfold m_58
        simp only [z_cl h16, e28, if_neg hs, if_neg h22]
      refine ⟨?_, pe, ?_, fun a w ha => ?_⟩
      · unfold p_58
        simp only [z_cl h16, e28, hs, h22, not_false_eq_true, true_implies, false_implies, implies_true, and_true]
        exact ⟨z_i16 h16, z_i16 h16, cp⟩
      · rw [mc, me]; exact cw
      · rw [me, hYl, yG a w ha]
        unfold z_be
        rw [if_neg hs, if_neg h22, if_neg h22]
        by_cases qw : w = u
        · subst qw
          by_cases a1 : a = 42
          · subst a1; simp
          · by_cases a2 : a = 44
            · subst a2; simp
            · simp [a1, a2]
        · simp [qw]
end ZE
