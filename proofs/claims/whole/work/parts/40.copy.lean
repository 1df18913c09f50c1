/-! System.arraycopy of rows of ints -/
section UXK
variable {l : Launch} {E : ux_E} {d : Nat}
theorem ux_nfw : nativeFrameWords "java/lang/System" "arraycopy" 5 ≤ 60 := by decide
theorem ux_cpy_self (M : ux_M) (k s r : Nat) (f : Nat → Int32) : ux_cpy M k s r f k s r = f := by
  funext j
  unfold ux_cpy
  rw [if_pos ⟨rfl, rfl, rfl⟩]
theorem ux_cpy_other {M : ux_M} {k s r k' s' r' : Nat} {f : Nat → Int32} (h : ¬ (k' = k ∧ s' = s ∧ r' = r)) : ux_cpy M k s r f k' s' r' = M k' s' r' := by
  funext j
  unfold ux_cpy
  rw [if_neg h]
theorem ux_nn (z : Int32) (hz : ¬ z < 0) : z.toInt = (z.toNatClampNeg : Int) := by
  have hz0 : (0 : Int) ≤ z.toInt := by
    have := Int32.not_lt.mp hz
    simpa using Int32.le_iff_toInt_le.mp this
  show z.toInt = ((z.toInt.toNat : Nat) : Int)
  omega
theorem ux_J_5 : ux_J l E 5 := by
  intro d y p e s m args below meth c R pc L st M ig n da K G hd hc hwt hs hK
  unfold ux_chs at hc
  split at hc <;> first | (rename_i hj; cases hj; done) | skip
  all_goals try (exact absurd hc (by decide))
  simp only [decide_eq_true_eq] at hc
  obtain ⟨rfl, hp⟩ := hc
  change (match (generalizing := false) st with
    | .inl n :: .inl dp :: .inr (.inr (k0, s0, r0)) :: .inl sp :: .inr (.inr (k1, s1, r1)) :: rest =>
      if s0 % 8 = 1 ∧ s1 % 8 = 1 then
        (¬ sp < 0 ∧ ¬ dp < 0 ∧ ¬ n < 0 ∧ sp.toNatClampNeg + n.toNatClampNeg ≤ ux_n s1 ∧ dp.toNatClampNeg + n.toNatClampNeg ≤ ux_n s0) ∧
          K rest (ux_cpy M k0 s0 r0 (va_cpy (M k1 s1 r1) (M k0 s0 r0) sp.toNatClampNeg dp.toNatClampNeg n.toNatClampNeg))
      else False
    | _ => False) at hs
  split at hs
  · rename_i n dp k0 s0 r0 sp k1 s1 r1 rest
    split at hs
    · rename_i hkk
      obtain ⟨⟨h1, h2, h3, h4, h5⟩, hs⟩ := hs
      intro H locs ls hlr hokL hokst hRep hVS
      have hw : (List.map (fun v => v.category) (List.map (ux_rho E) rest)).sum ≤ 9 := by
        rw [ux_wt_cat]
        simp only [ux_wt] at hwt
        omega
      have hd0 := ux_okR (q := (k0, s0, r0)) (ux_hd (ux_tl (ux_tl hokst))) (by show s0 % 8 < 6; omega)
      have hd1 := ux_okR (q := (k1, s1, r1)) (ux_hd (ux_tl (ux_tl (ux_tl (ux_tl hokst))))) (by show s1 % 8 < 6; omega)
      have hc0 := (ux_cell1 hkk.2).mp (hRep _ _ _ hd1)
      have hc1 := (ux_cell1 hkk.1).mp (hRep _ _ _ hd0)
      have hKi := (G.2.2.2.2.2.1.2.2.1.2 0 _ rfl).1
      obtain ⟨-, kk0, hk0, cm0, hkk0⟩ := hKi (ux_n s1) (fun j => .int (M k1 s1 r1 j))
      obtain ⟨-, kk1, hk1, cm1, hkk1⟩ := hKi (ux_n s0) (fun j => .int (M k0 s0 r0 j))
      have hr := hK _ _ hs
      intro T hT X
      obtain ⟨vm', X', step⟩ := X.arraycopy G.1 G.2.2.2.1 (ux_word G (ux_at hp) rfl) (ux_word G nt_cpy rfl) (ux_word G st_cpy rfl) (ux_word G in_sys rfl) (src := E.1 k1 s1 r1) (dst := E.1 k0 s0 r0) (cs := arrV (E.2.2.1 1) (ux_n s1) (fun j => .int (M k1 s1 r1 j))) (cd := arrV (E.2.2.1 1) (ux_n s0) (fun j => .int (M k0 s0 r0 j))) (srcPos := sp) (destPos := dp) (n := n) (by rw [hT]; exact hc0) (by rw [hT]; exact hc1)
        (fun _ h => by cases h) (fun _ h => by cases h) (fun h => by cases h) (fun h => by cases h) hk0 hk1 hkk0 hkk1 rfl h1 h2 h3
        (by rw [ux_nn sp h1, ux_nn n h3]; show ¬ _ > ((arrV (E.2.2.1 1) (ux_n s1) (fun j => .int (M k1 s1 r1 j))).slots.size : Int); rw [arrV_size]; omega)
        (by rw [ux_nn dp h2, ux_nn n h3]; show ¬ _ > ((arrV (E.2.2.1 1) (ux_n s0) (fun j => .int (M k0 s0 r0 j))).slots.size : Int); rw [arrV_size]; omega)
        (fun vm₁ _ i hi => by
          have e : (arrV (E.2.2.1 1) (ux_n s1) (fun j => .int (M k1 s1 r1 j))).slots.getD (sp.toNatClampNeg + i) .null = .int (M k1 s1 r1 (sp.toNatClampNeg + i)) := by
            rw [Array.getD_eq_getD_getElem?, arrV_read _ _ (by omega)]
            rfl
          refine ⟨?_, ?_⟩
          · rw [e]; rfl
          · rw [e]; exact trivial)
        (g := F0 m pc ls (.int n :: .int dp :: .ref (E.1 k0 s0 r0) :: .int sp :: .ref (E.1 k1 s1 r1) :: rest.map (ux_rho E))) rfl (by rw [G.2.2.1]; exact hlr.1) (rest := rest.map (ux_rho E)) rfl (by rw [G.2.1]; exact hd) (by show 1 ≤ d + 1 + 4; omega) (by show 2 * 0 + _ + (_ + 11) ≤ 60 * (d + 1 + 4) + 60; have := ux_nfw; omega)
      have e1 : copied (arrV (E.2.2.1 1) (ux_n s1) (fun j => .int (M k1 s1 r1 j))) (arrV (E.2.2.1 1) (ux_n s0) (fun j => .int (M k0 s0 r0 j))) sp dp n = arrV (E.2.2.1 1) (ux_n s0) (fun j => .int (va_cpy (M k1 s1 r1) (M k0 s0 r0) sp.toNatClampNeg dp.toNatClampNeg n.toNatClampNeg j)) := va_copied (fun z => .int z) _ _ _ _ h4
      rw [e1] at X' step
      have hl : E.1 k0 s0 r0 < H.size := (Array.getElem?_eq_some_iff.mp hc1).1
      generalize hnc : arrV (E.2.2.1 1) (ux_n s0) (fun j => Value.int (va_cpy (M k1 s1 r1) (M k0 s0 r0) sp.toNatClampNeg dp.toNatClampNeg n.toNatClampNeg j)) = nc at X' step
      have hheap : ((T.setVm vm').setCell (E.1 k0 s0 r0) nc).heap = H.setIfInBounds (E.1 k0 s0 r0) nc := by rw [← hT]; rfl
      have oq : ∀ q : Nat, q ≠ E.1 k0 s0 r0 → (H.setIfInBounds (E.1 k0 s0 r0) nc)[q]? = H[q]? := fun q hq => by simp [Array.getElem?_setIfInBounds, Ne.symm hq]
      have hR' : ux_Rep E (ux_cpy M k0 s0 r0 (va_cpy (M k1 s1 r1) (M k0 s0 r0) sp.toNatClampNeg dp.toNatClampNeg n.toNatClampNeg)) (H.setIfInBounds (E.1 k0 s0 r0) nc) := by
        refine ux_Rep_upd G.2.2.2.2.2.1.1 hd0 hRep oq (fun k' s' r' hne => ux_cpy_other hne) ((ux_cell1 hkk.1).mpr ?_)
        rw [ux_cpy_self, hnc]
        simp [Array.getElem?_setIfInBounds, hl]
      obtain ⟨t, a1, b1⟩ := hr _ _ ls hlr hokL (ux_tl (ux_tl (ux_tl (ux_tl (ux_tl hokst))))) hR' ⟨by simp; exact hVS.1, fun q g1 g2 => by
          rw [oq q (fun e => g2 (by rw [e]; exact ⟨k0, s0, r0, hd0, rfl⟩))]
          exact hVS.2.1 q g1 g2, fun q hq => by
          rcases List.mem_append.mp hq with h | h
          · exact hVS.2.2 q h
          · obtain ⟨z, -, hz⟩ := List.mem_map.mp h
            rw [← hz]
            exact ⟨k0, s0, r0, hd0, rfl⟩⟩ _ hheap X'
      exact ⟨t, step t a1, b1⟩
    · exact hs.elim
  · exact hs.elim
end UXK
