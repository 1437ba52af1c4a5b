/-! System.arraycopy between two arrays of ints, or of longs -/
theorem em_nat (z : Int32) (hz : ¬ z < 0) : z.toInt = (z.toNatClampNeg : Int) := by
  have hz0 : (0 : Int) ≤ z.toInt := by
    have := Int32.not_lt.mp hz
    simpa using Int32.le_iff_toInt_le.mp this
  show z.toInt = ((z.toInt.toNat : Nat) : Int)
  omega
theorem em_ac1 : Cond.native arraycopyName ∈ lw_tbl := by decide +kernel
theorem em_ac2 : Cond.static arraycopyName ∈ lw_tbl := by decide +kernel
theorem em_ac3 : Cond.initialized "java/lang/System" ∈ lw_tbl := by decide +kernel
section EmCopy
variable {Γ : em_Cx} {K : Nat} {μ : em_Me} {hp0 : em_Hp} {fin : Option Value × em_Hp} {pc a nx : Nat} {b : Int32} {lc : List (Nat × Value)} {st t : List Value} {hp hp' : em_Hp}
theorem em_locs {Γ : em_Cx} {locs : List Loc} {k : Nat} (h : ∀ q ∈ locs, em_A Γ q.base) (vs : List (Value × Nat)) (d : Nat) : ∀ q ∈ locs ++ vs.map (fun q => (⟨em_z Γ + k, d + q.2⟩ : Loc)), em_A Γ q.base := by
  intro q hq
  rcases List.mem_append.mp hq with h1 | h1
  · exact h q h1
  · obtain ⟨z, -, rfl⟩ := List.mem_map.mp h1
    exact Nat.le_add_right _ _
theorem em_copyI {k0 k1 : Nat} {sp dp n : Int32} (hok : em_ok μ) (h : em_at1 80 μ pc = some (a, nx)) (hl0 : Cond.methodLink (em_own μ) a arraycopyName ∈ lw_tbl) (hk0 : em_k k0 = 9) (hk1 : em_k k1 = 9) (hn0 : k0 < em_n hp) (hn1 : k1 < em_n hp) (h1 : ¬ sp < 0) (h2 : ¬ dp < 0) (h3 : ¬ n < 0) (h4 : sp.toNatClampNeg + n.toNatClampNeg ≤ em_ln hp k0) (h5 : dp.toNatClampNeg + n.toNatClampNeg ≤ em_ln hp k1) (hK : 2 ≤ K) (hcat : em_cats t ≤ 8)
    (kk : em_EW Γ K μ hp0 fin nx lc t (em_sI hp k1 (va_cpy (em_I hp k0) (em_I hp k1) sp.toNatClampNeg dp.toNatClampNeg n.toNatClampNeg))) : em_EW Γ K μ hp0 fin pc lc (.int n :: .int dp :: .ref k1 :: .int sp :: .ref k0 :: t) hp := by
  obtain ⟨b, hi⟩ := em_at1_i h
  obtain ⟨ii, len, hd, hdec, hnx⟩ := hok.dec hi
  subst hnx
  cases hd
  intro p e s m args below meth c hx hb hr hlk hml hown hnm hG hs H locs cells slots ls hW hlo hcl hsl hl
  have hc0 := (em_cl_9 hk0).mp (hW.2.2 k0 hn0)
  have hc1 := (em_cl_9 hk1).mp (hW.2.2 k1 hn1)
  obtain ⟨-, kI, hkI, cmp, hkk⟩ := em_arrI hG (em_ln hp k0) (fun j => .int (em_I hp k0 j))
  intro T hT X
  obtain ⟨vm', X', step⟩ := X.arraycopy hx hown (hG.1 _ hl0 rfl args) (hG.1 _ em_ac1 rfl args) (hG.1 _ em_ac2 rfl args) (hG.1 _ em_ac3 rfl args) (cs := arrV (em_cI Γ) (em_ln hp k0) (fun j => .int (em_I hp k0 j))) (cd := arrV (em_cI Γ) (em_ln hp k1) (fun j => .int (em_I hp k1 j))) (srcPos := sp) (destPos := dp) (n := n) (by rw [hT]; exact hc0) (by rw [hT]; exact hc1)
    (fun _ h => by cases h) (fun _ h => by cases h) (fun h => by cases h) (fun h => by cases h) hkI hkI hkk hkk (by rfl) h1 h2 h3
    (by rw [em_nat sp h1, em_nat n h3, arrV_size]; omega) (by rw [em_nat dp h2, em_nat n h3, arrV_size]; omega)
    (fun vm₁ _ i hi => by
      have e : (arrV (em_cI Γ) (em_ln hp k0) (fun j => .int (em_I hp k0 j))).slots.getD (sp.toNatClampNeg + i) .null = .int (em_I hp k0 (sp.toNatClampNeg + i)) := by
        rw [Array.getD_eq_getD_getElem?, arrV_read _ _ (by omega)]
        rfl
      exact ⟨by rw [e]; rfl, by rw [e]; exact trivial⟩)
    (g := F0 m pc ls ((Value.int n :: .int dp :: .ref k1 :: .int sp :: .ref k0 :: t).map (em_v Γ))) rfl (by rw [hml]; exact hl.1) (rest := t.map (em_v Γ)) rfl (by rw [hb]; exact hdec) (show 1 ≤ K by omega)
    (by
      have h8 : 2 * (F0 m pc ls ((Value.int n :: .int dp :: .ref k1 :: .int sp :: .ref k0 :: t).map (em_v Γ))).monitorRoom + ((t.map (em_v Γ)).map fun v => v.category).sum ≤ 8 := lv_room (by rw [em_sums]; exact hcat)
      have h9 : nativeFrameWords "java/lang/System" "arraycopy" 5 ≤ 40 := by decide +kernel
      show _ ≤ 40 * K
      omega)
  have e1 : copied (arrV (em_cI Γ) (em_ln hp k0) (fun j => .int (em_I hp k0 j))) (arrV (em_cI Γ) (em_ln hp k1) (fun j => .int (em_I hp k1 j))) sp dp n = arrV (em_cI Γ) (em_ln hp k1) (fun j => .int (va_cpy (em_I hp k0) (em_I hp k1) sp.toNatClampNeg dp.toNatClampNeg n.toNatClampNeg j)) := va_copied (fun z => .int z) _ _ _ _ h4
  rw [e1] at X' step
  have hlt : em_z Γ + k1 < H.size := (Array.getElem?_eq_some_iff.mp hc1).1
  generalize hNC : arrV (em_cI Γ) (em_ln hp k1) (fun j => .int (va_cpy (em_I hp k0) (em_I hp k1) sp.toNatClampNeg dp.toNatClampNeg n.toNatClampNeg j)) = NC at X' step
  have hheap : ((T.setVm vm').setCell (em_z Γ + k1) NC).heap = H.setIfInBounds (em_z Γ + k1) NC := by rw [← hT]; rfl
  obtain ⟨t2, a1, b1⟩ := kk p e s m args below meth c hx hb hr hlk hml hown hnm hG hs (H.setIfInBounds (em_z Γ + k1) NC) _ cells slots ls (em_W_set (k := k1) hW rfl (fun _ _ => rfl) em_ne (fun _ _ => rfl) (fun _ _ => rfl) (by simp) (fun q hq => by simp [Array.getElem?_setIfInBounds, Ne.symm hq]) ((em_cl_9 hk1).mpr (by
      have e3 : (H.setIfInBounds (em_z Γ + k1) NC)[em_z Γ + k1]? = some NC := by simp [Array.getElem?_setIfInBounds, hlt]
      rw [e3, ← hNC]
      show some (arrV _ _ _) = some (arrV _ _ (fun j => Value.int (va_up (em_I hp) k1 _ k1 j)))
      rw [va_up_self]
      rfl))) (em_locs hlo _ _) hcl hsl hl _ hheap X'
  exact ⟨t2, step t2 a1, b1⟩
theorem em_copyJ {k0 k1 : Nat} {sp dp n : Int32} (hok : em_ok μ) (h : em_at1 80 μ pc = some (a, nx)) (hl0 : Cond.methodLink (em_own μ) a arraycopyName ∈ lw_tbl) (hk0 : em_k k0 = 10) (hk1 : em_k k1 = 10) (hn0 : k0 < em_n hp) (hn1 : k1 < em_n hp) (h1 : ¬ sp < 0) (h2 : ¬ dp < 0) (h3 : ¬ n < 0) (h4 : sp.toNatClampNeg + n.toNatClampNeg ≤ em_ln hp k0) (h5 : dp.toNatClampNeg + n.toNatClampNeg ≤ em_ln hp k1) (hK : 2 ≤ K) (hcat : em_cats t ≤ 8)
    (kk : em_EW Γ K μ hp0 fin nx lc t (em_sJ hp k1 (va_cpy (em_J hp k0) (em_J hp k1) sp.toNatClampNeg dp.toNatClampNeg n.toNatClampNeg))) : em_EW Γ K μ hp0 fin pc lc (.int n :: .int dp :: .ref k1 :: .int sp :: .ref k0 :: t) hp := by
  obtain ⟨b, hi⟩ := em_at1_i h
  obtain ⟨ii, len, hd, hdec, hnx⟩ := hok.dec hi
  subst hnx
  cases hd
  intro p e s m args below meth c hx hb hr hlk hml hown hnm hG hs H locs cells slots ls hW hlo hcl hsl hl
  have hc0 := (em_cl_10 hk0).mp (hW.2.2 k0 hn0)
  have hc1 := (em_cl_10 hk1).mp (hW.2.2 k1 hn1)
  obtain ⟨-, kI, hkI, cmp, hkk⟩ := em_arrJ hG (em_ln hp k0) (fun j => .long (em_J hp k0 j))
  intro T hT X
  obtain ⟨vm', X', step⟩ := X.arraycopy hx hown (hG.1 _ hl0 rfl args) (hG.1 _ em_ac1 rfl args) (hG.1 _ em_ac2 rfl args) (hG.1 _ em_ac3 rfl args) (cs := arrV (em_cJ Γ) (em_ln hp k0) (fun j => .long (em_J hp k0 j))) (cd := arrV (em_cJ Γ) (em_ln hp k1) (fun j => .long (em_J hp k1 j))) (srcPos := sp) (destPos := dp) (n := n) (by rw [hT]; exact hc0) (by rw [hT]; exact hc1)
    (fun _ h => by cases h) (fun _ h => by cases h) (fun h => by cases h) (fun h => by cases h) hkI hkI hkk hkk (by rfl) h1 h2 h3
    (by rw [em_nat sp h1, em_nat n h3, arrV_size]; omega) (by rw [em_nat dp h2, em_nat n h3, arrV_size]; omega)
    (fun vm₁ _ i hi => by
      have e : (arrV (em_cJ Γ) (em_ln hp k0) (fun j => .long (em_J hp k0 j))).slots.getD (sp.toNatClampNeg + i) .null = .long (em_J hp k0 (sp.toNatClampNeg + i)) := by
        rw [Array.getD_eq_getD_getElem?, arrV_read _ _ (by omega)]
        rfl
      exact ⟨by rw [e]; rfl, by rw [e]; exact trivial⟩)
    (g := F0 m pc ls ((Value.int n :: .int dp :: .ref k1 :: .int sp :: .ref k0 :: t).map (em_v Γ))) rfl (by rw [hml]; exact hl.1) (rest := t.map (em_v Γ)) rfl (by rw [hb]; exact hdec) (show 1 ≤ K by omega)
    (by
      have h8 : 2 * (F0 m pc ls ((Value.int n :: .int dp :: .ref k1 :: .int sp :: .ref k0 :: t).map (em_v Γ))).monitorRoom + ((t.map (em_v Γ)).map fun v => v.category).sum ≤ 8 := lv_room (by rw [em_sums]; exact hcat)
      have h9 : nativeFrameWords "java/lang/System" "arraycopy" 5 ≤ 40 := by decide +kernel
      show _ ≤ 40 * K
      omega)
  have e1 : copied (arrV (em_cJ Γ) (em_ln hp k0) (fun j => .long (em_J hp k0 j))) (arrV (em_cJ Γ) (em_ln hp k1) (fun j => .long (em_J hp k1 j))) sp dp n = arrV (em_cJ Γ) (em_ln hp k1) (fun j => .long (va_cpy (em_J hp k0) (em_J hp k1) sp.toNatClampNeg dp.toNatClampNeg n.toNatClampNeg j)) := va_copied (fun z => .long z) _ _ _ _ h4
  rw [e1] at X' step
  have hlt : em_z Γ + k1 < H.size := (Array.getElem?_eq_some_iff.mp hc1).1
  generalize hNC : arrV (em_cJ Γ) (em_ln hp k1) (fun j => .long (va_cpy (em_J hp k0) (em_J hp k1) sp.toNatClampNeg dp.toNatClampNeg n.toNatClampNeg j)) = NC at X' step
  have hheap : ((T.setVm vm').setCell (em_z Γ + k1) NC).heap = H.setIfInBounds (em_z Γ + k1) NC := by rw [← hT]; rfl
  obtain ⟨t2, a1, b1⟩ := kk p e s m args below meth c hx hb hr hlk hml hown hnm hG hs (H.setIfInBounds (em_z Γ + k1) NC) _ cells slots ls (em_W_set (k := k1) hW rfl (fun _ _ => rfl) (fun _ _ => rfl) em_ne (fun _ _ => rfl) (by simp) (fun q hq => by simp [Array.getElem?_setIfInBounds, Ne.symm hq]) ((em_cl_10 hk1).mpr (by
      have e3 : (H.setIfInBounds (em_z Γ + k1) NC)[em_z Γ + k1]? = some NC := by simp [Array.getElem?_setIfInBounds, hlt]
      rw [e3, ← hNC]
      show some (arrV _ _ _) = some (arrV _ _ (fun j => Value.long (va_up (em_J hp) k1 _ k1 j)))
      rw [va_up_self]
      rfl))) (em_locs hlo _ _) hcl hsl hl _ hheap X'
  exact ⟨t2, step t2 a1, b1⟩
end EmCopy
