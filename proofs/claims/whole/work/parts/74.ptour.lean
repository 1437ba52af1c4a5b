/-! PAIRS: TOUR, STOP -/
section PairsH
variable {Γ : em_Cx} {n m : Nat} {dl : Nat → Nat} {I : Nat → Nat → Int32} {J : Nat → Nat → Int64} {rv : em_Rv}
theorem em_gD.env {T : Nat} (h : em_gD I T) : et_E (I 22) (I 23) (I 24) (I 25) (I 21 5) T (fun j => (I 22 j).toNatClampNeg) (fun j => (I 23 j).toNatClampNeg) (fun j => (I 24 j).toNatClampNeg) (fun j => (I 25 j).toNatClampNeg) (I 21 5).toNatClampNeg := by
  refine et_E.mk (h1 := fun j hj => ?_) (h2 := fun j hj => ?_) (h3 := ?_) (h8 := h.T8)
  · obtain ⟨a, b, l1, l2, e1, e2⟩ := h.td j hj
    obtain ⟨x, l3, e3⟩ := h.tb j hj
    show I 22 j = nI (I 22 j).toNatClampNeg ∧ I 23 j = nI (I 23 j).toNatClampNeg ∧ I 24 j = nI (I 24 j).toNatClampNeg ∧ (I 22 j).toNatClampNeg ≤ (I 23 j).toNatClampNeg ∧ (I 23 j).toNatClampNeg ≤ 1000 ∧ (I 24 j).toNatClampNeg ≤ 10000
    rw [e1, e2, e3, nI_clamp (by omega), nI_clamp (by omega), nI_clamp (by omega)]
    exact ⟨rfl, rfl, rfl, l1, l2, l3⟩
  · obtain ⟨x, l, e⟩ := h.tw j hj
    show I 25 j = nI (I 25 j).toNatClampNeg ∧ (I 25 j).toNatClampNeg ≤ 60
    rw [e, nI_clamp (by omega)]
    exact ⟨rfl, l⟩
  · obtain ⟨f, l, e⟩ := h.fb
    rw [e, nI_clamp (by omega)]
    exact ⟨rfl, l⟩
theorem ei_gonI {T t D : Nat} (hT : T ≤ 8) (ht : t < T) (I' : Nat → Nat → Int32) (e71 : I' 71 = I 22) (e72 : I' 72 = I 23) (e73 : I' 73 = I 24) (e74 : I' 74 = I 25) (e5 : I' 53 5 = I 21 5) : et_is (et_bst (I 22) (I 23) (I 24) (I 25) (I 21 5) T t D) (em_q2 I' T t D).1 (em_q2 I' T t D).2.1 (em_q2 I' T t D).2.2.1 := by
  have h := et_gon (I := em_q1 I' D) hT 8 [] t (nI D) 0 (1 <<< (nI t &&& 31)) (0, 0, I' 76, I' 75) (0, []) (by simp) ht (by simp) (by simp) (by simp) ⟨rfl, rfl, by simp, fun i hi => absurd hi (by simp)⟩ (fun i hi => absurd hi (by simp)) (fun k hk => by
    have z := em_hs_or 0 (j := k) (k := t) hk (by omega)
    rw [Int32.zero_or] at z
    rw [z]
    simp) (Or.inl ⟨by simp, fun i hi => absurd hi (by simp)⟩)
  have h1 := h.1
  have f71 : em_q1 I' D 71 = I 22 := e71
  have f72 : em_q1 I' D 72 = I 23 := e72
  have f73 : em_q1 I' D 73 = I 24 := e73
  have f74 : em_q1 I' D 74 = I 25 := e74
  have f5 : em_q1 I' D 53 5 = I 21 5 := e5
  have f33 : em_q1 I' D 53 33 = nI D := rfl
  rw [f71, f72, f73, f74, f5, f33] at h1
  exact h1
theorem ei_visI {T t D : Nat} (hD : em_gD I T) (ht : t < T) (hd : D ≤ 1000) : et_is (et_bst (I 22) (I 23) (I 24) (I 25) (I 21 5) T t D) (em_vis (em_p1 I t D) T 8 0 t (nI D) 0 (0, 0, 0, I 26, I 27)).1 (em_vis (em_p1 I t D) T 8 0 t (nI D) 0 (0, 0, 0, I 26, I 27)).2.1 (em_vis (em_p1 I t D) T 8 0 t (nI D) 0 (0, 0, 0, I 26, I 27)).2.2.2.1 := by
  have h := et_vis (I := em_p1 I t D) (D := D) hD.env rfl 8 [] t D 0 (0, 0, 0, I 26, I 27) (0, []) rfl ht (by simp) (Nat.le_refl _) (by omega) (by simp) ⟨rfl, rfl, by simp, fun i hi => absurd hi (by simp)⟩ (fun i hi => absurd hi (by simp)) (fun k hk => by
    simp)
  exact h.1
theorem ei_tour {N G t0 c lam mu T S h t D : Nat} (H : em_Iv n m dl I J rv N G t0 c lam mu T S h) (ht : t < T) (hd : D ≤ 1000) : et_is (et_bst (I 22) (I 23) (I 24) (I 25) (I 21 5) T t D) (em_pln I T t D 21 9) (em_pln I T t D 21 10) (em_pln I T t D 26) ∧ et_is (et_bst (I 22) (I 23) (I 24) (I 25) (I 21 5) T t D) (em_q2 (em_pln I T t D) T t D).1 (em_q2 (em_pln I T t D) T t D).2.1 (em_q2 (em_pln I T t D) T t D).2.2.1 ∧ em_pln I T t D 53 = I 53 ∧ em_Inv n m dl (em_mtr (em_pln I T t D) T t D) J rv := by
  have hD := H.D
  have hT := hD.T8
  by_cases hc : I 21 6 = nI t ∧ I 21 7 = nI D
  · have e : em_pln I T t D = I := by rw [em_pln, if_pos hc]
    rw [e]
    refine ⟨?_, ei_gonI hT ht I hD.e71 hD.e72 hD.e73 hD.e74 hD.fo, rfl, ?_⟩
    · rcases hD.pc with z | ⟨t', D', a1, a2, a3, a4, a5⟩
      · exfalso
        rw [hc.1] at z
        have h0 := nI_pos (n := t) (by omega)
        rw [z] at h0
        exact h0 (by decide)
      · have et : t' = t := (nI_eq (by omega) (by omega)).mp (by rw [← a3]; exact hc.1)
        have ed : D' = D := (nI_eq (by omega) (by omega)).mp (by rw [← a4]; exact hc.2)
        rw [← et, ← ed]
        exact a5
    · unfold em_mtr
      generalize em_q2 I T t D = q
      exact em_Iv.inv (em_Iv.mk (hB := H.hB) (A := H.A) (B := H.B.frame (by repeat (first | exact ek_r _ | refine ek_s ?_ rfl)) rfl) (C := H.C) (D := H.D) (E := H.E) (F := H.F))
  · have e : em_pln I T t D = em_fI (em_p1 I t D) (em_vis (em_p1 I t D) T 8 0 t (nI D) 0 (0, 0, 0, I 26, I 27)) := by rw [em_pln, if_neg hc]
    have hv := ei_visI hD ht hd
    rw [e]
    generalize em_vis (em_p1 I t D) T 8 0 t (nI D) 0 (0, 0, 0, I 26, I 27) = v at hv
    refine ⟨hv, ei_gonI hT ht _ hD.e71 hD.e72 hD.e73 hD.e74 hD.fo, rfl, ?_⟩
    unfold em_mtr
    generalize em_q2 (em_fI (em_p1 I t D) v) T t D = q
    refine em_Iv.inv (T := T) (em_Iv.mk (hB := H.hB) (A := H.A) (B := H.B.frame (by repeat (first | exact ek_r _ | refine ek_s ?_ rfl)) rfl) (C := H.C) (D := ?_) (E := H.E) (F := H.F))
    exact em_gD.mk (T1 := hD.T1) (T2 := hD.T2) (T8 := hT) (e71 := hD.e71) (e72 := hD.e72) (e73 := hD.e73) (e74 := hD.e74) (fo := hD.fo) (fb := hD.fb) (td := hD.td) (tb := hD.tb) (tw := hD.tw) (pc := Or.inr ⟨t, D, ht, hd, rfl, rfl, hv⟩)
theorem p_tour (H : em_Inv n m dl I J rv) {x y : Int32} : em_pair Γ mX7_tour mX8_tour [.int x, .int y] n m dl I J rv := by
  have H0 := H
  obtain ⟨N, G, t0, c, lam, mu, T, S, h, H⟩ := H
  have hD := H.D
  have hT := hD.T8
  have e4 : I 53 4 = I 21 0 := by rw [hD.T1, hD.T2]
  by_cases hx : (0 ≤ x ∧ x ≤ I 21 0 - 1) ∧ (0 ≤ y ∧ y ≤ 1000)
  case neg => exact ep_mk (by decide) (by decide) (d_tour H.hB (s_bestBrings_no H.hB hx)) (s_mTour_no H.hB (by rw [e4]; exact hx)) H0
  obtain ⟨t, ht, rfl⟩ := em_inB2 hD.T1 (show T ≤ 40 by omega) hx.1
  obtain ⟨D, hd, rfl⟩ := nI_of2 (M := 1000) (n := 1000) rfl (Int32.not_lt.mpr hx.2.1) hx.2.2
  obtain ⟨f1, f2, f3, f4⟩ := ei_tour H ht hd
  have r := s_mTour_ok (Γ := Γ) (n := n) (m := m) (dl := dl) (I := em_pln I T t D) (J := J) (rv := rv) H.hB (t := t) (D := D) (T := T) (by rw [f3]; exact hD.T2) hT ht hd
  rw [f2.2.1, ← f1.2.1] at r
  exact ep_mk (by decide) (by decide) (d_tour H.hB (s_bestBrings_ok H.hB hD.T1 hT ht hd)) r f4
theorem p_stop (H : em_Inv n m dl I J rv) {x y i : Int32} : em_pair Γ mX7_stop mX8_stop [.int x, .int y, .int i] n m dl I J rv := by
  have H0 := H
  obtain ⟨N, G, t0, c, lam, mu, T, S, h, H⟩ := H
  have hD := H.D
  have hT := hD.T8
  have e4 : I 53 4 = I 21 0 := by rw [hD.T1, hD.T2]
  by_cases hx : (0 ≤ x ∧ x ≤ I 21 0 - 1) ∧ (0 ≤ y ∧ y ≤ 1000)
  case neg => exact ep_mk (by decide) (by decide) (d_stop H.hB (s_bestStop_no H.hB hx)) (s_mStop_no H.hB (by rw [e4]; exact hx)) H0
  obtain ⟨t, ht, rfl⟩ := em_inB2 hD.T1 (show T ≤ 40 by omega) hx.1
  obtain ⟨D, hd, rfl⟩ := nI_of2 (M := 1000) (n := 1000) rfl (Int32.not_lt.mpr hx.2.1) hx.2.2
  obtain ⟨f1, f2, f3, f4⟩ := ei_tour H ht hd
  have hlen := f1.2.2.1
  have r := s_mStop_ok (Γ := Γ) (n := n) (m := m) (dl := dl) (I := em_pln I T t D) (J := J) (rv := rv) H.hB (t := t) (D := D) (T := T) (i := i) (by rw [f3]; exact hD.T2) hT ht hd f2.1 hlen
  have cc := s_bestStop_ok (Γ := Γ) (m := m) (dl := dl) (J := J) (rv := rv) H.hB (i := i) hD.T1 hT ht hd f1.1 hlen
  have e : (if 0 ≤ i ∧ i ≤ nI (et_bst (I 22) (I 23) (I 24) (I 25) (I 21 5) T t D).2.length - 1 then (em_q2 (em_pln I T t D) T t D).2.2.1 i.toNatClampNeg else -1) = if 0 ≤ i ∧ i ≤ nI (et_bst (I 22) (I 23) (I 24) (I 25) (I 21 5) T t D).2.length - 1 then em_pln I T t D 26 i.toNatClampNeg else -1 := by
    by_cases hi : 0 ≤ i ∧ i ≤ nI (et_bst (I 22) (I 23) (I 24) (I 25) (I 21 5) T t D).2.length - 1
    · rw [if_pos hi, if_pos hi]
      obtain ⟨j, hj, rfl⟩ := em_inB2 rfl (by omega) hi
      rw [nI_clamp (by omega), f1.2.2.2 j hj, f2.2.2.2 j hj]
    · rw [if_neg hi, if_neg hi]
  rw [e] at r
  exact ep_mk (by decide) (by decide) (d_stop H.hB cc) r f4
end PairsH
