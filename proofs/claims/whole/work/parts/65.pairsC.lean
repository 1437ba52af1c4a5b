/-! PAIRS: TOWNS, WAYS, FODDER, THE TAPE -/
section PairsC
variable {Γ : em_Cx} {n m : Nat} {dl : Nat → Nat} {I : Nat → Nat → Int32} {J : Nat → Nat → Int64} {rv : em_Rv}
theorem p_town (H : em_Inv n m dl I J rv) {x y z : Int32} : em_pair Γ mX7_town mX8_town [.int x, .int y, .int z] n m dl I J rv := by
  have H0 := H
  obtain ⟨N, G, t, c, lam, mu, T, S, h, H⟩ := H
  have hD := H.D
  have hT := hD.T8
  by_cases hc : ¬ 8 ≤ I 21 0 ∧ (0 ≤ z ∧ z ≤ 10000) ∧ (0 ≤ x ∧ x ≤ 1000) ∧ (x ≤ y ∧ y ≤ 1000)
  · obtain ⟨h1, h2, h3, h4⟩ := hc
    have hT2 : T < 8 := by
      refine Classical.byContradiction (fun q => h1 ?_)
      obtain rfl : T = 8 := by omega
      rw [hD.T1]
      decide
    refine ep_mk (by decide) (by decide) (d_town H.hB (s_addTown_ok H.hB hD.T1 hT2 h2 h3 h4)) (s_mTown_ok H.hB (T := T) hD.T2 hT2 h2 h3 h4) ?_
    refine em_Iv.inv (N := N) (G := G) (t := t) (c := c) (lam := lam) (mu := mu) (T := T + 1) (S := S) (h := h) (em_Iv.mk (hB := H.hB) (A := H.A) (B := H.B.frame (by repeat (first | exact ek_r _ | refine ek_s ?_ rfl)) rfl) (C := H.C) (D := ?_) (E := H.E) (F := H.F))
    obtain ⟨a, ha, rfl⟩ := nI_of2 (M := 1000) (n := 1000) rfl (Int32.not_lt.mpr h3.1) h3.2
    obtain ⟨b, hb, rfl⟩ := nI_of2 (M := 1000) (n := 1000) rfl (Int32.not_lt.mpr (Int32.le_trans h3.1 h4.1)) h4.2
    obtain ⟨w, hw, rfl⟩ := nI_of2 (M := 10000) (n := 10000) rfl (Int32.not_lt.mpr h2.1) h2.2
    have hab : a ≤ b := (nI_leI (by omega) (by omega)).mp h4.1
    refine em_gD.mk (T1 := ?_) (T2 := ?_) (T8 := by omega) (e71 := ?_) (e72 := ?_) (e73 := ?_) (e74 := hD.e74) (fo := hD.fo) (fb := hD.fb) (td := ?_) (tb := ?_) (tw := hD.tw) (pc := Or.inl rfl)
    · show I 21 0 + 1 = nI (T + 1)
      rw [hD.T1, nI_1]
    · show I 53 4 + 1 = nI (T + 1)
      rw [hD.T2, nI_1]
    · show va_up (I 71) T _ = va_up (I 22) T _
      rw [hD.e71]
    · show va_up (I 72) T _ = va_up (I 23) T _
      rw [hD.e72]
    · show va_up (I 73) T _ = va_up (I 24) T _
      rw [hD.e73]
    · intro j hj
      show ∃ a' b', a' ≤ b' ∧ b' ≤ 1000 ∧ va_up (I 22) T (nI a) j = nI a' ∧ va_up (I 23) T (nI b) j = nI b'
      by_cases e : j = T
      · subst e
        exact ⟨a, b, hab, hb, va_up_self _ _ _, va_up_self _ _ _⟩
      · rw [va_up_ne _ _ e, va_up_ne _ _ e]
        exact hD.td j (by omega)
    · intro j hj
      show ∃ w', w' ≤ 10000 ∧ va_up (I 24) T (nI w) j = nI w'
      by_cases e : j = T
      · subst e
        exact ⟨w, hw, va_up_self _ _ _⟩
      · rw [va_up_ne _ _ e]
        exact hD.tb j (by omega)
  · refine ep_mk (by decide) (by decide) (d_town H.hB (s_addTown_no H.hB hc)) (s_mTown_no H.hB (fun q => hc ⟨?_, q.2⟩)) H0
    intro q8
    refine q.1 ?_
    rw [hD.T2]
    rw [hD.T1] at q8
    have : 8 ≤ T := (nI_leI (a := 8) (by omega) (by omega)).mp q8
    obtain rfl : T = 8 := by omega
    rfl
theorem p_way (H : em_Inv n m dl I J rv) {x y z : Int32} : em_pair Γ mX7_way mX8_way [.int x, .int y, .int z] n m dl I J rv := by
  have H0 := H
  obtain ⟨N, G, t, c, lam, mu, T, S, h, H⟩ := H
  have hD := H.D
  have hT := hD.T8
  have e4 : I 53 4 = I 21 0 := by rw [hD.T1, hD.T2]
  by_cases hc : (0 ≤ x ∧ x ≤ I 21 0 - 1) ∧ (0 ≤ y ∧ y ≤ I 21 0 - 1) ∧ ¬ x = y ∧ (1 ≤ z ∧ z ≤ 60)
  · obtain ⟨h1, h2, h3, h4⟩ := hc
    obtain ⟨a, ha, rfl⟩ := em_inB2 hD.T1 (show T ≤ 40 by omega) h1
    obtain ⟨b, hb, rfl⟩ := em_inB2 hD.T1 (show T ≤ 40 by omega) h2
    have hab : ¬ a = b := fun e => h3 (by rw [e])
    refine ep_mk (by decide) (by decide) (d_way H.hB (s_setWay_ok H.hB hD.T1 hT rfl ha rfl hb hab h4) rfl) (s_mWay_ok H.hB (T := T) hD.T2 hT rfl ha rfl hb hab h4) ?_
    refine em_Iv.inv (N := N) (G := G) (t := t) (c := c) (lam := lam) (mu := mu) (T := T) (S := S) (h := h) (em_Iv.mk (hB := H.hB) (A := H.A) (B := H.B.frame (by repeat (first | exact ek_r _ | refine ek_s ?_ rfl)) rfl) (C := H.C) (D := ?_) (E := H.E) (F := H.F))
    obtain ⟨w, hw, rfl⟩ := nI_of2 (M := 60) (n := 60) rfl (fun q => absurd (Int32.lt_of_lt_of_le q (show (0 : Int32) ≤ 1 by decide)) (Int32.not_lt.mpr h4.1)) h4.2
    refine em_gD.mk (T1 := hD.T1) (T2 := hD.T2) (T8 := hT) (e71 := hD.e71) (e72 := hD.e72) (e73 := hD.e73) (e74 := ?_) (fo := hD.fo) (fb := hD.fb) (td := hD.td) (tb := hD.tb) (tw := ?_) (pc := Or.inl rfl)
    · show va_up (va_up (I 74) _ _) _ _ = va_up (va_up (I 25) _ _) _ _
      rw [hD.e74]
    · intro j hj
      show ∃ w', w' ≤ 60 ∧ va_up (va_up (I 25) (8 * a + b) (nI w)) (8 * b + a) (nI w) j = nI w'
      by_cases e : j = 8 * b + a
      · rw [e, va_up_self]; exact ⟨w, hw, rfl⟩
      · rw [va_up_ne _ _ e]
        by_cases e2 : j = 8 * a + b
        · rw [e2, va_up_self]; exact ⟨w, hw, rfl⟩
        · rw [va_up_ne _ _ e2]; exact hD.tw j hj
  · refine ep_mk (by decide) (by decide) (d_way H.hB (s_setWay_no H.hB hc) rfl) (s_mWay_no H.hB ?_) H0
    rw [e4]
    exact hc
theorem p_fodder (H : em_Inv n m dl I J rv) {z : Int32} : em_pair Γ mX7_fodder mX8_fodder [.int z] n m dl I J rv := by
  have H0 := H
  obtain ⟨N, G, t, c, lam, mu, T, S, h, H⟩ := H
  have hD := H.D
  have r0 := s_setFodder (Γ := Γ) (n := n) (m := m) (dl := dl) (I := I) (J := J) (rv := rv) H.hB (z := z)
  by_cases hc : 0 ≤ z ∧ z ≤ 1000
  · have r1 := s_mFodder (Γ := Γ) (n := n) (m := m) (dl := dl) (I := va_up I 21 (va_up (va_up (I 21) 5 z) 6 (-1))) (J := J) (rv := rv) H.hB (z := z)
    rw [if_pos hc, if_pos hc] at r0 r1
    refine ep_mk (by decide) (by decide) (d_fodder H.hB r0 rfl) r1 ?_
    refine em_Iv.inv (N := N) (G := G) (t := t) (c := c) (lam := lam) (mu := mu) (T := T) (S := S) (h := h) (em_Iv.mk (hB := H.hB) (A := H.A) (B := H.B.frame (by repeat (first | exact ek_r _ | refine ek_s ?_ rfl)) rfl) (C := H.C) (D := ?_) (E := H.E) (F := H.F))
    obtain ⟨w, hw, rfl⟩ := nI_of2 (M := 1000) (n := 1000) rfl (Int32.not_lt.mpr hc.1) hc.2
    exact em_gD.mk (T1 := hD.T1) (T2 := hD.T2) (T8 := hD.T8) (e71 := hD.e71) (e72 := hD.e72) (e73 := hD.e73) (e74 := hD.e74) (fo := rfl) (fb := ⟨w, hw, rfl⟩) (td := hD.td) (tb := hD.tb) (tw := hD.tw) (pc := Or.inl rfl)
  · have r1 := s_mFodder (Γ := Γ) (n := n) (m := m) (dl := dl) (I := I) (J := J) (rv := rv) H.hB (z := z)
    rw [if_neg hc, if_neg hc] at r0 r1
    exact ep_mk (by decide) (by decide) (d_fodder H.hB r0 rfl) r1 H0
theorem p_end (H : em_Inv n m dl I J rv) {z : Int32} : em_pair Γ mX7_end mX8_end [.int z] n m dl I J rv := by
  have H0 := H
  obtain ⟨N, G, t, c, lam, mu, T, S, h, H⟩ := H
  have hE := H.E
  have hS := hE.s3
  have e35 : I 53 35 = I 28 1 := by rw [hE.s1, hE.s2]
  have r0 := s_cutTo (Γ := Γ) (n := n) (m := m) (dl := dl) (I := I) (J := J) (rv := rv) H.hB (x := z)
  by_cases hc : 0 ≤ z ∧ z ≤ I 28 1
  · have r1 := s_mEnd (Γ := Γ) (n := n) (m := m) (dl := dl) (I := va_up I 28 (va_up (I 28) 1 z)) (J := J) (rv := rv) H.hB (x := z)
    have hc1 : 0 ≤ z ∧ z ≤ va_up I 28 (va_up (I 28) 1 z) 53 35 := by
      show 0 ≤ z ∧ z ≤ I 53 35
      rw [e35]
      exact hc
    rw [if_pos hc, if_pos hc] at r0
    rw [if_pos hc1, if_pos hc1] at r1
    refine ep_mk (by decide) (by decide) (d_end H.hB r0 rfl) r1 ?_
    rw [hE.s1] at hc
    obtain ⟨w, hw, rfl⟩ := nI_of2 (M := nI S) (n := S) (nI_toInt (by omega)) (Int32.not_lt.mpr hc.1) hc.2
    refine em_Iv.inv (N := N) (G := G) (t := t) (c := c) (lam := lam) (mu := mu) (T := T) (S := w) (h := h) (em_Iv.mk (hB := H.hB) (A := H.A) (B := H.B.frame (by repeat (first | exact ek_r _ | refine ek_s ?_ rfl)) rfl) (C := H.C) (D := H.D) (E := ?_) (F := H.F))
    exact em_gE.mk (s1 := rfl) (s2 := rfl) (s3 := by omega) (tp := hE.tp) (w0 := hE.w0) (w1 := hE.w1) (w2 := hE.w2) (w3 := hE.w3) (w4 := hE.w4) (w5 := hE.w5) (w6 := hE.w6) (w7 := hE.w7)
  · have r1 := s_mEnd (Γ := Γ) (n := n) (m := m) (dl := dl) (I := I) (J := J) (rv := rv) H.hB (x := z)
    have hc1 : ¬ (0 ≤ z ∧ z ≤ I 53 35) := by rw [e35]; exact hc
    rw [if_neg hc, if_neg hc] at r0
    rw [if_neg hc1, if_neg hc1] at r1
    exact ep_mk (by decide) (by decide) (d_end H.hB r0 rfl) r1 H0
theorem p_feed (H : em_Inv n m dl I J rv) {a b d e f : Int32} : em_pair Γ mX7_feed mX8_feed [.int a, .int b, .int d, .int e, .int f] n m dl I J rv := by
  have H0 := H
  obtain ⟨N, G, t, c, lam, mu, T, S, h, H⟩ := H
  have hE := H.E
  by_cases hc : S + (em_bys a b d e f).length ≤ 200
  · refine ep_mk (by decide) (by decide) (s_feed_ok H.hB hE.s1 hc) (s_mFeed_ok H.hB (S := S) hE.s2 hc) ?_
    refine em_Iv.inv (N := N) (G := G) (t := t) (c := c) (lam := lam) (mu := mu) (T := T) (S := S + (em_bys a b d e f).length) (h := h) (em_Iv.mk (hB := H.hB) (A := H.A) (B := H.B.frame (by repeat (first | exact ek_r _ | refine ek_s ?_ rfl)) rfl) (C := H.C) (D := H.D) (E := ?_) (F := H.F))
    exact em_gE.mk (s1 := rfl) (s2 := rfl) (s3 := hc) (tp := by show em_app (I 77) S _ = em_app (I 29) S _; rw [hE.tp]) (w0 := hE.w0) (w1 := hE.w1) (w2 := hE.w2) (w3 := hE.w3) (w4 := hE.w4) (w5 := hE.w5) (w6 := hE.w6) (w7 := hE.w7)
  · exact ep_mk (by decide) (by decide) (s_feed_no H.hB hE.s1 hE.s3 hc) (s_mFeed_no H.hB hE.s2 hE.s3 hc) H0
end PairsC
