/-! PAIR: THE DAY, WALKED -/
theorem ed_k {r k0 k : Nat} (h : em_rk r k0) (h1 : k < 85) (h2 : ¬ k = k0) : ¬ k = r := by
  rcases h with rfl | h
  · exact h2
  · omega
theorem ed_l {r k : Nat} (h : em_rl r) (h1 : k < 85) (h2 : ¬ k = 14) : ¬ k = r := by
  rcases h with rfl | h
  · exact h2
  · omega
theorem ed_k53 {r : Nat} (h : em_rk r 64 ∨ em_rk r 65 ∨ em_rk r 66) : ¬ r = 53 := by
  rcases h with (rfl | h) | (rfl | h) | (rfl | h) <;> omega
theorem ed_rl {r : Nat} (h : em_rl r) {k : Nat} (h1 : k < 85) (h2 : ¬ k = 14) : ¬ r = k := fun z => ed_l h h1 h2 z.symm
theorem ed_rk {r k0 : Nat} (h : em_rk r k0) {k : Nat} (h1 : k < 85) (h2 : ¬ k = k0) : ¬ r = k := fun z => ed_k h h1 h2 z.symm
theorem ed_fr {a b r n : Nat} (h : a = b ∨ n ≤ a) (h2 : ¬ b = r) (h3 : r < n) : ¬ a = r := by omega
theorem ed_fr2 {a r r' n : Nat} (h : r' = r ∨ n ≤ r') (h2 : ¬ a = r) (h3 : a < n) : ¬ a = r' := by omega
theorem ed_mm {m m1 m2 lam lam1 mu mu2 : Nat} (h1 : (m1 = m ∧ lam1 = lam) ∨ (m1 = m + lam1 ∧ lam < lam1 ∧ (2 * lam ≤ lam1 ∨ lam1 = 60000))) (h2 : m + 1536 ≤ 5332 + 2 * lam + 6 * mu ∨ (lam = 60000 ∧ m + 1536 ≤ 185332 + 6 * mu)) (h3 : m2 + 6 * mu = m1 + 6 * mu2) (h4 : lam ≤ 60000) (h5 : lam1 ≤ 60000) : m2 + 1536 ≤ 5332 + 2 * lam1 + 6 * mu2 ∨ (lam1 = 60000 ∧ m2 + 1536 ≤ 185332 + 6 * mu2) := by omega
section PairsG
variable {Γ : em_Cx} {n m : Nat} {dl : Nat → Nat} {I : Nat → Nat → Int32} {J : Nat → Nat → Int64} {rv : em_Rv}
theorem p_day (H : em_Inv n m dl I J rv) : em_pair Γ mX7_day mX8_day [] n m dl I J rv := by
  have H0 := H
  obtain ⟨N, G, t, c, lam, mu, T, S, h, H⟩ := H
  have hA := H.A
  have hb := H.B
  have hN := hA.n2
  have ht := hA.t2
  have hB := H.hB
  have hc3 := hb.c3
  by_cases ht4 : t = 400
  · refine ep_mk (by decide) (by decide) (s_day_max hB ?_) (s_mDay_max hB ?_) H0
    · rw [hA.t1, ht4]; decide
    · rw [hA.m0, ht4]; rfl
  have ht2 : t < 400 := by omega
  have hlt : I 1 10 < 400 := by rw [hA.t1]; exact nI_lt (b := 400) ht2 (by omega)
  generalize hg : em_gf I G (I 1 10) = g
  generalize hf : em_acc (em_dif I g (em_fil (I 11) 0 401) N) t = f
  have hr := s_rations (Γ := Γ) (n := n) (m := m) (dl := dl) (I := I) (J := J) (rv := rv) hB hA.n1 hN hA.g1 hA.g2 hA.gb40 hA.kd (fun b hb' => by
    obtain ⟨k, hk, e⟩ := hA.fr b hb'
    exact ⟨k, by omega, e⟩) (fun b hb' => (ei_gf hA hb').elim Or.inl (fun ⟨k, hk, e, _⟩ => Or.inr ⟨k, by omega, e⟩)) hA.t1 ht
  rw [hg, hf] at hr
  have hr : em_MC Γ 2 mX3_rationsToToday [.ref 1] (em_hm n m dl I J rv) (some (.ref 11)) (em_hm n m dl (va_up (va_up I 10 g) 11 f) J rv) := hr
  have hfd : ∀ d, d < t + 1 → f d = em_fd I G N d := by
    intro d hd
    rw [← hf, ← hg, hA.t1, ei_rations hA (by omega)]
    show _ = em_meat I G (nI d) (I 53 0) N
    rw [hA.m0]
  generalize hI1 : va_up (va_up I 10 g) 11 f = I1 at hr
  have k1 : ∀ k, ¬ k = 10 → ¬ k = 11 → I1 k = I k := fun k h1 h2 => by rw [← hI1, va_up_ne _ _ h2, va_up_ne _ _ h1]
  have k11 : I1 11 = f := by rw [← hI1, va_up_self]
  have e12 := k1 12 (by decide) (by decide)
  have e13 := k1 13 (by decide) (by decide)
  have e53 := k1 53 (by decide) (by decide)
  have e63 := k1 63 (by decide) (by decide)
  have fdeq : ∀ I' : Nat → Nat → Int32, (∀ k, 53 ≤ k → k ≤ 62 → I' k = I k) → em_fd I' G N = em_fd I G N := by
    intro I' hs
    funext d
    show em_meat I' G (nI d) (I' 53 0) N = em_meat I G (nI d) (I 53 0) N
    rw [hs 53 (by decide) (by decide)]
    exact em_meat_eq (hs 54 (by decide) (by decide)) (hs 56 (by decide) (by decide)) (hs 57 (by decide) (by decide)) (hs 58 (by decide) (by decide)) (hs 60 (by decide) (by decide)) (hs 61 (by decide) (by decide)) (hs 62 (by decide) (by decide)) G (nI d) (I 53 0) N
  have hdue : em_due (I1 11) (I1 13) (t + 1) = em_due (em_fd I G N) (I 63) (t + 1) := by
    rw [k11, e13, hb.u]
    exact ei_due_eq (t + 1) hfd (fun _ _ => rfl)
  generalize hD1 : em_due (em_fd I G N) (I 63) (t + 1) = D1 at hdue
  have hD1le : D1 ≤ t + 1 := by rw [← hD1]; exact em_due_le _ _ _
  have c1' : I1 12 3 = nI c := by rw [e12]; exact hb.c1
  by_cases hfull : 20000 < c + D1
  · have hcd := s_closeDay_no (Γ := Γ) (n := n) (m := m) (dl := dl) (I := I1) (J := J) (rv := rv) hB (t := t) (c := c) (by omega) c1' hc3 (by rw [hdue]; exact hfull)
    rw [← hA.t1] at hcd
    have cc := s_day_go hB hlt hr hcd
    rw [if_pos rfl] at cc
    have kk : ∀ b, b < N → ∃ k, k < 8 ∧ I1 56 b = nI k := by rw [k1 56 (by decide) (by decide)]; exact hA.kd56
    refine ep_mk (by decide) (by decide) cc (s_mDay_no hB (N := N) (G := G) (t := t) (c := c) (by rw [e53]; exact hA.m1) hN (by rw [e53]; exact hA.m2) hA.g2 kk (by rw [e53]; exact hA.m0) ht2 (by rw [e53]; exact hb.c2) hc3 ?_) ?_
    · rw [fdeq I1 (fun k a b => k1 k (by omega) (by omega)), e63, hD1]
      exact hfull
    · rw [← hI1]
      exact em_Iv.inv (em_Iv.mk (hB := hB) (A := hA) (B := H.B.frame (by repeat (first | exact ek_r _ | refine ek_s ?_ rfl)) rfl) (C := H.C) (D := H.D) (E := H.E) (F := H.F))
  have hok : c + D1 ≤ 20000 := by omega
  obtain ⟨n1, m1, dl1, I1', rv1, lam1, R, hMR⟩ := ed_make (Γ := Γ) (n := n) (m := m) (dl := dl) (I := I1) (J := J) (rv := rv) hB hb.L1 hb.L2 hb.L3 hb.L4 hok
  have rn := R.hn
  have hB1 : 85 ≤ n1 := by omega
  have s12 : I1' 12 = I 12 := by rw [R.same 12 (by omega), e12]
  have s13 : I1' 13 = I 13 := by rw [R.same 13 (by omega), e13]
  have s11 : I1' 11 = I1 11 := R.same 11 (by omega)
  have hcd := s_closeDay_ok (Γ := Γ) (n := n) (m := m) (dl := dl) (I := I1) (J := J) (rv := rv) hB (t := t) (c := c) (n1 := n1) (m1 := m1) (lam := lam1) (dl1 := dl1) (I1 := I1') (rv1 := rv1) (by omega) c1' (by rw [hdue]; exact hok) R.hn R.hm (by rw [hdue]; exact hMR) (by rw [s12, e12]) (by rw [s13, e13]) s11 R.L1 R.L2 R.L3 (by have := R.L4; omega) (by rw [hdue]; exact R.L5)
  rw [hdue, k11, e13, e12, ← hA.t1] at hcd
  generalize hX : em_cdd f (I 1 10) c (I1' rv1.1) (I 13) (I 12 1) (t + 1) = X at hcd
  have hcd : em_MC Γ 4 mX0_closeDay [.ref 12, .int (I 1 10), .ref 11] (em_hm n m dl I1 J rv) (some (.int (nI D1))) (em_hm n1 m1 dl1 (va_up (va_up (va_up I1' rv1.1 X.2.1) 13 X.2.2.1) 12 (va_up (va_up (I 12) 3 (nI X.1)) 1 X.2.2.2)) J rv1) := hcd
  generalize hI2 : va_up (va_up (va_up I1' rv1.1 X.2.1) 13 X.2.2.1) 12 (va_up (va_up (I 12) 3 (nI X.1)) 1 X.2.2.2) = I2 at hcd
  have cc := s_day_go hB hlt hr hcd
  rw [if_neg (show ¬ nI D1 = -1 from fun z => by
    have h0 := nI_pos (n := D1) (by omega)
    rw [z] at h0
    exact h0 (by decide))] at cc
  have cc : em_MC Γ 5 mX7_day [.ref 0] (em_hm n m dl I J rv) (some (.int (nI D1))) (em_hm n1 m1 dl1 (va_up I2 1 (va_up (I2 1) 10 (I2 1 10 + 1))) J rv1) := cc
  have hL1 := R.L1
  have hL2 := R.L2
  have k2 : ∀ k, ¬ k = 12 → ¬ k = 13 → ¬ k = rv1.1 → I2 k = I1' k := fun k a b c => by rw [← hI2, va_up_ne _ _ a, va_up_ne _ _ b, va_up_ne _ _ c]
  have k2L : I2 rv1.1 = X.2.1 := by rw [← hI2, va_up_ne _ _ (ed_rl hL1 (by decide) (by decide)), va_up_ne _ _ (ed_rl hL1 (by decide) (by decide)), va_up_self]
  have k213 : I2 13 = X.2.2.1 := by rw [← hI2, va_up_ne _ _ (by decide), va_up_self]
  have k212 : I2 12 = va_up (va_up (I 12) 3 (nI X.1)) 1 X.2.2.2 := by rw [← hI2, va_up_self]
  have e21 : I2 1 = I 1 := by rw [k2 1 (by decide) (by decide) (ed_l hL1 (by decide) (by decide)), R.same 1 (by omega), k1 1 (by decide) (by decide)]
  generalize hIc : va_up I2 1 (va_up (I2 1) 10 (I2 1 10 + 1)) = Ic at cc
  have kc : ∀ k, ¬ k = 1 → Ic k = I2 k := fun k a => by rw [← hIc, va_up_ne _ _ a]
  have kc1 : Ic 1 = va_up (I 1) 10 (nI (t + 1)) := by rw [← hIc, va_up_self, e21, hA.t1, nI_1]
  have kcI : ∀ k, k < n → ¬ k = 1 → ¬ k = 10 → ¬ k = 11 → ¬ k = 12 → ¬ k = 13 → ¬ k = rv1.1 → Ic k = I k := fun k a b c d e f g => by
    rw [kc k b, k2 k e f g, R.same k a, k1 k c d]
  have r2 := R.r2
  have q1 : rv1.2.1 = rv.2.1 := by rw [r2]
  have q2 : rv1.2.2.1 = rv.2.2.1 := by rw [r2]
  have q3 : rv1.2.2.2.1 = rv.2.2.2.1 := by rw [r2]
  have q4 : rv1.2.2.2.2 = rv.2.2.2.2 := by rw [r2]
  have g1 := hb.k1
  have g2 := hb.k2
  have g3 := hb.k3
  have t1 := hb.t1
  have t2 := hb.t2
  have t3 := hb.t3
  have d01 := hb.d01
  have d02 := hb.d02
  have d03 := hb.d03
  have nL1 : ¬ rv1.1 = rv.2.1 := ed_fr R.fresh d01 t1
  have nL2 : ¬ rv1.1 = rv.2.2.1 := ed_fr R.fresh d02 t2
  have nL3 : ¬ rv1.1 = rv.2.2.2.1 := ed_fr R.fresh d03 t3
  have rr1 : Ic rv.2.1 = I rv.2.1 := kcI _ t1 (ed_rk g1 (by decide) (by decide)) (ed_rk g1 (by decide) (by decide)) (ed_rk g1 (by decide) (by decide)) (ed_rk g1 (by decide) (by decide)) (ed_rk g1 (by decide) (by decide)) (fun z => nL1 z.symm)
  have rr2 : Ic rv.2.2.1 = I rv.2.2.1 := kcI _ t2 (ed_rk g2 (by decide) (by decide)) (ed_rk g2 (by decide) (by decide)) (ed_rk g2 (by decide) (by decide)) (ed_rk g2 (by decide) (by decide)) (ed_rk g2 (by decide) (by decide)) (fun z => nL2 z.symm)
  have rr3 : Ic rv.2.2.2.1 = I rv.2.2.2.1 := kcI _ t3 (ed_rk g3 (by decide) (by decide)) (ed_rk g3 (by decide) (by decide)) (ed_rk g3 (by decide) (by decide)) (ed_rk g3 (by decide) (by decide)) (ed_rk g3 (by decide) (by decide)) (fun z => nL3 z.symm)
  have c53 : Ic 53 = I 53 := kcI 53 (by omega) (by decide) (by decide) (by decide) (by decide) (by decide) (ed_l hL1 (by decide) (by decide))
  have c63 : Ic 63 = I 63 := kcI 63 (by omega) (by decide) (by decide) (by decide) (by decide) (by decide) (ed_l hL1 (by decide) (by decide))
  have c56 : Ic 56 = I 56 := kcI 56 (by omega) (by decide) (by decide) (by decide) (by decide) (by decide) (ed_l hL1 (by decide) (by decide))
  have fdc : em_fd Ic G N = em_fd I G N := fdeq Ic (fun k a b => kcI k (by omega) (by omega) (by omega) (by omega) (by omega) (by omega) (ed_l hL1 (by omega) (by omega)))
  have mb0 : em_MB n1 m1 dl1 Ic rv1 mu n1 m1 dl1 Ic rv1 mu (c, fun i => (Ic rv1.2.1 i, Ic rv1.2.2.1 i, Ic rv1.2.2.2.1 i), Ic 63) := em_MB_0 (by rw [c53]; exact hb.c2) hb.u3 hb.u2 (by rw [q1]; exact g1) (by rw [q2]; exact g2) (by rw [q3]; exact g3) (by rw [q1]; omega) (by rw [q2]; omega) (by rw [q3]; omega) (by rw [q1, R.dls _ t1]; exact hb.l1) (by rw [q2, R.dls _ t2]; exact hb.l2) (by rw [q3, R.dls _ t3]; exact hb.l3) (by rw [q1, q2]; exact hb.d12) (by rw [q1, q3]; exact hb.d13) (by rw [q2, q3]; exact hb.d23)
  obtain ⟨n2, m2, dl2, I3, rv2, mu2, M, rc⟩ := s_mDay_ok (Γ := Γ) (J := J) hB1 (N := N) (G := G) (t := t) (c := c) (lam := mu) (by rw [c53]; exact hA.m1) hN (by rw [c53]; exact hA.m2) hA.g2 (by rw [c56]; exact hA.kd56) (by rw [c53]; exact hA.m0) ht2 hb.u1 (by rw [c53]; exact hb.c2) (by rw [fdc, c63, hD1]; exact hok) mb0
  rw [fdc, c63, hD1] at rc
  rw [fdc, c63, q1, q2, q3, rr1, rr2, rr3] at M
  have hcdl := ei_cdl (f := f) (f' := em_fd I G N) (u0 := I 13) (r0 := I1' rv1.1) (F0 := fun i => (I rv.2.1 i, I rv.2.2.1 i, I rv.2.2.2.1 i)) (t := nI t) (a0 := I 12 1) (c := c) (fun i hi => by
    have hL5 := hb.L5
    obtain ⟨w0, w1, w2⟩ := hb.ln i hi
    have kL : I1 rv.1 = I rv.1 := k1 _ (ed_rl hb.L1 (by decide) (by decide)) (ed_rl hb.L1 (by decide) (by decide))
    rw [R.row _ (by omega), R.row _ (by omega), R.row _ (by omega), kL]
    exact ⟨w0, w1, w2⟩) hb.al (t + 1) (by omega) hfd
  rw [hb.u] at M
  rw [← hA.t1, hX] at hcdl
  rw [← hA.t1] at M
  have hYc := em_lin_c (em_fd I G N) (I 1 10) c (fun i => (I rv.2.1 i, I rv.2.2.1 i, I rv.2.2.2.1 i)) (I 13) (t + 1)
  rw [← hb.u, hD1, hb.u] at hYc
  generalize em_lin (em_fd I G N) (I 1 10) c (fun i => (I rv.2.1 i, I rv.2.2.1 i, I rv.2.2.2.1 i)) (I 13) (t + 1) = Y at M hcdl hYc
  obtain ⟨x1, x2, x3, x4⟩ := hcdl
  refine ep_mk (by decide) (by decide) cc rc ?_
  have Mn := M.hn
  have j53 : I3 53 = va_up (I 53) 3 (nI Y.1) := by rw [M.i53, c53]
  have keep : ∀ k, ed_b k = true → va_up I3 53 (va_up (I3 53) 0 (nI (t + 1))) k = I k := by
    intro k hk
    have z := ed_ne hk
    obtain ⟨z0, z1, z10, z11, z12, z13, z14, z53, z63, z64, z65, z66, -⟩ := z
    rw [va_up_ne _ _ z53, M.same k (by omega) z53 z63 (by rw [q1]; exact ed_k g1 z0 z64) (by rw [q2]; exact ed_k g2 z0 z65) (by rw [q3]; exact ed_k g3 z0 z66), kcI k (by omega) z1 z10 z11 z12 z13 (ed_l hL1 z0 z14)]
  have f53 : ∀ j, ¬ j = 0 → ¬ j = 3 → va_up I3 53 (va_up (I3 53) 0 (nI (t + 1))) 53 j = I 53 j := by
    intro j h0 h3
    rw [va_up_self, va_up_ne _ _ h0, j53, va_up_ne _ _ h3]
  have kf : ∀ k, k < n1 → ¬ k = 53 → ¬ k = 63 → ¬ k = rv.2.1 → ¬ k = rv.2.2.1 → ¬ k = rv.2.2.2.1 → va_up I3 53 (va_up (I3 53) 0 (nI (t + 1))) k = Ic k := by
    intro k a b c d e f
    rw [va_up_ne _ _ b, M.same k a b c (by rw [q1]; exact d) (by rw [q2]; exact e) (by rw [q3]; exact f)]
  have Ma1 : rv2.2.1 = rv.2.1 ∨ n1 ≤ rv2.2.1 := by have := M.a1; rw [q1] at this; exact this
  have Ma2 : rv2.2.2.1 = rv.2.2.1 ∨ n1 ≤ rv2.2.2.1 := by have := M.a2; rw [q2] at this; exact this
  have Ma3 : rv2.2.2.2.1 = rv.2.2.2.1 ∨ n1 ≤ rv2.2.2.2.1 := by have := M.a3; rw [q3] at this; exact this
  refine em_Iv.inv (N := N) (G := G) (t := t + 1) (c := Y.1) (lam := lam1) (mu := mu2) (T := T) (S := S) (h := h) (em_Iv.mk (hB := by omega) (A := ?_) (B := ?_) (C := H.C.cong keep) (D := H.D.cong keep (f53 4 (by decide) (by decide)) (f53 5 (by decide) (by decide))) (E := H.E.cong keep (f53 35 (by decide) (by decide))) (F := H.F.cong keep (f53 6 (by decide) (by decide)) (f53 7 (by decide) (by decide)) (by rw [M.r5, q4])))
  · refine hA.next ht2 keep ?_ ?_ (f53 1 (by decide) (by decide)) (f53 2 (by decide) (by decide))
    · rw [kf 1 (by omega) (by decide) (by decide) (ed_k g1 (by decide) (by decide)) (ed_k g2 (by decide) (by decide)) (ed_k g3 (by decide) (by decide)), kc1]
    · rw [va_up_self, va_up_self]
  · have i12 : va_up I3 53 (va_up (I3 53) 0 (nI (t + 1))) 12 = va_up (va_up (I 12) 3 (nI X.1)) 1 X.2.2.2 := by
      rw [kf 12 (by omega) (by decide) (by decide) (ed_k g1 (by decide) (by decide)) (ed_k g2 (by decide) (by decide)) (ed_k g3 (by decide) (by decide)), kc 12 (by decide), k212]
    have i13 : va_up I3 53 (va_up (I3 53) 0 (nI (t + 1))) 13 = X.2.2.1 := by
      rw [kf 13 (by omega) (by decide) (by decide) (ed_k g1 (by decide) (by decide)) (ed_k g2 (by decide) (by decide)) (ed_k g3 (by decide) (by decide)), kc 13 (by decide), k213]
    have i63 : va_up I3 53 (va_up (I3 53) 0 (nI (t + 1))) 63 = Y.2.2 := by rw [va_up_ne _ _ (by decide), M.i63]
    have iL : va_up I3 53 (va_up (I3 53) 0 (nI (t + 1))) rv1.1 = X.2.1 := by
      rw [kf rv1.1 hL2 (ed_rl hL1 (by decide) (by decide)) (ed_rl hL1 (by decide) (by decide)) nL1 nL2 nL3, kc _ (ed_rl hL1 (by decide) (by decide)), k2L]
    have j1 : ∀ k, em_rk k 64 ∨ em_rk k 65 ∨ em_rk k 66 → va_up I3 53 (va_up (I3 53) 0 (nI (t + 1))) k = I3 k := fun k hk => va_up_ne _ _ (ed_k53 hk)
    refine em_gB.mk (c1 := ?_) (c2 := ?_) (c3 := by omega) (u := ?_) (al := ?_) (L1 := by rw [M.r1]; exact hL1) (L2 := by rw [M.r1]; omega) (L3 := by rw [M.r1, M.dls _ hL2]; exact R.L3) (L4 := R.L4) (L5 := by have := R.L5; omega) (k1 := M.k1) (k2 := M.k2) (k3 := M.k3) (t1 := M.t1) (t2 := M.t2) (t3 := M.t3) (l1 := M.l1) (l2 := M.l2) (l3 := M.l3) (d12 := M.d12) (d13 := M.d13) (d23 := M.d23) (d01 := by rw [M.r1]; exact ed_fr2 Ma1 nL1 hL2) (d02 := by rw [M.r1]; exact ed_fr2 Ma2 nL2 hL2) (d03 := by rw [M.r1]; exact ed_fr2 Ma3 nL3 hL2) (u1 := Nat.le_trans hb.u1 M.hlm) (u2 := M.hlam) (u3 := M.hc) (ln := ?_) (nn := by have := M.hnc; have := hb.nn; have := R.nn; omega) (mm := ed_mm R.mm hb.mm M.hm hb.L4 R.L4)
    · rw [i12, va_up_ne _ _ (by decide), va_up_self, x1]
    · rw [va_up_self, va_up_ne _ _ (by decide), j53, va_up_self]
    · rw [i63, i13, x2]
    · rw [i12, va_up_self, i13, x2, x3]
    · intro i hi
      obtain ⟨y1, y2, y3⟩ := x4 i hi
      obtain ⟨z1, z2, z3⟩ := M.ln i hi
      rw [M.r1, iL, j1 _ (Or.inl M.k1), j1 _ (Or.inr (Or.inl M.k2)), j1 _ (Or.inr (Or.inr M.k3)), z1, z2, z3]
      exact ⟨y1, y2, y3⟩
end PairsG
