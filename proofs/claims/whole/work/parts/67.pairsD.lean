/-! PAIRS: FAULT, LAW, FEE, MAY -/
section PairsD
variable {Γ : em_Cx} {n m : Nat} {dl : Nat → Nat} {I : Nat → Nat → Int32} {J : Nat → Nat → Int64} {rv : em_Rv}
theorem ei_fil6 (f g : Nat → Int32) : ∀ s, s < 5 → em_fil f (-1) 6 (s + 1) = -1 ∧ em_fil g (-1) 5 s = -1 := fun s hs => ⟨by rw [em_fil, if_pos (by omega)], by rw [em_fil, if_pos hs]⟩
theorem p_fault (H : em_Inv n m dl I J rv) : em_pair Γ mX7_fault mX8_fault [] n m dl I J rv := by
  obtain ⟨N, G, t, c, lam, mu, T, S, h, H⟩ := H
  have hE := H.E
  obtain ⟨F', N', hM, -⟩ := s_readInto (Γ := Γ) (m := m) (dl := dl) (J := J) (rv := rv) H.hB hE.s1 hE.s3
  have r := s_mFault (Γ := Γ) (n := n) (m := m) (dl := dl) (I := va_up (va_up I 47 (va_up (I 47) 0 F')) 48 N') (J := J) (rv := rv) H.hB (S := S) hE.s2 hE.s3
  have e := (ei_flt (f := I 29) hE.s3 (ei_fil6 (I 48) (I 81))).1
  have e77 : va_up (va_up I 47 (va_up (I 47) 0 F')) 48 N' 77 = I 29 := hE.tp
  have e81 : va_up (va_up I 47 (va_up (I 47) 0 F')) 48 N' 81 = I 81 := rfl
  rw [e77, e81, ← e] at r
  refine ep_mk (by decide) (by decide) (s_fault H.hB (Nat.le_refl _) (Nat.le_refl _) hM) r ?_
  exact em_Iv.inv (em_Iv.mk (hB := H.hB) (A := H.A) (B := H.B.frame (by repeat (first | exact ek_r _ | refine ek_s ?_ rfl)) rfl) (C := H.C) (D := H.D) (E := hE) (F := H.F))
theorem ei_lc {t a b : Nat} : em_lc t a b ↔ t < 8 ∧ a = 31 + 2 * t ∧ b = 32 + 2 * t := by
  constructor
  · intro h
    rcases h with ⟨rfl, rfl, rfl⟩ | ⟨rfl, rfl, rfl⟩ | ⟨rfl, rfl, rfl⟩ | ⟨rfl, rfl, rfl⟩ | ⟨rfl, rfl, rfl⟩ | ⟨rfl, rfl, rfl⟩ | ⟨rfl, rfl, rfl⟩ | ⟨rfl, rfl, rfl⟩ <;> decide
  · rintro ⟨h, rfl, rfl⟩
    rcases (show t = 0 ∨ t = 1 ∨ t = 2 ∨ t = 3 ∨ t = 4 ∨ t = 5 ∨ t = 6 ∨ t = 7 by omega) with rfl | rfl | rfl | rfl | rfl | rfl | rfl | rfl <;> decide
theorem em_gE.lw {S : Nat} (h : em_gE I S) {t a b : Nat} (hab : em_lc t a b) : em_lrl (I a 0) (I b) (I 78 t) (fun s => I 79 (5 * t + s)) (I 80 t) := by
  rcases hab with ⟨rfl, rfl, rfl⟩ | ⟨rfl, rfl, rfl⟩ | ⟨rfl, rfl, rfl⟩ | ⟨rfl, rfl, rfl⟩ | ⟨rfl, rfl, rfl⟩ | ⟨rfl, rfl, rfl⟩ | ⟨rfl, rfl, rfl⟩ | ⟨rfl, rfl, rfl⟩
  · exact h.w0
  · exact h.w1
  · exact h.w2
  · exact h.w3
  · exact h.w4
  · exact h.w5
  · exact h.w6
  · exact h.w7
theorem em_gE.of {S : Nat} (s1 : I 28 1 = nI S) (s2 : I 53 35 = nI S) (s3 : S ≤ 200) (tp : I 77 = I 29) (h : ∀ t a b, em_lc t a b → em_lrl (I a 0) (I b) (I 78 t) (fun s => I 79 (5 * t + s)) (I 80 t)) : em_gE I S :=
  em_gE.mk (s1 := s1) (s2 := s2) (s3 := s3) (tp := tp) (w0 := h 0 31 32 (by decide)) (w1 := h 1 33 34 (by decide)) (w2 := h 2 35 36 (by decide)) (w3 := h 3 37 38 (by decide)) (w4 := h 4 39 40 (by decide)) (w5 := h 5 41 42 (by decide)) (w6 := h 6 43 44 (by decide)) (w7 := h 7 45 46 (by decide))
theorem ei_lawE {S : Nat} (hE : em_gE I S) {t a b : Nat} (hab : em_lc t a b) {F : Int32} {N N' : Nat → Int32} (hr : ei_rel F N N') : em_gE (va_up (em_lwM (em_lwC I a b F N) t F N' 5) 53 (va_up (va_up (em_lwC I a b F N 53) 39 F) 35 0)) 0 := by
  have hl := ei_lc.mp hab
  clear hab
  have lo : ∀ k, 31 ≤ k → k ≤ 46 → va_up (em_lwM (em_lwC I a b F N) t F N' 5) 53 (va_up (va_up (em_lwC I a b F N 53) 39 F) 35 0) k = va_up (va_up I a (va_up (I a) 0 F)) b (va_cpy N (I b) 0 0 6) k := by
    intro k h1 h2
    show va_up (va_up (va_up (va_up (va_up (va_up (va_up (va_up (va_up (va_up (va_up I 47 _) 48 _) a _) b _) 28 _) 53 _) 81 _) 80 _) 78 _) 79 _) 53 _ k = _
    rw [va_up_ne _ _ (by omega), va_up_ne _ _ (by omega), va_up_ne _ _ (by omega), va_up_ne _ _ (by omega), va_up_ne _ _ (by omega), va_up_ne _ _ (by omega), va_up_ne _ _ (by omega)]
    by_cases e : k = b
    · rw [e, va_up_self, va_up_self]
    · rw [va_up_ne _ _ e, va_up_ne _ _ e]
      by_cases e2 : k = a
      · rw [e2, va_up_self, va_up_self]
      · rw [va_up_ne _ _ e2, va_up_ne _ _ e2, va_up_ne _ _ (by omega), va_up_ne _ _ (by omega)]
  have C78 : em_lwC I a b F N 78 = I 78 := by
    show va_up (va_up (va_up (va_up (va_up I 47 _) 48 _) a _) b _) 28 _ 78 = _
    rw [va_up_ne _ _ (by decide), va_up_ne _ _ (by omega), va_up_ne _ _ (by omega), va_up_ne _ _ (by decide), va_up_ne _ _ (by decide)]
  have C79 : em_lwC I a b F N 79 = I 79 := by
    show va_up (va_up (va_up (va_up (va_up I 47 _) 48 _) a _) b _) 28 _ 79 = _
    rw [va_up_ne _ _ (by decide), va_up_ne _ _ (by omega), va_up_ne _ _ (by omega), va_up_ne _ _ (by decide), va_up_ne _ _ (by decide)]
  have C80 : em_lwC I a b F N 80 = I 80 := by
    show va_up (va_up (va_up (va_up (va_up I 47 _) 48 _) a _) b _) 28 _ 80 = _
    rw [va_up_ne _ _ (by decide), va_up_ne _ _ (by omega), va_up_ne _ _ (by omega), va_up_ne _ _ (by decide), va_up_ne _ _ (by decide)]
  have C77 : em_lwC I a b F N 77 = I 77 := by
    show va_up (va_up (va_up (va_up (va_up I 47 _) 48 _) a _) b _) 28 _ 77 = _
    rw [va_up_ne _ _ (by decide), va_up_ne _ _ (by omega), va_up_ne _ _ (by omega), va_up_ne _ _ (by decide), va_up_ne _ _ (by decide)]
  have C29 : em_lwC I a b F N 29 = I 29 := by
    show va_up (va_up (va_up (va_up (va_up I 47 _) 48 _) a _) b _) 28 _ 29 = _
    rw [va_up_ne _ _ (by decide), va_up_ne _ _ (by omega), va_up_ne _ _ (by omega), va_up_ne _ _ (by decide), va_up_ne _ _ (by decide)]
  refine em_gE.of rfl rfl (by omega) (by show em_lwC I a b F N 77 = em_lwC I a b F N 29; rw [C77, C29]; exact hE.tp) (fun t' a' b' hab' => ?_)
  have hl' := ei_lc.mp hab'
  have old := hE.lw hab'
  clear hab'
  rw [lo a' (by omega) (by omega), lo b' (by omega) (by omega)]
  show em_lrl _ _ (va_up (em_lwC I a b F N 78) t F t') (fun s => va_cpy N' (em_lwC I a b F N 79) 0 (5 * t) 5 (5 * t' + s)) (va_up (em_lwC I a b F N 80) t 1 t')
  rw [C78, C79, C80]
  by_cases e : t' = t
  · subst e
    obtain rfl : a' = a := by omega
    obtain rfl : b' = b := by omega
    rw [va_up_self, va_up_self, va_up_self, va_up_ne _ _ (show ¬ a' = b' by omega), va_up_self, va_up_self]
    refine ⟨hr.1, Or.inr ⟨rfl, rfl, fun s hs => ?_⟩⟩
    show va_cpy N (I b') 0 0 6 (s + 1) = va_cpy N' (I 79) 0 (5 * t') 5 (5 * t' + s) ∧ (va_cpy N (I b') 0 0 6 (s + 1) = -1 ∨ 0 ≤ va_cpy N (I b') 0 0 6 (s + 1))
    have e1 : va_cpy N (I b') 0 0 6 (s + 1) = N (s + 1) := by
      rw [va_cpy, if_pos (by omega)]
      congr 1
      omega
    have e2 : va_cpy N' (I 79) 0 (5 * t') 5 (5 * t' + s) = N' s := by
      rw [va_cpy, if_pos (by omega)]
      congr 1
      omega
    rw [e1, e2]
    exact hr.2 s hs
  · rw [va_up_ne _ _ (show ¬ a' = b by omega), va_up_ne _ _ (show ¬ a' = a by omega), va_up_ne _ _ (show ¬ b' = b by omega), va_up_ne _ _ (show ¬ b' = a by omega), va_up_ne _ _ e, va_up_ne _ _ e]
    refine ⟨old.1, old.2.elim Or.inl (fun z => Or.inr ⟨z.1, z.2.1, fun s hs => ?_⟩)⟩
    have e2 : va_cpy N' (I 79) 0 (5 * t) 5 (5 * t' + s) = I 79 (5 * t' + s) := by
      rw [va_cpy, if_neg (by omega)]
    show _ = va_cpy N' (I 79) 0 (5 * t) 5 (5 * t' + s) ∧ _
    rw [e2]
    exact z.2.2 s hs
theorem p_law (H : em_Inv n m dl I J rv) {x : Int32} : em_pair Γ mX7_law mX8_law [.int x] n m dl I J rv := by
  have H0 := H
  obtain ⟨N, G, t, c, lam, mu, T, S, h, H⟩ := H
  have hE := H.E
  have hD := H.D
  have hT := hD.T8
  have e4 : I 53 4 = I 21 0 := by rw [hD.T1, hD.T2]
  by_cases hx : 0 ≤ x ∧ x ≤ I 21 0 - 1
  case neg => exact ep_mk (by decide) (by decide) (s_law_nt H.hB hx) (s_mLaw_nt H.hB (by rw [e4]; exact hx)) H0
  obtain ⟨q, hq, rfl⟩ := em_inB2 hD.T1 (show T ≤ 40 by omega) hx
  obtain ⟨F', N', hM, hok⟩ := s_readInto (Γ := Γ) (m := m) (dl := dl) (J := J) (rv := rv) H.hB hE.s1 hE.s3
  obtain ⟨e, eok⟩ := ei_flt (f := I 29) hE.s3 (ei_fil6 (I 48) (I 81))
  by_cases hr : (em_flt (I 29) S (em_fil (I 48) (-1) 6)).1 = -1
  case neg =>
    have r := s_mFault (Γ := Γ) (n := n) (m := m) (dl := dl) (I := va_up (va_up I 47 (va_up (I 47) 0 F')) 48 N') (J := J) (rv := rv) H.hB (S := S) hE.s2 hE.s3
    refine ep_mk (by decide) (by decide) (s_law_no H.hB hx hr hM) (s_mLaw_no H.hB (by show 0 ≤ nI q ∧ nI q ≤ I 53 4 - 1; rw [e4]; exact hx) ?_ r) ?_
    · have e77 : va_up (va_up I 47 (va_up (I 47) 0 F')) 48 N' 77 = I 29 := hE.tp
      have e81 : va_up (va_up I 47 (va_up (I 47) 0 F')) 48 N' 81 = I 81 := rfl
      rw [e77, e81, ← e]
      exact hr
    · exact em_Iv.inv (em_Iv.mk (hB := H.hB) (A := H.A) (B := H.B.frame (by repeat (first | exact ek_r _ | refine ek_s ?_ rfl)) rfl) (C := H.C) (D := H.D) (E := hE) (F := H.F))
  rw [hr] at hM
  obtain ⟨o1, o2⟩ := hok hr
  obtain ⟨u1, u2⟩ := eok hr
  rw [← o1] at u1
  rw [← o1, ← o2] at u2
  have fin : ∀ a b, em_lc q a b → em_MC Γ 8 mX7_law [.ref 0, .int (nI q)] (em_hm n m dl I J rv) (some (.int 1)) (em_hm n m dl (em_lwC I a b F' N') J rv) := fun a b hab => s_law_ok H.hB hab hx hE.s1 hE.s3 hM
  have ref : ∀ a b, em_lc q a b → em_lwC I a b F' N' 53 = I 53 → em_lwC I a b F' N' 77 = I 77 → em_lwC I a b F' N' 81 = I 81 → ∃ N2, ei_rel F' N' N2 ∧ em_MC Γ 7 mX8_law [.ref 53, .int (nI q)] (em_hm n m dl (em_lwC I a b F' N') J rv) (some (.int 1)) (em_hm n m dl (va_up (em_lwM (em_lwC I a b F' N') q F' N2 5) 53 (va_up (va_up (em_lwC I a b F' N' 53) 39 F') 35 0)) J rv) := by
    intro a b hab c53 c77 c81
    have r := s_mFault (Γ := Γ) (n := n) (m := m) (dl := dl) (I := em_lwC I a b F' N') (J := J) (rv := rv) H.hB (S := S) (by rw [c53]; exact hE.s2) hE.s3
    rw [c77, c81, hE.tp, ← e, hr, ← u1] at r
    exact ⟨_, u2, s_mLaw_ok H.hB (by omega) (by rw [c53, e4]; exact hx) r⟩
  rcases (show q = 0 ∨ q = 1 ∨ q = 2 ∨ q = 3 ∨ q = 4 ∨ q = 5 ∨ q = 6 ∨ q = 7 by omega) with rfl | rfl | rfl | rfl | rfl | rfl | rfl | rfl
  · have hab : em_lc 0 31 32 := by decide
    obtain ⟨N2, hrel, r⟩ := ref _ _ hab rfl rfl rfl
    refine ep_mk (by decide) (by decide) (fin _ _ hab) r ?_
    exact em_Iv.inv (em_Iv.mk (hB := H.hB) (A := H.A) (B := H.B.frame (by repeat (first | exact ek_r _ | refine ek_s ?_ rfl)) rfl) (C := H.C) (D := H.D) (E := ei_lawE hE hab hrel) (F := H.F))
  · have hab : em_lc 1 33 34 := by decide
    obtain ⟨N2, hrel, r⟩ := ref _ _ hab rfl rfl rfl
    refine ep_mk (by decide) (by decide) (fin _ _ hab) r ?_
    exact em_Iv.inv (em_Iv.mk (hB := H.hB) (A := H.A) (B := H.B.frame (by repeat (first | exact ek_r _ | refine ek_s ?_ rfl)) rfl) (C := H.C) (D := H.D) (E := ei_lawE hE hab hrel) (F := H.F))
  · have hab : em_lc 2 35 36 := by decide
    obtain ⟨N2, hrel, r⟩ := ref _ _ hab rfl rfl rfl
    refine ep_mk (by decide) (by decide) (fin _ _ hab) r ?_
    exact em_Iv.inv (em_Iv.mk (hB := H.hB) (A := H.A) (B := H.B.frame (by repeat (first | exact ek_r _ | refine ek_s ?_ rfl)) rfl) (C := H.C) (D := H.D) (E := ei_lawE hE hab hrel) (F := H.F))
  · have hab : em_lc 3 37 38 := by decide
    obtain ⟨N2, hrel, r⟩ := ref _ _ hab rfl rfl rfl
    refine ep_mk (by decide) (by decide) (fin _ _ hab) r ?_
    exact em_Iv.inv (em_Iv.mk (hB := H.hB) (A := H.A) (B := H.B.frame (by repeat (first | exact ek_r _ | refine ek_s ?_ rfl)) rfl) (C := H.C) (D := H.D) (E := ei_lawE hE hab hrel) (F := H.F))
  · have hab : em_lc 4 39 40 := by decide
    obtain ⟨N2, hrel, r⟩ := ref _ _ hab rfl rfl rfl
    refine ep_mk (by decide) (by decide) (fin _ _ hab) r ?_
    exact em_Iv.inv (em_Iv.mk (hB := H.hB) (A := H.A) (B := H.B.frame (by repeat (first | exact ek_r _ | refine ek_s ?_ rfl)) rfl) (C := H.C) (D := H.D) (E := ei_lawE hE hab hrel) (F := H.F))
  · have hab : em_lc 5 41 42 := by decide
    obtain ⟨N2, hrel, r⟩ := ref _ _ hab rfl rfl rfl
    refine ep_mk (by decide) (by decide) (fin _ _ hab) r ?_
    exact em_Iv.inv (em_Iv.mk (hB := H.hB) (A := H.A) (B := H.B.frame (by repeat (first | exact ek_r _ | refine ek_s ?_ rfl)) rfl) (C := H.C) (D := H.D) (E := ei_lawE hE hab hrel) (F := H.F))
  · have hab : em_lc 6 43 44 := by decide
    obtain ⟨N2, hrel, r⟩ := ref _ _ hab rfl rfl rfl
    refine ep_mk (by decide) (by decide) (fin _ _ hab) r ?_
    exact em_Iv.inv (em_Iv.mk (hB := H.hB) (A := H.A) (B := H.B.frame (by repeat (first | exact ek_r _ | refine ek_s ?_ rfl)) rfl) (C := H.C) (D := H.D) (E := ei_lawE hE hab hrel) (F := H.F))
  · have hab : em_lc 7 45 46 := by decide
    obtain ⟨N2, hrel, r⟩ := ref _ _ hab rfl rfl rfl
    refine ep_mk (by decide) (by decide) (fin _ _ hab) r ?_
    exact em_Iv.inv (em_Iv.mk (hB := H.hB) (A := H.A) (B := H.B.frame (by repeat (first | exact ek_r _ | refine ek_s ?_ rfl)) rfl) (C := H.C) (D := H.D) (E := ei_lawE hE hab hrel) (F := H.F))
end PairsD
