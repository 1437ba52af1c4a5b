/-! PAIRS: HERD AND WAGONS -/
theorem ei_msd {I I' : Nat → Nat → Int32} (h57 : I' 57 = I 57) (h58 : I' 58 = I 58) (h60 : I' 60 = I 60) (h61 : I' 61 = I 61) (h62 : I' 62 = I 62) (G j : Nat) (d q : Int32) : em_msd I' G j d q ↔ em_msd I G j d q := by
  show (I' 58 j ≤ q ∧ I' 57 j ≤ d) ∧ (em_till I' (nI j) q G = -1 ∨ d < em_till I' (nI j) q G) ↔ _
  rw [h57, h58, em_till_eq h60 h61 h62]
theorem ei_if {P Q : Prop} [Decidable P] [Decidable Q] {α : Type} (h : P ↔ Q) (a b : α) : (if P then a else b) = if Q then a else b := by
  by_cases hp : P
  · rw [if_pos hp, if_pos (h.mp hp)]
  · rw [if_neg hp, if_neg (fun z => hp (h.mpr z))]
theorem ei_ex_eq {P Q : Nat → Bool} : ∀ N, (∀ j, j < N → P j = Q j) → em_ex P N = em_ex Q N := by
  intro N h
  cases e : em_ex Q N with
  | false => exact em_ex_no.mpr (fun j hj => by rw [h j hj]; exact em_ex_no.mp e j hj)
  | true =>
    cases e2 : em_ex P N with
    | true => rfl
    | false =>
      have : em_ex Q N = false := em_ex_no.mpr (fun j hj => by rw [← h j hj]; exact em_ex_no.mp e2 j hj)
      rw [this] at e
      cases e
theorem ei_b01 {P : Prop} [Decidable P] : narrow .boolean (.int (if P then 1 else 0)) = .int (if P then 1 else 0) := by
  by_cases h : P
  · rw [if_pos h]; rfl
  · rw [if_neg h]; rfl
section PairsA
variable {Γ : em_Cx} {n m : Nat} {dl : Nat → Nat} {I : Nat → Nat → Int32} {J : Nat → Nat → Int64} {rv : em_Rv}
theorem em_gA.gb40 {N G t : Nat} (h : em_gA I N G t) : ∀ i, i < G → ∃ b, b < 40 ∧ I 7 i = nI b := fun i hi => by
  obtain ⟨b, hb, e⟩ := h.gb i hi
  exact ⟨b, Nat.lt_of_lt_of_le hb h.n2, e⟩
theorem em_gA.kd56 {N G t : Nat} (h : em_gA I N G t) : ∀ b, b < N → ∃ k, k < 8 ∧ I 56 b = nI k := by
  rw [h.e56]
  exact h.kd
theorem p_here (H : em_Inv n m dl I J rv) {x y z : Int32} : em_pair Γ mX7_here mX8_here [.int x, .int y, .int z] n m dl I J rv := by
  have H0 := H
  obtain ⟨N, G, t, c, lam, mu, T, S, h, H⟩ := H
  have hA := H.A
  have e1 : I 53 1 = I 1 2 := by rw [hA.m1, hA.n1]
  have e0 : I 53 0 = I 1 10 := by rw [hA.m0, hA.t1]
  by_cases hc : (0 ≤ x ∧ x ≤ I 1 2 - 1) ∧ (0 ≤ y ∧ y ≤ I 1 10) ∧ (0 ≤ z ∧ z ≤ I 1 10)
  · obtain ⟨j, hj, rfl⟩ := em_inB2 hA.n1 hA.n2 hc.1
    have r := s_mHere_ok (Γ := Γ) (n := n) (m := m) (dl := dl) (I := va_up I 10 (em_gf I G z)) (J := J) (rv := rv) H.hB (b := nI j) (d := y) (q := z) (N := N) (G := G) (j := j) hA.m1 hA.n2 hA.m2 hA.g2 rfl hj (by show 0 ≤ y ∧ y ≤ I 53 0; rw [e0]; exact hc.2.1) (by show 0 ≤ z ∧ z ≤ I 53 0; rw [e0]; exact hc.2.2)
    rw [ei_if (ei_msd (I' := va_up I 10 (em_gf I G z)) (I := I) rfl rfl rfl rfl rfl G j y z), ← ei_if (ei_std hA hj y z)] at r
    refine ep_mk (by decide) (by decide) (d_here H.hB (s_isHere_ok H.hB hA.n1 hA.n2 hA.g1 hA.g2 hA.gb40 rfl hj hc.2.1 hc.2.2) ei_b01) r ?_
    exact em_Iv.inv (em_Iv.mk (hB := H.hB) (A := hA) (B := H.B.frame (by repeat (first | exact ek_r _ | refine ek_s ?_ rfl)) rfl) (C := H.C) (D := H.D) (E := H.E) (F := H.F))
  · refine ep_mk (by decide) (by decide) (d_here H.hB (s_isHere_no H.hB hc) rfl) (s_mHere_no H.hB ?_) H0
    rw [e1, e0]
    exact hc
theorem p_ration (H : em_Inv n m dl I J rv) {y z : Int32} : em_pair Γ mX7_ration mX8_ration [.int y, .int z] n m dl I J rv := by
  have H0 := H
  obtain ⟨N, G, t, c, lam, mu, T, S, h, H⟩ := H
  have hA := H.A
  have e0 : I 53 0 = I 1 10 := by rw [hA.m0, hA.t1]
  by_cases hc : (0 ≤ y ∧ y ≤ I 1 10) ∧ (0 ≤ z ∧ z ≤ I 1 10)
  · have r := s_mRation_ok (Γ := Γ) (n := n) (m := m) (dl := dl) (I := va_up I 10 (em_gf I G z)) (J := J) (rv := rv) H.hB (d := y) (q := z) (N := N) (G := G) hA.m1 hA.n2 hA.m2 hA.g2 hA.kd56 (by show 0 ≤ y ∧ y ≤ I 53 0; rw [e0]; exact hc.1) (by show 0 ≤ z ∧ z ≤ I 53 0; rw [e0]; exact hc.2)
    rw [em_meat_eq (I' := va_up I 10 (em_gf I G z)) (I := I) rfl rfl rfl rfl rfl rfl rfl, ← ei_eat hA] at r
    refine ep_mk (by decide) (by decide) (d_ration H.hB (s_rationOf_ok H.hB hA.n1 hA.n2 hA.g1 hA.g2 hA.gb40 hA.kd hc.1 hc.2)) r ?_
    exact em_Iv.inv (em_Iv.mk (hB := H.hB) (A := hA) (B := H.B.frame (by repeat (first | exact ek_r _ | refine ek_s ?_ rfl)) rfl) (C := H.C) (D := H.D) (E := H.E) (F := H.F))
  · refine ep_mk (by decide) (by decide) (d_ration H.hB (s_rationOf_no H.hB hc)) (s_mRation_no H.hB ?_) H0
    rw [e0]
    exact hc
theorem p_gone (H : em_Inv n m dl I J rv) {x y : Int32} : em_pair Γ mX7_gone mX8_gone [.int x, .int y] n m dl I J rv := by
  have H0 := H
  obtain ⟨N, G, t, c, lam, mu, T, S, h, H⟩ := H
  have hA := H.A
  have hN := hA.n2
  have hG := hA.g2
  have ht := hA.t2
  have e1 : I 53 1 = I 1 2 := by rw [hA.m1, hA.n1]
  have e0 : I 53 0 = I 1 10 := by rw [hA.m0, hA.t1]
  by_cases hc : (0 ≤ x ∧ x ≤ I 1 2 - 1) ∧ I 1 6 < 200 ∧ (y = -1 ∨ (I 5 x.toNatClampNeg ≤ y ∧ y ≤ I 1 10))
  · obtain ⟨h1, h2, h3⟩ := hc
    have hG2 : G < 200 := by
      rw [hA.g1] at h2
      exact (nI_ltI (b := 200) (by omega) (by omega)).mp h2
    obtain ⟨j, hj, rfl⟩ := em_inB2 hA.n1 hN h1
    rw [nI_clamp (by omega)] at h3
    refine ep_mk (by decide) (by decide) (d_gone H.hB (s_tellGone_ok H.hB hA.n1 hN hA.g1 hG2 rfl hj h3) rfl) (s_mGone_ok H.hB (N := N) (G := G) hA.m1 hN hA.m2 hG2 rfl hj (show y = -1 ∨ (I 57 j ≤ y ∧ y ≤ I 53 0) by rw [hA.e57, e0]; exact h3)) ?_
    refine em_Iv.inv (N := N) (G := G + 1) (t := t) (c := c) (lam := lam) (mu := mu) (T := T) (S := S) (h := h) (em_Iv.mk (hB := H.hB) (A := ?_) (B := H.B.frame (by repeat (first | exact ek_r _ | refine ek_s ?_ rfl)) rfl) (C := H.C) (D := H.D) (E := H.E) (F := H.F))
    refine em_gA.mk (n1 := hA.n1) (n2 := hN) (g1 := ?_) (g2 := by omega) (t1 := hA.t1) (t2 := hA.t2) (m1 := hA.m1) (m2 := ?_) (m0 := hA.m0) (e54 := hA.e54) (e55 := hA.e55) (e56 := hA.e56) (e57 := hA.e57) (e58 := hA.e58) (e60 := ?_) (e61 := ?_) (e62 := ?_) (kd := hA.kd) (fd := hA.fd) (wt := hA.wt) (fr := hA.fr) (tl := hA.tl) (gb := ?_) (gf := ?_) (go := ?_) (gs := ?_)
    · show I 1 6 + 1 = nI (G + 1)
      rw [hA.g1, nI_1]
    · show I 53 2 + 1 = nI (G + 1)
      rw [hA.m2, nI_1]
    · show va_up (I 60) G _ = va_up (I 7) G _
      rw [hA.e60]
    · show va_up (I 61) G _ = va_up (I 8) G _
      rw [hA.e61]
    · show va_up (I 62) G (I 53 0) = va_up (I 9) G (I 1 10)
      rw [hA.e62, e0]
    · intro i hi
      show ∃ b, b < N ∧ va_up (I 7) G (nI j) i = nI b
      by_cases e : i = G
      · subst e; exact ⟨j, hj, va_up_self _ _ _⟩
      · rw [va_up_ne _ _ e]; exact hA.gb i (by omega)
    · intro i hi
      show va_up (I 8) G y i = -1 ∨ ∃ k b, k ≤ t ∧ b < N ∧ va_up (I 8) G y i = nI k ∧ va_up (I 7) G (nI j) i = nI b ∧ I 5 b ≤ nI k
      by_cases e : i = G
      · subst e
        rw [va_up_self, va_up_self]
        rcases h3 with h3 | ⟨h3, h4⟩
        · exact Or.inl h3
        · right
          obtain ⟨k5, a5, e5⟩ := hA.fr j hj
          rw [hA.t1] at h4
          have h0 : ¬ y < 0 := fun z => by
            have : I 5 j < 0 := Int32.lt_of_le_of_lt h3 z
            rw [e5] at this
            exact nI_pos (by omega) this
          obtain ⟨k, hk, rfl⟩ := nI_of2 (M := nI t) (n := t) (nI_toInt (by omega)) h0 h4
          exact ⟨k, j, hk, hj, rfl, rfl, h3⟩
      · rw [va_up_ne _ _ e, va_up_ne _ _ e]; exact hA.gf i (by omega)
    · intro i hi
      show ∃ k, k ≤ t ∧ va_up (I 9) G (I 1 10) i = nI k
      by_cases e : i = G
      · subst e; exact ⟨t, Nat.le_refl _, by rw [va_up_self, hA.t1]⟩
      · rw [va_up_ne _ _ e]; exact hA.go i (by omega)
    · intro i k hik hk
      show va_up (I 9) G (I 1 10) i ≤ va_up (I 9) G (I 1 10) k
      by_cases e : k = G
      · subst e
        rw [va_up_self]
        by_cases e2 : i = k
        · subst e2; rw [va_up_self]; exact Int32.le_refl _
        · rw [va_up_ne _ _ e2, hA.t1]
          obtain ⟨q, hq, eq⟩ := hA.go i (by omega)
          rw [eq]
          exact nI_le hq (by omega)
      · rw [va_up_ne _ _ e, va_up_ne _ _ (by omega)]
        exact hA.gs i k hik (by omega)
  · refine ep_mk (by decide) (by decide) (d_gone H.hB (s_tellGone_no H.hB hA.n1 hN hA.g1 hG hc) rfl) (s_mGone_no H.hB hA.m1 hN (fun z => hc ⟨?_, ?_, ?_⟩)) H0
    · rw [← e1]; exact z.1
    · rw [hA.g1]
      refine nI_lt (b := 200) ?_ (by omega)
      have : ¬ G = 200 := fun e => z.2.2 (by rw [hA.m2, e]; rfl)
      omega
    · have := z.2.1
      rw [hA.e57, e0] at this
      exact this
theorem ei_ww {N G t : Nat} (hA : em_gA I N G t) (hC : em_gC I N) (w : Int32) : em_ww I w (-1) 0 N = em_mw I w N := by
  refine ei_sum_eq N (fun b hb => ?_)
  obtain ⟨k, hk, e⟩ := hA.kd b hb
  rw [hC.wg b hb, hA.e55, hA.e56, e, if_neg (show ¬ nI k = -1 from fun z => by
    have h := nI_pos (n := k) (by omega)
    rw [z] at h
    exact h (by decide))]
theorem ei_wm {N : Nat} (hC : em_gC I N) (w : Int32) : em_wm I w N = em_mm I w N := by
  refine ei_sum_eq N (fun b hb => ?_)
  rw [hC.wg b hb]
theorem ei_bear {N G t : Nat} (hA : em_gA I N G t) (hC : em_gC I N) {j : Nat} (hj : j < 8) (w : Int32) : em_ex (em_wb I (nI j) w N) 8 = em_ex (em_bad (em_w55 I j w) N) 8 := by
  refine ei_ex_eq 8 (fun v hv => ?_)
  show decide (2000 < em_ww I (nI v) (nI j) w N) = decide (2000 < em_mw (em_w55 I j w) (nI v) N)
  have e : em_ww I (nI v) (nI j) w N = em_mw (em_w55 I j w) (nI v) N := by
    refine ei_sum_eq N (fun b hb => ?_)
    obtain ⟨k, hk, e⟩ := hA.kd b hb
    show (if I 16 b = nI v then (if I 4 b = nI j then w else I 3 (I 4 b).toNatClampNeg) else 0) = if I 59 b = nI v then va_up (I 55) j w (I 56 b).toNatClampNeg else 0
    rw [hC.wg b hb, hA.e55, hA.e56, e, nI_clamp (by omega)]
    by_cases hkj : k = j
    · subst hkj
      rw [if_pos rfl, va_up_self]
    · rw [if_neg (show ¬ nI k = nI j from fun z => hkj ((nI_eq (by omega) (by omega)).mp z)), va_up_ne _ _ hkj]
  rw [e]
theorem p_kind (H : em_Inv n m dl I J rv) {x y z : Int32} : em_pair Γ mX7_kind mX8_kind [.int x, .int y, .int z] n m dl I J rv := by
  have H0 := H
  obtain ⟨N, G, t, c, lam, mu, T, S, h, H⟩ := H
  have hA := H.A
  have hC := H.C
  by_cases hc : (0 ≤ x ∧ x ≤ 7) ∧ (0 ≤ y ∧ y ≤ 100) ∧ (1 ≤ z ∧ z ≤ 1000)
  · obtain ⟨h1, h2, h3⟩ := hc
    obtain ⟨j, hj, rfl⟩ := nI_of2 (M := 7) (n := 7) rfl (Int32.not_lt.mpr h1.1) h1.2
    have hb := ei_bear hA hC (show j < 8 by omega) z
    by_cases h4 : em_ex (em_wb I (nI j) z N) 8 = false
    · refine ep_mk (by decide) (by decide) (s_kind_ok H.hB hA.n1 hA.n2 hA.kd (by omega) h2 h3 h4) (s_mKind_ok (I := va_up (va_up I 2 (va_up (I 2) j y)) 3 (va_up (I 3) j z)) H.hB (j := j) (N := N) rfl (by omega) h1 h2 h3 hA.m1 hA.n2 hA.kd56 ?_) ?_
      · rw [← h4, hb]
        exact ei_ex_eq 8 (fun _ _ => rfl)
      · refine em_Iv.inv (N := N) (G := G) (t := t) (c := c) (lam := lam) (mu := mu) (T := T) (S := S) (h := h) (em_Iv.mk (hB := H.hB) (A := ?_) (B := H.B.frame (by repeat (first | exact ek_r _ | refine ek_s ?_ rfl)) rfl) (C := H.C) (D := H.D) (E := H.E) (F := H.F))
        refine em_gA.mk (n1 := hA.n1) (n2 := hA.n2) (g1 := hA.g1) (g2 := hA.g2) (t1 := hA.t1) (t2 := hA.t2) (m1 := hA.m1) (m2 := hA.m2) (m0 := hA.m0) (e54 := ?_) (e55 := ?_) (e56 := hA.e56) (e57 := hA.e57) (e58 := hA.e58) (e60 := hA.e60) (e61 := hA.e61) (e62 := hA.e62) (kd := hA.kd) (fd := ?_) (wt := ?_) (fr := hA.fr) (tl := hA.tl) (gb := hA.gb) (gf := hA.gf) (go := hA.go) (gs := hA.gs)
        · show va_up (I 54) j y = va_up (I 2) j y
          rw [hA.e54]
        · show va_up (I 55) j z = va_up (I 3) j z
          rw [hA.e55]
        · intro i hi
          show ∃ f, f ≤ 100 ∧ va_up (I 2) j y i = nI f
          by_cases e : i = j
          · subst e
            rw [va_up_self]
            obtain ⟨f, hf, e⟩ := nI_of2 (M := 100) (n := 100) rfl (Int32.not_lt.mpr h2.1) h2.2
            exact ⟨f, hf, e⟩
          · rw [va_up_ne _ _ e]; exact hA.fd i hi
        · intro i hi
          show ∃ f, f ≤ 1000 ∧ va_up (I 3) j z i = nI f
          by_cases e : i = j
          · subst e
            rw [va_up_self]
            obtain ⟨f, hf, e⟩ := nI_of2 (M := 1000) (n := 1000) rfl (fun q => absurd (Int32.lt_of_lt_of_le q (show (0 : Int32) ≤ 1 by decide)) (Int32.not_lt.mpr h3.1)) h3.2
            exact ⟨f, hf, e⟩
          · rw [va_up_ne _ _ e]; exact hA.wt i hi
    · refine ep_mk (by decide) (by decide) (s_kind_no H.hB hA.n1 hA.n2 hA.kd (fun q => h4 q.2.2.2)) (s_mKind_bad H.hB (j := j) (N := N) rfl (by omega) h1 h2 h3 hA.m1 hA.n2 hA.kd56 (by rw [← hb]; exact h4)) H0
  · exact ep_mk (by decide) (by decide) (s_kind_no H.hB hA.n1 hA.n2 hA.kd (fun q => hc ⟨q.1, q.2.1, q.2.2.1⟩)) (s_mKind_no H.hB hc) H0
theorem p_load (H : em_Inv n m dl I J rv) {x y : Int32} : em_pair Γ mX7_load mX8_load [.int x, .int y] n m dl I J rv := by
  have H0 := H
  obtain ⟨N, G, t, c, lam, mu, T, S, h, H⟩ := H
  have hA := H.A
  have hC := H.C
  have hN := hA.n2
  have e1 : I 53 1 = I 1 2 := by rw [hA.m1, hA.n1]
  by_cases h1 : 0 ≤ x ∧ x ≤ I 1 2 - 1
  · obtain ⟨j, hj, rfl⟩ := em_inB2 hA.n1 hN h1
    have ew := ei_ww hA hC y
    have ewt : I 55 (I 56 j).toNatClampNeg = I 3 (I 4 j).toNatClampNeg := by rw [hA.e55, hA.e56]
    by_cases hc : (-1 ≤ y ∧ y ≤ 7) ∧ ¬ I 16 j = y ∧ (y = -1 ∨ em_ww I y (-1) 0 N + I 3 (I 4 j).toNatClampNeg ≤ 2000)
    · refine ep_mk (by decide) (by decide) (d_load H.hB (s_put_ok H.hB hA.n1 hN hA.kd rfl hj hc.1 hc.2.1 hc.2.2) rfl) (s_mLoad_ok (I := va_up I 16 (va_up (I 16) j y)) H.hB (N := N) hA.m1 hN hA.kd56 rfl hj hc.1 (by show ¬ I 59 j = y; rw [hC.wg j hj]; exact hc.2.1) (by show y = -1 ∨ em_mw I y N + I 55 (I 56 j).toNatClampNeg ≤ 2000; rw [← ew, ewt]; exact hc.2.2)) ?_
      refine em_Iv.inv (N := N) (G := G) (t := t) (c := c) (lam := lam) (mu := mu) (T := T) (S := S) (h := h) (em_Iv.mk (hB := H.hB) (A := hA) (B := H.B.frame (by repeat (first | exact ek_r _ | refine ek_s ?_ rfl)) rfl) (C := ?_) (D := H.D) (E := H.E) (F := H.F))
      refine em_gC.mk (wg := ?_) (wn := ?_) (wr := ?_) (br := hC.br) (bb := hC.bb) (bv := hC.bv) (bs := hC.bs)
      · intro b hb
        show va_up (I 59) j y b = va_up (I 16) j y b
        by_cases e : b = j
        · subst e; rw [va_up_self, va_up_self]
        · rw [va_up_ne _ _ e, va_up_ne _ _ e]; exact hC.wg b hb
      · intro b hb hb2
        show va_up (I 16) j y b = -1
        rw [va_up_ne _ _ (by omega)]
        exact hC.wn b hb hb2
      · intro b hb
        show va_up (I 16) j y b = -1 ∨ ∃ w, w < 8 ∧ va_up (I 16) j y b = nI w
        by_cases e : b = j
        · subst e
          rw [va_up_self]
          by_cases hy : y < 0
          · left
            have h2 : y ≤ -1 := by
              rw [Int32.le_iff_toInt_le]
              have := Int32.lt_iff_toInt_lt.mp hy
              have e0 : (0 : Int32).toInt = 0 := rfl
              have e1 : (-1 : Int32).toInt = -1 := rfl
              omega
            exact Int32.le_antisymm h2 hc.1.1
          · right
            obtain ⟨w, hw, e⟩ := nI_of2 (M := 7) (n := 7) rfl hy hc.1.2
            exact ⟨w, by omega, e⟩
        · rw [va_up_ne _ _ e]; exact hC.wr b hb
    · refine ep_mk (by decide) (by decide) (d_load H.hB (s_put_no H.hB hA.n1 hN hA.kd (fun q => hc ⟨q.2.1, ?_, ?_⟩)) rfl) (s_mLoad_no H.hB hA.m1 hN hA.kd56 (fun q => hc ⟨q.2.1, ?_, ?_⟩)) H0
      · have := q.2.2.1
        rw [nI_clamp (by omega)] at this
        exact this
      · have := q.2.2.2
        rw [nI_clamp (by omega)] at this
        exact this
      · have := q.2.2.1
        rw [nI_clamp (by omega), hC.wg j hj] at this
        exact this
      · have := q.2.2.2
        rw [nI_clamp (by omega), ← ew, ewt] at this
        exact this
  · refine ep_mk (by decide) (by decide) (d_load H.hB (s_put_no H.hB hA.n1 hN hA.kd (fun q => h1 q.1)) rfl) (s_mLoad_no H.hB hA.m1 hN hA.kd56 (fun q => h1 ?_)) H0
    rw [← e1]
    exact q.1
end PairsA
