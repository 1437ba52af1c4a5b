/-! PAIRS: BARS, WAGONS, COUNTS, TOWNS, LINES -/
theorem ei_not_b : ∀ j, j < 8 → ∀ k, k < 8 → (((1 : Int32) <<< (nI k &&& 31)) ^^^ (-1)).toBitVec.getLsbD j = !decide (j = k) := by decide +kernel
theorem ei_hs_off (x : Int32) {j k : Nat} (hj : j < 8) (hk : k < 8) : em_hs (x &&& ((1 <<< (nI k &&& 31)) ^^^ (-1))) j ↔ em_hs x j ∧ ¬ j = k := by
  rw [em_hs_b _ hj, em_hs_b _ hj]
  show (x.toBitVec &&& (((1 : Int32) <<< (nI k &&& 31)) ^^^ (-1)).toBitVec).getLsbD j = true ↔ _
  rw [BitVec.getLsbD_and, ei_not_b j hj k hk]
  simp
theorem ei_sb (v x : Int32) {j k : Nat} (hj : j < 8) (hk : k < 8) : em_hs (em_sb v x k) j ↔ (j = k ∧ ¬ v = 0) ∨ (¬ j = k ∧ em_hs x j) := by
  rw [em_sb]
  by_cases hv : v = 0
  · rw [if_pos hv, ei_hs_off x hj hk]
    constructor
    · exact fun h => Or.inr ⟨h.2, h.1⟩
    · exact fun h => h.elim (fun h => absurd hv h.2) (fun h => ⟨h.2, h.1⟩)
  · rw [if_neg hv, em_hs_or x hj hk]
    constructor
    · intro h
      by_cases e : j = k
      · exact Or.inl ⟨e, hv⟩
      · exact Or.inr ⟨e, h.elim id (fun z => absurd z e)⟩
    · exact fun h => h.elim (fun h => Or.inr h.1) (fun h => Or.inl h.2)
abbrev ei_of (x : Int32) (k : Nat) : Int32 := x &&& ((1 <<< (nI k &&& 31)) ^^^ (-1))
abbrev ei_on (x : Int32) (k : Nat) : Int32 := x ||| (1 <<< (nI k &&& 31))
theorem ei_sb_c : ∀ k, k < 8 → ∀ x, x < 256 → (ei_of (nI x) k).toNatClampNeg < 256 ∧ ei_of (nI x) k = nI (ei_of (nI x) k).toNatClampNeg ∧ (ei_on (nI x) k).toNatClampNeg < 256 ∧ ei_on (nI x) k = nI (ei_on (nI x) k).toNatClampNeg := by decide +kernel
theorem ei_sb_r {v x : Int32} {k : Nat} (hk : k < 8) (h : ∃ y, y < 256 ∧ x = nI y) : ∃ y, y < 256 ∧ em_sb v x k = nI y := by
  obtain ⟨y, hy, rfl⟩ := h
  obtain ⟨a, b, c, d⟩ := ei_sb_c k hk y hy
  rw [em_sb]
  by_cases hv : v = 0
  · rw [if_pos hv]; exact ⟨_, a, b⟩
  · rw [if_neg hv]; exact ⟨_, c, d⟩
section PairsB
variable {Γ : em_Cx} {n m : Nat} {dl : Nat → Nat} {I : Nat → Nat → Int32} {J : Nat → Nat → Int64} {rv : em_Rv}
theorem ei_bit {N : Nat} (hC : em_gC I N) {a b : Nat} (ha : a < 8) (hb : b < 8) : em_bit (I 17 a) b = I 67 (8 * a + b) := by
  rw [em_bit]
  have h := hC.bb a b ha hb
  by_cases e : em_hs (I 17 a) b
  · rw [if_pos e, h.mp e]
  · rw [if_neg e]
    rcases hC.bv (8 * a + b) (by omega) with z | z
    · exact z.symm
    · exact absurd (h.mpr z) e
theorem p_bar (H : em_Inv n m dl I J rv) {x y v : Int32} (hv : v = 0 ∨ v = 1) : em_pair Γ mX7_bar mX8_bar [.int x, .int y, .int v] n m dl I J rv := by
  have H0 := H
  obtain ⟨N, G, t, c, lam, mu, T, S, h, H⟩ := H
  have hC := H.C
  by_cases hc : (0 ≤ x ∧ x ≤ 7) ∧ (0 ≤ y ∧ y ≤ 7)
  · obtain ⟨h1, h2⟩ := hc
    obtain ⟨a, ha, rfl⟩ := nI_of2 (M := 7) (n := 7) rfl (Int32.not_lt.mpr h1.1) h1.2
    obtain ⟨b, hb, rfl⟩ := nI_of2 (M := 7) (n := 7) rfl (Int32.not_lt.mpr h2.1) h2.2
    have hbit := ei_bit hC (show a < 8 by omega) (show b < 8 by omega)
    by_cases h3 : I 67 (8 * a + b) = v
    · refine ep_mk (by decide) (by decide) (d_bar H.hB (s_setBar_no H.hB (fun z => z.2.2 ?_)) rfl) (s_mBar_no H.hB (fun z => z.2.2 ?_)) H0
      · rw [nI_clamp (by omega), nI_clamp (by omega), hbit]; exact h3
      · rw [nI_clamp (by omega), nI_clamp (by omega)]; exact h3
    · refine ep_mk (by decide) (by decide) (d_bar H.hB (s_setBar_ok H.hB (show a < 8 by omega) (show b < 8 by omega) (by rw [hbit]; exact h3)) rfl) (s_mBar_ok H.hB (show a < 8 by omega) (show b < 8 by omega) h3 hv) ?_
      refine em_Iv.inv (N := N) (G := G) (t := t) (c := c) (lam := lam) (mu := mu) (T := T) (S := S) (h := h) (em_Iv.mk (hB := H.hB) (A := H.A) (B := H.B.frame (by repeat (first | exact ek_r _ | refine ek_s ?_ rfl)) rfl) (C := ?_) (D := H.D) (E := H.E) (F := H.F))
      have row : ∀ i, i < 8 → (¬ i = a → ¬ i = b → va_up (va_up (I 17) a (em_sb v (I 17 a) b)) b (em_sb v (va_up (I 17) a (em_sb v (I 17 a) b) b) a) i = I 17 i) := by
        intro i _ e1 e2
        rw [va_up_ne _ _ e2, va_up_ne _ _ e1]
      have m67 : ∀ i, va_up (va_up (I 67) (8 * a + b) v) (8 * b + a) v i = if i = 8 * a + b ∨ i = 8 * b + a then v else I 67 i := by
        intro i
        by_cases e : i = 8 * b + a
        · rw [e, va_up_self, if_pos (Or.inr rfl)]
        · rw [va_up_ne _ _ e]
          by_cases e2 : i = 8 * a + b
          · rw [e2, va_up_self, if_pos (Or.inl rfl)]
          · rw [va_up_ne _ _ e2, if_neg (fun z => z.elim e2 e)]
      refine em_gC.mk (wg := hC.wg) (wn := hC.wn) (wr := hC.wr) (br := ?_) (bb := ?_) (bv := ?_) (bs := ?_)
      · intro i hi
        show ∃ y, y < 256 ∧ va_up (va_up (I 17) a (em_sb v (I 17 a) b)) b (em_sb v (va_up (I 17) a (em_sb v (I 17 a) b) b) a) i = nI y
        by_cases e2 : i = b
        · subst e2
          rw [va_up_self]
          refine ei_sb_r (by omega) ?_
          by_cases e1 : i = a
          · rw [e1, va_up_self]; exact ei_sb_r (by omega) (hC.br a (by omega))
          · rw [va_up_ne _ _ e1]; exact hC.br i hi
        · by_cases e1 : i = a
          · rw [va_up_ne _ _ e2, e1, va_up_self]; exact ei_sb_r (by omega) (hC.br a (by omega))
          · rw [row i hi e1 e2]; exact hC.br i hi
      · intro i j hi hj
        show em_hs (va_up (va_up (I 17) a (em_sb v (I 17 a) b)) b (em_sb v (va_up (I 17) a (em_sb v (I 17 a) b) b) a) i) j ↔ va_up (va_up (I 67) (8 * a + b) v) (8 * b + a) v (8 * i + j) = 1
        rw [m67]
        have hv1 : ¬ v = 0 ↔ v = 1 := by
          rcases hv with e | e
          · subst e; decide
          · subst e; decide
        have idx : (8 * i + j = 8 * a + b ∨ 8 * i + j = 8 * b + a) ↔ (i = a ∧ j = b) ∨ (i = b ∧ j = a) := by omega
        have old := hC.bb i j hi hj
        by_cases e2 : i = b
        · subst e2
          rw [va_up_self, ei_sb v _ hj (by omega)]
          by_cases e1 : i = a
          · subst e1
            rw [va_up_self, ei_sb v _ hj (by omega)]
            by_cases ej : j = i
            · rw [if_pos (by omega), ← hv1]
              constructor
              · exact fun z => z.elim (fun z => z.2) (fun z => absurd ej z.1)
              · exact fun z => Or.inl ⟨ej, z⟩
            · rw [if_neg (by omega), ← old]
              constructor
              · exact fun z => z.elim (fun z => absurd z.1 ej) (fun z => z.2.elim (fun z => absurd z.1 ej) (fun z => z.2))
              · exact fun z => Or.inr ⟨ej, Or.inr ⟨ej, z⟩⟩
          · rw [va_up_ne _ _ e1]
            by_cases ej : j = a
            · rw [if_pos (by omega), ← hv1]
              constructor
              · exact fun z => z.elim (fun z => z.2) (fun z => absurd ej z.1)
              · exact fun z => Or.inl ⟨ej, z⟩
            · rw [if_neg (by omega), ← old]
              constructor
              · exact fun z => z.elim (fun z => absurd z.1 ej) (fun z => z.2)
              · exact fun z => Or.inr ⟨ej, z⟩
        · by_cases e1 : i = a
          · subst e1
            rw [va_up_ne _ _ e2, va_up_self, ei_sb v _ hj (by omega)]
            by_cases ej : j = b
            · rw [if_pos (by omega), ← hv1]
              constructor
              · exact fun z => z.elim (fun z => z.2) (fun z => absurd ej z.1)
              · exact fun z => Or.inl ⟨ej, z⟩
            · rw [if_neg (by omega), ← old]
              constructor
              · exact fun z => z.elim (fun z => absurd z.1 ej) (fun z => z.2)
              · exact fun z => Or.inr ⟨ej, z⟩
          · rw [row i hi e1 e2, if_neg (by omega)]
            exact old
      · intro i hi
        show va_up (va_up (I 67) (8 * a + b) v) (8 * b + a) v i = 0 ∨ va_up (va_up (I 67) (8 * a + b) v) (8 * b + a) v i = 1
        rw [m67]
        split
        · exact hv
        · exact hC.bv i hi
      · intro i j hi hj
        show va_up (va_up (I 67) (8 * a + b) v) (8 * b + a) v (8 * i + j) = va_up (va_up (I 67) (8 * a + b) v) (8 * b + a) v (8 * j + i)
        rw [m67, m67]
        by_cases e : 8 * i + j = 8 * a + b ∨ 8 * i + j = 8 * b + a
        · rw [if_pos e, if_pos (by omega)]
        · rw [if_neg e, if_neg (by omega)]
          exact hC.bs i j hi hj
  · exact ep_mk (by decide) (by decide) (d_bar H.hB (s_setBar_no H.hB (fun z => hc ⟨z.1, z.2.1⟩)) rfl) (s_mBar_no H.hB (fun z => hc ⟨z.1, z.2.1⟩)) H0
theorem ei_ex_iff {P : Nat → Bool} {N : Nat} : em_ex P N = true ↔ ∃ j, j < N ∧ P j = true := by
  constructor
  · intro h
    refine Classical.byContradiction (fun z => ?_)
    have : em_ex P N = false := em_ex_no.mpr (fun j hj => by
      cases e : P j with
      | false => rfl
      | true => exact absurd ⟨j, hj, e⟩ z)
    rw [this] at h
    cases h
  · exact fun ⟨j, hj, e⟩ => em_ex_yes hj e
theorem ei_sound {N G t : Nat} (hA : em_gA I N G t) (hC : em_gC I N) (w : Int32) : em_ex (em_us I w) N = true ↔ em_abr I N w w = true := by
  have foe : ∀ a b, a < N → b < N → (¬ (I 17 (I 4 a).toNatClampNeg >>> (I 4 b &&& 31)) &&& 1 = 0 ↔ ¬ I 67 (8 * (I 56 a).toNatClampNeg + (I 56 b).toNatClampNeg) = 0) := by
    intro a b ha hb
    obtain ⟨ka, hka, ea⟩ := hA.kd a ha
    obtain ⟨kb, hkb, eb⟩ := hA.kd b hb
    rw [hA.e56, ea, eb, nI_clamp (by omega), nI_clamp (by omega)]
    have h := hC.bb ka kb hka hkb
    have h2 := hC.bv (8 * ka + kb) (by omega)
    constructor
    · intro z q
      have := h.mp z
      rw [q] at this
      exact absurd this (by decide)
    · intro z
      exact h.mpr (h2.elim (fun q => absurd q z) id)
  have sym : ∀ a b, a < N → b < N → I 67 (8 * (I 56 a).toNatClampNeg + (I 56 b).toNatClampNeg) = I 67 (8 * (I 56 b).toNatClampNeg + (I 56 a).toNatClampNeg) := by
    intro a b ha hb
    obtain ⟨ka, hka, ea⟩ := hA.kd a ha
    obtain ⟨kb, hkb, eb⟩ := hA.kd b hb
    rw [hA.e56, ea, eb, nI_clamp (by omega), nI_clamp (by omega)]
    exact hC.bs ka kb hka hkb
  rw [ei_ex_iff]
  show _ ↔ em_ex (fun a => em_ex (em_bp I w w a) N) N = true
  rw [ei_ex_iff]
  constructor
  · rintro ⟨j, hj, e⟩
    have e := of_decide_eq_true e
    obtain ⟨e1, e2⟩ := e
    obtain ⟨o, ho, e3⟩ := ei_ex_iff.mp e2
    obtain ⟨e4, e5⟩ := of_decide_eq_true e3
    refine ⟨j, hj, ei_ex_iff.mpr ⟨o, by omega, decide_eq_true ⟨by omega, ?_, ?_, ?_⟩⟩⟩
    · rw [hC.wg j hj]; exact e1
    · rw [hC.wg o (by omega), e4]; exact e1
    · exact (foe j o hj (by omega)).mp e5
  · rintro ⟨a, ha, e⟩
    obtain ⟨b, hb, e⟩ := ei_ex_iff.mp e
    obtain ⟨e1, e2, e3, e4⟩ := of_decide_eq_true e
    rw [hC.wg a ha] at e2
    rw [hC.wg b hb] at e3
    rcases Nat.lt_or_gt_of_ne e1 with hlt | hlt
    · refine ⟨b, hb, decide_eq_true ⟨e3, ei_ex_iff.mpr ⟨a, hlt, decide_eq_true ⟨by rw [e2, e3], ?_⟩⟩⟩⟩
      refine (foe b a hb ha).mpr ?_
      rw [sym b a hb ha]
      exact e4
    · exact ⟨a, ha, decide_eq_true ⟨e2, ei_ex_iff.mpr ⟨b, hlt, decide_eq_true ⟨by rw [e2, e3], (foe a b ha hb).mpr e4⟩⟩⟩⟩
theorem p_wagon (H : em_Inv n m dl I J rv) {w x : Int32} : em_pair Γ mX7_wagon mX8_wagon [.int w, .int x] n m dl I J rv := by
  have H0 := H
  obtain ⟨N, G, t, c, lam, mu, T, S, h, H⟩ := H
  have hA := H.A
  have e : em_mWg I N w x = em_cWg I N w x := by
    rw [em_mWg, em_cWg]
    by_cases hw : 0 ≤ w ∧ w ≤ 7
    · rw [if_neg (fun z => z hw), if_pos hw, ei_ww hA H.C, ei_wm H.C]
      have := ei_sound hA H.C w
      have e2 : (if em_abr I N w w = true then (0 : Int32) else 1) = if em_ex (em_us I w) N = false then 1 else 0 := by
        by_cases hs : em_ex (em_us I w) N = false
        · rw [if_pos hs, if_neg (show ¬ em_abr I N w w = true from fun z => by rw [this.mpr z] at hs; cases hs)]
        · rw [if_neg hs, if_pos (this.mp (by cases q : em_ex (em_us I w) N with
            | true => rfl
            | false => exact absurd q hs))]
      rw [e2]
    · rw [if_pos hw, if_neg hw]
  have r := s_mWagon (Γ := Γ) (n := n) (m := m) (dl := dl) (I := I) (J := J) (rv := rv) H.hB (w := w) (x := x) hA.m1 hA.n2 hA.kd56
  rw [e] at r
  exact ep_mk (by decide) (by decide) (s_wagon H.hB hA.n1 hA.n2 hA.kd) r H0
theorem ei_cnt (f : Nat → Int32) : ∀ N, bx_sum (fun b => if f b = -1 then 1 else 0) N + bx_sum (fun b => if f b = -1 then 0 else 1) N = nI N
  | 0 => rfl
  | b + 1 => by
    have ih := ei_cnt f b
    show bx_sum (fun b => if f b = -1 then 1 else 0) b + (if f b = -1 then 1 else 0) + (bx_sum (fun b => if f b = -1 then 0 else 1) b + (if f b = -1 then 0 else 1)) = _
    by_cases h : f b = -1
    · rw [if_pos h, if_pos h, Int32.add_zero, Int32.add_assoc, Int32.add_comm 1, ← Int32.add_assoc, ih, nI_1]
    · rw [if_neg h, if_neg h, Int32.add_zero, ← Int32.add_assoc, ih, nI_1]
theorem p_count (H : em_Inv n m dl I J rv) {x : Int32} : em_pair Γ mX7_count mX8_count [.int x] n m dl I J rv := by
  have H0 := H
  obtain ⟨N, G, t, c, lam, mu, T, S, h, H⟩ := H
  have hA := H.A
  by_cases h2 : x = 2
  · subst h2
    have r := s_mCount (Γ := Γ) (n := n) (m := m) (dl := dl) (I := va_up I 10 (em_gf I G (I 1 10))) (J := J) (rv := rv) H.hB (x := 2) (N := N) (G := G) hA.m1 hA.n2 hA.m2 hA.g2
    have e : em_mCn (va_up I 10 (em_gf I G (I 1 10))) G N 2 = em_hn I (em_gf I G (I 1 10)) (I 1 10) N := by
      rw [em_mCn, if_neg (by decide), if_neg (by decide), if_pos rfl, ei_hn hA]
      refine ei_sum_eq N (fun b hb => ?_)
      have e0 : I 53 0 = I 1 10 := by rw [hA.m0, hA.t1]
      show (if em_msd (va_up I 10 (em_gf I G (I 1 10))) G b (I 53 0) (I 53 0) then 1 else 0) = _
      rw [e0]
      exact ei_if (ei_msd (I' := va_up I 10 (em_gf I G (I 1 10))) (I := I) rfl rfl rfl rfl rfl G b _ _) _ _
    rw [e] at r
    refine ep_mk (by decide) (by decide) (s_count_2 H.hB hA.n1 hA.n2 hA.g1 hA.g2 hA.gb40) r ?_
    exact em_Iv.inv (em_Iv.mk (hB := H.hB) (A := hA) (B := H.B.frame (by repeat (first | exact ek_r _ | refine ek_s ?_ rfl)) rfl) (C := H.C) (D := H.D) (E := H.E) (F := H.F))
  · have r := s_mCount (Γ := Γ) (n := n) (m := m) (dl := dl) (I := I) (J := J) (rv := rv) H.hB (x := x) (N := N) (G := G) hA.m1 hA.n2 hA.m2 hA.g2
    have e : em_mCn I G N x = em_cCn I G N x := by
      rw [em_mCn, em_cCn, hA.m0, hA.t1, hA.m1, hA.n1, H.B.c1, H.B.c2, H.B.al, H.B.u, H.D.T1, H.D.T2, H.E.s1, H.E.s2, H.F.w1, H.F.w2, if_neg h2, if_neg h2]
      have e9 : nI N - em_wm I (-1) N = em_mld I N := by
        have z := ei_cnt (I 59) N
        rw [show bx_sum (fun b => if I 59 b = -1 then 1 else 0) N = em_wm I (-1) N from (ei_wm H.C (-1)).symm] at z
        rw [← z, Int32.add_comm, Int32.add_sub_cancel]
      rw [e9]
    rw [e] at r
    exact ep_mk (by decide) (by decide) (s_count H.hB hA.n1 hA.n2 h2) r H0
theorem p_line (H : em_Inv n m dl I J rv) {x w : Int32} : em_pair Γ mX7_line mX8_line [.int x, .int w] n m dl I J rv := by
  have H0 := H
  obtain ⟨N, G, t, c, lam, mu, T, S, h, H⟩ := H
  have hb := H.B
  have hc3 := hb.c3
  have hL4 := hb.L4
  have hu2 := hb.u2
  by_cases hx : 0 ≤ x ∧ x ≤ I 12 3 - 1
  · have hx' := hx
    rw [hb.c1] at hx'
    have hi : ∃ i, i < c ∧ x = nI i := by
      obtain ⟨i, hi, e⟩ := nI_of (Int32.not_lt.mpr hx'.1)
      refine ⟨i, ?_, e⟩
      rcases Nat.eq_zero_or_pos c with z | z
      · rw [z, e] at hx'
        have h1 := Int32.le_trans hx'.1 hx'.2
        exact absurd h1 (by decide)
      · obtain ⟨c', rfl⟩ : ∃ c', c = c' + 1 := ⟨c - 1, by omega⟩
        rw [nI_pred, e] at hx'
        have := (nI_leI hi (by omega)).mp hx'.2
        omega
    obtain ⟨i, hi, rfl⟩ := hi
    have r := s_mLine_ok (Γ := Γ) (n := n) (m := m) (dl := dl) (I := I) (J := J) (rv := rv) H.hB (w := w) hb.k1 hb.k2 hb.k3 hb.t1 hb.t2 hb.t3 hb.l1 hb.l2 hb.l3 (by omega) hb.c2 hb.u3 hi
    obtain ⟨g0, g1, g2⟩ := hb.ln i hi
    by_cases hw : 0 ≤ w ∧ w ≤ 2
    · obtain ⟨k, hk, rfl⟩ := nI_of2 (M := 2) (n := 2) rfl (Int32.not_lt.mpr hw.1) hw.2
      have e : em_mLn I rv i (nI k) = I rv.1 (3 * i + k) := by
        rw [em_mLn]
        rcases (show k = 0 ∨ k = 1 ∨ k = 2 by omega) with rfl | rfl | rfl
        · rw [if_pos (by decide), ← g0]; rfl
        · rw [if_neg (by decide), if_pos (by decide), ← g1]
        · rw [if_neg (by decide), if_neg (by decide), if_pos (by decide), ← g2]
      rw [e] at r
      exact ep_mk (by decide) (by decide) (d_line H.hB (s_linePart_ok H.hB hb.L1 hb.L2 hb.L3 (by omega) hb.c1 hb.L5 hi (by omega))) r H0
    · have e : em_mLn I rv i w = -1000000 := by
        have hne : ∀ k : Nat, k ≤ 2 → ¬ w = nI k := fun k hk z => hw (by rw [z]; exact ⟨nI_pos' (by omega), nI_le (b := 2) hk (by omega)⟩)
        rw [em_mLn, if_neg (show ¬ w = 0 from hne 0 (by omega)), if_neg (show ¬ w = 1 from hne 1 (by omega)), if_neg (show ¬ w = 2 from hne 2 (by omega))]
      rw [e] at r
      exact ep_mk (by decide) (by decide) (d_line H.hB (s_linePart_no H.hB (fun z => hw z.2))) r H0
  · refine ep_mk (by decide) (by decide) (d_line H.hB (s_linePart_no H.hB (fun z => hx z.1))) (s_mLine_no H.hB (fun z => hx ?_)) H0
    rw [hb.c1, ← hb.c2]
    exact z
end PairsB
