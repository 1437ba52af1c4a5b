/-! PAIRS: FEE, MAY -/
theorem ei_hi {x i : Nat} (hx : x < 256) (hi : 8 ≤ i) : (nI x).toBitVec.getLsbD i = false := by
  show (BitVec.ofNat 32 x).getLsbD i = false
  rw [BitVec.getLsbD_ofNat, Nat.testBit_lt_two_pow (Nat.lt_of_lt_of_le hx (Nat.pow_le_pow_right (n := 2) (by decide) hi)), Bool.and_false]
theorem ei_meet {k F : Int32} {x : Nat} (hx : x < 256) (e : F = nI x) : ¬ k &&& F = 0 ↔ ∃ j, j < 8 ∧ em_hs k j ∧ em_hs F j := by
  constructor
  · intro h
    refine Classical.byContradiction (fun z => h (Int32.toBitVec_inj.mp (BitVec.eq_of_getLsbD_eq (fun i hi => ?_))))
    show (k.toBitVec &&& F.toBitVec).getLsbD i = (0#32).getLsbD i
    rw [BitVec.getLsbD_and, BitVec.getLsbD_zero]
    by_cases h8 : i < 8
    · cases h1 : k.toBitVec.getLsbD i with
      | false => rfl
      | true =>
        cases h2 : F.toBitVec.getLsbD i with
        | false => rfl
        | true => exact absurd ⟨i, h8, (em_hs_b k h8).mpr h1, (em_hs_b F h8).mpr h2⟩ z
    · rw [e, ei_hi hx (by omega), Bool.and_false]
  · rintro ⟨j, hj, h1, h2⟩ z
    have : (k &&& F).toBitVec.getLsbD j = true := by
      show (k.toBitVec &&& F.toBitVec).getLsbD j = true
      rw [BitVec.getLsbD_and, (em_hs_b k hj).mp h1, (em_hs_b F hj).mp h2]
      rfl
    rw [z] at this
    simp at this
theorem ei_ks (I : Nat → Nat → Int32) (g : Nat → Int32) (d : Int32) {j : Nat} (hj : j < 8) : ∀ N, (∀ b, b < N → ∃ k, k < 8 ∧ I 4 b = nI k) → (em_hs (em_ks I g d N) j ↔ ∃ b, b < N ∧ em_std I g b d d ∧ I 4 b = nI j)
  | 0, _ => by
    constructor
    · exact fun z => absurd z (em_hs_0 hj)
    · rintro ⟨b, hb, -⟩
      omega
  | b + 1, hk => by
    have ih := ei_ks I g d hj b (fun k h => hk k (by omega))
    obtain ⟨k, hk8, ek⟩ := hk b (by omega)
    rw [em_ks]
    by_cases hs : em_std I g b d d
    · rw [if_pos hs, ek, em_hs_or _ hj hk8, ih]
      constructor
      · rintro (⟨b', h1, h2, h3⟩ | rfl)
        · exact ⟨b', by omega, h2, h3⟩
        · exact ⟨b, by omega, hs, ek⟩
      · rintro ⟨b', h1, h2, h3⟩
        by_cases e : b' = b
        · subst e
          right
          rw [ek] at h3
          exact ((nI_eq (by omega) (by omega)).mp h3).symm
        · exact Or.inl ⟨b', by omega, h2, h3⟩
    · rw [if_neg hs, ih]
      constructor
      · rintro ⟨b', h1, h2, h3⟩
        exact ⟨b', by omega, h2, h3⟩
      · rintro ⟨b', h1, h2, h3⟩
        by_cases e : b' = b
        · subst e; exact absurd h2 hs
        · exact ⟨b', by omega, h2, h3⟩
section PairsE
variable {Γ : em_Cx} {n m : Nat} {dl : Nat → Nat} {I : Nat → Nat → Int32} {J : Nat → Nat → Int64} {rv : em_Rv}
theorem ei_mhn {N G t : Nat} (hA : em_gA I N G t) {I' : Nat → Nat → Int32} (h0 : I' 53 0 = I 53 0) (h57 : I' 57 = I 57) (h58 : I' 58 = I 58) (h60 : I' 60 = I 60) (h61 : I' 61 = I 61) (h62 : I' 62 = I 62) : em_mhn I' G N = em_hn I (em_gf I G (I 1 10)) (I 1 10) N := by
  rw [ei_hn hA]
  refine ei_sum_eq N (fun b hb => ?_)
  have e0 : I' 53 0 = I 1 10 := by rw [h0, hA.m0, hA.t1]
  rw [e0]
  exact ei_if (ei_msd h57 h58 h60 h61 h62 G b _ _) _ _
theorem ei_nz {x : Int32} (h : x = -1 ∨ 0 ≤ x) : em_nz x = em_mx0 x := by
  rw [em_nz, em_mx0]
  rcases h with rfl | h
  · rfl
  · rw [if_neg (Int32.not_lt.mpr h)]
    by_cases h0 : 0 < x
    · rw [if_pos h0]
    · rw [if_neg h0]
      exact Int32.le_antisymm (Int32.not_lt.mp h0) h
theorem p_fee (H : em_Inv n m dl I J rv) {x : Int32} : em_pair Γ mX7_fee mX8_fee [.int x] n m dl I J rv := by
  have H0 := H
  obtain ⟨N, G, t, c, lam, mu, T, S, h, H⟩ := H
  have hA := H.A
  have hE := H.E
  have hD := H.D
  have hT := hD.T8
  have e4 : I 53 4 = I 21 0 := by rw [hD.T1, hD.T2]
  by_cases hx : 0 ≤ x ∧ x ≤ I 21 0 - 1
  case neg => exact ep_mk (by decide) (by decide) (s_fee_no H.hB hx) (s_mFee_no H.hB (by rw [e4]; exact hx)) H0
  obtain ⟨q, hq, rfl⟩ := em_inB2 hD.T1 (show T ≤ 40 by omega) hx
  have hab : em_lc q (31 + 2 * q) (32 + 2 * q) := ei_lc.mpr ⟨by omega, rfl, rfl⟩
  have r := s_mFee_ok (Γ := Γ) (n := n) (m := m) (dl := dl) (I := va_up I 10 (em_gf I G (I 1 10))) (J := J) (rv := rv) H.hB (t := q) (N := N) (G := G) (by omega) (by show 0 ≤ nI q ∧ nI q ≤ I 53 4 - 1; rw [e4]; exact hx) hA.m1 hA.n2 hA.m2 hA.g2
  have e : em_mFee (va_up I 10 (em_gf I G (I 1 10))) G N q = em_pr (I (32 + 2 * q)) (em_hn I (em_gf I G (I 1 10)) (I 1 10) N) := by
    rw [em_mFee, ei_mhn hA (I' := va_up I 10 (em_gf I G (I 1 10))) rfl rfl rfl rfl rfl rfl, em_pr]
    show (if I 80 q = 0 then 0 else em_mx0 (I 79 (5 * q + 1)) + em_mx0 (I 79 (5 * q + 2)) * _) = _
    obtain ⟨-, hl | hl⟩ := hE.lw hab
    · rw [if_pos hl.1, show I (32 + 2 * q) 2 = -1 from hl.2.2 1 (by omega), show I (32 + 2 * q) 3 = -1 from hl.2.2 2 (by omega), show em_nz (-1) = 0 from rfl, Int32.zero_mul]
      rfl
    · obtain ⟨a1, a2⟩ := hl.2.2 1 (by omega)
      obtain ⟨b1, b2⟩ := hl.2.2 2 (by omega)
      have a1 : I (32 + 2 * q) 2 = I 79 (5 * q + 1) := a1
      have b1 : I (32 + 2 * q) 3 = I 79 (5 * q + 2) := b1
      rw [if_neg (by rw [hl.1]; decide), ← a1, ← b1, ei_nz a2, ei_nz b2]
  rw [e] at r
  refine ep_mk (by decide) (by decide) (s_fee_ok H.hB hab hx hA.n1 hA.n2 hA.g1 hA.g2 hA.gb40) r ?_
  exact em_Iv.inv (em_Iv.mk (hB := H.hB) (A := hA) (B := H.B.frame (by repeat (first | exact ek_r _ | refine ek_s ?_ rfl)) rfl) (C := H.C) (D := H.D) (E := H.E) (F := H.F))
theorem p_may (H : em_Inv n m dl I J rv) {x y : Int32} : em_pair Γ mX7_may mX8_may [.int x, .int y] n m dl I J rv := by
  have H0 := H
  obtain ⟨N, G, t, c, lam, mu, T, S, h, H⟩ := H
  have hA := H.A
  have hE := H.E
  have hD := H.D
  have hT := hD.T8
  have e4 : I 53 4 = I 21 0 := by rw [hD.T1, hD.T2]
  have e0 : I 53 0 = I 1 10 := by rw [hA.m0, hA.t1]
  by_cases hx : (0 ≤ x ∧ x ≤ I 21 0 - 1) ∧ (0 ≤ y ∧ y ≤ 23)
  case neg => exact ep_mk (by decide) (by decide) (s_may_no H.hB hx) (s_mMay_no H.hB (by rw [e4]; exact hx)) H0
  obtain ⟨hx, hy⟩ := hx
  obtain ⟨q, hq, rfl⟩ := em_inB2 hD.T1 (show T ≤ 40 by omega) hx
  have hab : em_lc q (31 + 2 * q) (32 + 2 * q) := ei_lc.mpr ⟨by omega, rfl, rfl⟩
  generalize hg1 : em_gf I G (I 1 10) = g1
  generalize hg2 : em_gf (va_up I 10 g1) G (I 1 10) = g2
  have cc := s_may_ok (Γ := Γ) (n := n) (m := m) (dl := dl) (J := J) (rv := rv) H.hB hab (y := y) hx hy hA.n1 hA.n2 hA.g1 hA.g2 hA.gb40
  rw [hg1, hg2] at cc
  have r := s_mMay_ok (Γ := Γ) (n := n) (m := m) (dl := dl) (I := va_up (va_up I 10 g1) 10 g2) (J := J) (rv := rv) H.hB (t := q) (N := N) (G := G) (y := y) (by omega) (by show 0 ≤ nI q ∧ nI q ≤ I 53 4 - 1; rw [e4]; exact hx) hy hA.m1 hA.n2 hA.m2 hA.g2
  have ehn : em_hn I g2 (I 1 10) N = em_hn I g1 (I 1 10) N := by
    rw [← hg2, ← hg1]
    have z1 := ei_hn (I := va_up I 10 (em_gf I G (I 1 10))) hA (I 1 10)
    have z2 := ei_hn hA (I 1 10)
    rw [z2]
    refine Eq.trans z1 ?_
    refine ei_sum_eq N (fun b hb => ?_)
    exact ei_if (ei_msd (I' := va_up I 10 (em_gf I G (I 1 10))) (I := I) rfl rfl rfl rfl rfl G b _ _) _ _
  have emh : em_mhn (va_up (va_up I 10 g1) 10 g2) G N = em_hn I g1 (I 1 10) N := by
    rw [← hg1]
    exact ei_mhn hA (I' := va_up (va_up I 10 (em_gf I G (I 1 10))) 10 g2) rfl rfl rfl rfl rfl rfl
  have e : em_mMay (va_up (va_up I 10 g1) 10 g2) G N q y = em_vd (I (31 + 2 * q) 0) (I (32 + 2 * q)) (em_ks I g1 (I 1 10) N) (em_hn I g2 (I 1 10) N) y := by
    rw [em_mMay, emh, ehn, em_vd]
    show (if I 80 q = 0 then 0 else if em_ex (em_mfb (va_up (va_up I 10 g1) 10 g2) G q) N = true then 1 else if ¬ I 79 (5 * q) = -1 ∧ I 79 (5 * q) < _ then 2 else if (¬ I 79 (5 * q + 3) = -1 ∧ y < I 79 (5 * q + 3)) ∨ (¬ I 79 (5 * q + 4) = -1 ∧ I 79 (5 * q + 4) < y) then 3 else 0) = _
    obtain ⟨⟨fx, hfx, ef⟩, hl | hl⟩ := hE.lw hab
    · have n1 : I (32 + 2 * q) 1 = -1 := hl.2.2 0 (by omega)
      have n4 : I (32 + 2 * q) 4 = -1 := hl.2.2 3 (by omega)
      have n5 : I (32 + 2 * q) 5 = -1 := hl.2.2 4 (by omega)
      rw [if_pos hl.1, hl.2.1, n1, n4, n5, if_neg (show ¬ ¬ em_ks I g1 (I 1 10) N &&& 0 = 0 from fun z => z (Int32.and_zero)), if_neg (fun z => z.1 rfl), if_neg]
      rintro (z | z)
      · exact absurd (Int32.lt_of_le_of_lt hy.1 z) (by decide)
      · exact z.1 rfl
    · have n1 : I (32 + 2 * q) 1 = I 79 (5 * q) := (hl.2.2 0 (by omega)).1
      have n4 : I (32 + 2 * q) 4 = I 79 (5 * q + 3) := (hl.2.2 3 (by omega)).1
      have n5 : I (32 + 2 * q) 5 = I 79 (5 * q + 4) := (hl.2.2 4 (by omega)).1
      have v4 : I (32 + 2 * q) 4 = -1 ∨ 0 ≤ I (32 + 2 * q) 4 := (hl.2.2 3 (by omega)).2
      have hF : I 78 q = I (31 + 2 * q) 0 := hl.2.1
      have c1 : em_ex (em_mfb (va_up (va_up I 10 g1) 10 g2) G q) N = true ↔ ¬ em_ks I g1 (I 1 10) N &&& I (31 + 2 * q) 0 = 0 := by
        rw [ei_meet hfx ef, ei_ex_iff]
        constructor
        · rintro ⟨b, hb, z⟩
          obtain ⟨z1, z2⟩ := of_decide_eq_true z
          have z1 : em_msd (va_up (va_up I 10 g1) 10 g2) G b (I 53 0) (I 53 0) := z1
          have z2 : (I 78 q >>> (I 56 b &&& 31)) &&& 1 = 1 := z2
          obtain ⟨k, hk, ek⟩ := hA.kd b hb
          rw [e0] at z1
          refine ⟨k, hk, (ei_ks I g1 (I 1 10) hk N hA.kd).mpr ⟨b, hb, ?_, ek⟩, ?_⟩
          · rw [← hg1]
            exact (ei_std hA hb _ _).mpr ((ei_msd (I' := va_up (va_up I 10 g1) 10 g2) (I := I) rfl rfl rfl rfl rfl G b _ _).mp z1)
          · rw [hF, hA.e56, ek] at z2
            intro z0
            rw [z0] at z2
            exact absurd z2 (by decide)
        · rintro ⟨k, hk, z1, z2⟩
          obtain ⟨b, hb, z3, ek⟩ := (ei_ks I g1 (I 1 10) hk N hA.kd).mp z1
          refine ⟨b, hb, decide_eq_true ⟨?_, ?_⟩⟩
          · show em_msd (va_up (va_up I 10 g1) 10 g2) G b (I 53 0) (I 53 0)
            rw [e0]
            rw [← hg1] at z3
            exact (ei_msd (I' := va_up (va_up I 10 g1) 10 g2) (I := I) rfl rfl rfl rfl rfl G b _ _).mpr ((ei_std hA hb _ _).mp z3)
          · show (I 78 q >>> (I 56 b &&& 31)) &&& 1 = 1
            rw [hF, hA.e56, ek]
            exact (ei_and1 _).elim (fun z => absurd z z2) id
      have c3 : ((¬ I 79 (5 * q + 3) = -1 ∧ y < I 79 (5 * q + 3)) ∨ (¬ I 79 (5 * q + 4) = -1 ∧ I 79 (5 * q + 4) < y)) ↔ (y < I (32 + 2 * q) 4 ∨ (¬ I (32 + 2 * q) 5 = -1 ∧ I (32 + 2 * q) 5 < y)) := by
        rw [n5, ← n4]
        constructor
        · exact fun z => z.elim (fun z => Or.inl z.2) Or.inr
        · rintro (z | z)
          · left
            refine ⟨fun z1 => ?_, z⟩
            rw [z1] at z
            exact absurd (Int32.lt_of_le_of_lt hy.1 z) (by decide)
          · exact Or.inr z
      rw [if_neg (show ¬ I 80 q = 0 by rw [hl.1]; decide), ei_if c1, ei_if c3, n1]
  rw [e] at r
  refine ep_mk (by decide) (by decide) cc r ?_
  exact em_Iv.inv (em_Iv.mk (hB := H.hB) (A := hA) (B := H.B.frame (by repeat (first | exact ek_r _ | refine ek_s ?_ rfl)) rfl) (C := H.C) (D := H.D) (E := H.E) (F := H.F))
end PairsE
