/-! PAIR: ORDER -/
theorem eo_or (x y : Int32) {j : Nat} (hj : j < 8) : em_hs (x ||| y) j ↔ em_hs x j ∨ em_hs y j := by
  rw [em_hs_b _ hj, em_hs_b _ hj, em_hs_b _ hj]
  show (x.toBitVec ||| y.toBitVec).getLsbD j = true ↔ _
  rw [BitVec.getLsbD_or]
  simp
theorem eo_kb (B : Nat → Int32) (x : Int32) {j : Nat} (hj : j < 8) : ∀ W, W ≤ 8 → (em_hs (em_kb B x W) j ↔ ∃ a, a < W ∧ em_hs x a ∧ em_hs (B a) j)
  | 0, _ => ⟨fun z => absurd z (em_hs_0 hj), fun ⟨a, h, _⟩ => by omega⟩
  | w + 1, h => by
    have ih := eo_kb B x hj w (by omega)
    rw [em_kb]
    by_cases hx : em_hs x w
    · rw [if_pos hx, eo_or _ _ hj, ih]
      constructor
      · rintro (⟨a, h1, h2⟩ | z)
        · exact ⟨a, by omega, h2⟩
        · exact ⟨w, by omega, hx, z⟩
      · rintro ⟨a, h1, h2, h3⟩
        by_cases e : a = w
        · subst e; exact Or.inr h3
        · exact Or.inl ⟨a, by omega, h2, h3⟩
    · rw [if_neg hx, ih]
      constructor
      · rintro ⟨a, h1, h2⟩
        exact ⟨a, by omega, h2⟩
      · rintro ⟨a, h1, h2, h3⟩
        by_cases e : a = w
        · subst e; exact absurd h2 hx
        · exact ⟨a, by omega, h2, h3⟩
theorem eo_fo (D : Nat → Int32) (x : Int32) {j : Nat} (hj : j < 8) : ∀ W, W ≤ 8 → (em_hs (em_fo D x W) j ↔ j < W ∧ ¬ x &&& D j = 0)
  | 0, _ => ⟨fun z => absurd z (em_hs_0 hj), fun z => by omega⟩
  | w + 1, h => by
    have ih := eo_fo D x hj w (by omega)
    rw [em_fo]
    by_cases hx : x &&& D w = 0
    · rw [if_pos hx, ih]
      constructor
      · exact fun z => ⟨by omega, z.2⟩
      · rintro ⟨z1, z2⟩
        by_cases e : j = w
        · subst e; exact absurd hx z2
        · exact ⟨by omega, z2⟩
    · rw [if_neg hx, em_hs_or _ hj (by omega), ih]
      constructor
      · rintro (z | rfl)
        · exact ⟨by omega, z.2⟩
        · exact ⟨by omega, hx⟩
      · rintro ⟨z1, z2⟩
        by_cases e : j = w
        · exact Or.inr e
        · exact Or.inl ⟨by omega, z2⟩
theorem eo_ff (B D F : Nat → Int32) {w : Nat} : ∀ W, w < W → em_ff B D F W w = em_fo D (em_kb B (D w) 8) 8
  | W + 1, h => by
    rw [em_ff]
    by_cases e : w = W
    · rw [e, va_up_self]
    · rw [va_up_ne _ _ e]; exact eo_ff B D F W (by omega)
theorem eo_fw (D : Nat → Int32) {j : Nat} (hj : j < 8) : ∀ W, W ≤ 8 → (em_hs (em_fw D W) j ↔ j < W ∧ ¬ D j = 0)
  | 0, _ => ⟨fun z => absurd z (em_hs_0 hj), fun z => by omega⟩
  | w + 1, h => by
    have ih := eo_fw D hj w (by omega)
    rw [em_fw]
    by_cases hx : D w = 0
    · rw [if_pos hx, ih]
      constructor
      · exact fun z => ⟨by omega, z.2⟩
      · rintro ⟨z1, z2⟩
        by_cases e : j = w
        · subst e; exact absurd hx z2
        · exact ⟨by omega, z2⟩
    · rw [if_neg hx, em_hs_or _ hj (by omega), ih]
      constructor
      · rintro (z | rfl)
        · exact ⟨by omega, z.2⟩
        · exact ⟨by omega, hx⟩
      · rintro ⟨z1, z2⟩
        by_cases e : j = w
        · exact Or.inr e
        · exact Or.inl ⟨by omega, z2⟩
theorem eo_fk (I : Nat → Nat → Int32) {w : Nat} (hw : w < 8) : ∀ N, (∀ b, b < N → ∃ k, k < 8 ∧ I 4 b = nI k) → (∀ b, b < N → I 16 b = -1 ∨ ∃ w, w < 8 ∧ I 16 b = nI w) → (∃ x, x < 256 ∧ em_fk I N w = nI x) ∧ ∀ j, j < 8 → (em_hs (em_fk I N w) j ↔ ∃ b, b < N ∧ I 16 b = nI w ∧ I 4 b = nI j)
  | 0, _, _ => by
    have e : em_fk I 0 w = 0 := by
      show em_fil (I 18) 0 8 w = 0
      rw [em_fil, if_pos hw]
    rw [e]
    exact ⟨⟨0, by omega, rfl⟩, fun j hj => ⟨fun z => absurd z (em_hs_0 hj), fun ⟨b, h, _⟩ => by omega⟩⟩
  | b + 1, hk, hg => by
    obtain ⟨⟨x, hx, e⟩, ih⟩ := eo_fk I hw b (fun k h => hk k (by omega)) (fun k h => hg k (by omega))
    obtain ⟨k, hk8, ek⟩ := hk b (by omega)
    have skip : ∀ j, ¬ I 16 b = nI w → ((∃ b', b' < b ∧ I 16 b' = nI w ∧ I 4 b' = nI j) ↔ ∃ b', b' < b + 1 ∧ I 16 b' = nI w ∧ I 4 b' = nI j) := by
      intro j hne
      constructor
      · rintro ⟨b', h1, h2⟩
        exact ⟨b', by omega, h2⟩
      · rintro ⟨b', h1, h2⟩
        by_cases z : b' = b
        · rw [z] at h2; exact absurd h2.1 hne
        · exact ⟨b', by omega, h2⟩
    rw [em_fk]
    rcases hg b (by omega) with hm | ⟨v, hv, ev⟩
    · rw [if_pos hm]
      refine ⟨⟨x, hx, e⟩, fun j hj => ?_⟩
      rw [ih j hj]
      exact skip j (fun z => by
        rw [hm] at z
        have h0 := nI_pos (n := w) (by omega)
        rw [← z] at h0
        exact h0 (by decide))
    · have hne : ¬ I 16 b = -1 := fun z => by
        rw [ev] at z
        have h0 := nI_pos (n := v) (by omega)
        rw [z] at h0
        exact h0 (by decide)
      rw [if_neg hne, ev, nI_clamp (by omega), ek]
      by_cases hvw : w = v
      · subst hvw
        rw [va_up_self]
        refine ⟨?_, fun j hj => ?_⟩
        · rw [e]
          obtain ⟨-, -, a1, a2⟩ := ei_sb_c k hk8 x hx
          exact ⟨_, a1, a2⟩
        · rw [em_hs_or _ hj hk8, ih j hj]
          constructor
          · rintro (⟨b', h1, h2⟩ | rfl)
            · exact ⟨b', by omega, h2⟩
            · exact ⟨b, by omega, ev, ek⟩
          · rintro ⟨b', h1, h2, h3⟩
            by_cases z : b' = b
            · subst z
              right
              rw [ek] at h3
              exact ((nI_eq (by omega) (by omega)).mp h3).symm
            · exact Or.inl ⟨b', by omega, h2, h3⟩
      · rw [va_up_ne _ _ hvw]
        refine ⟨⟨x, hx, e⟩, fun j hj => ?_⟩
        rw [ih j hj]
        exact skip j (fun z => hvw (by rw [ev] at z; exact ((nI_eq (by omega) (by omega)).mp z).symm))
theorem eo_z {x : Nat} (hx : x < 256) : nI x = 0 ↔ ∀ j, j < 8 → ¬ em_hs (nI x) j := by
  constructor
  · intro z j hj
    rw [z]
    exact em_hs_0 hj
  · intro h
    refine Int32.toBitVec_inj.mp (BitVec.eq_of_getLsbD_eq (fun i hi => ?_))
    show (nI x).toBitVec.getLsbD i = (0#32).getLsbD i
    rw [BitVec.getLsbD_zero]
    by_cases h8 : i < 8
    · cases e : (nI x).toBitVec.getLsbD i with
      | false => rfl
      | true => exact absurd ((em_hs_b _ h8).mpr e) (h i h8)
    · exact ei_hi hx (by omega)
theorem eo_mm (f : Nat → Int32) (w : Int32) : ∀ N, N ≤ 40 → ∃ c, c ≤ N ∧ bx_sum (fun b => if f b = w then 1 else 0) N = nI c ∧ (c = 0 ↔ ∀ b, b < N → ¬ f b = w)
  | 0, _ => ⟨0, Nat.le_refl _, rfl, ⟨fun _ b hb => by omega, fun _ => rfl⟩⟩
  | b + 1, h => by
    obtain ⟨c, hc, e, ez⟩ := eo_mm f w b (by omega)
    show ∃ c, c ≤ b + 1 ∧ bx_sum (fun b => if f b = w then 1 else 0) b + (if f b = w then 1 else 0) = nI c ∧ _
    by_cases hf : f b = w
    · refine ⟨c + 1, by omega, by rw [if_pos hf, e, nI_1], ⟨fun z => by omega, fun z => absurd hf (z b (by omega))⟩⟩
    · refine ⟨c, by omega, by rw [if_neg hf, e, Int32.add_zero], ?_⟩
      rw [ez]
      constructor
      · intro z q hq
        by_cases eq : q = b
        · rw [eq]; exact hf
        · exact z q (by omega)
      · exact fun z q hq => z q (by omega)
section PairsI
variable {Γ : em_Cx} {n m : Nat} {dl : Nat → Nat} {I : Nat → Nat → Int32} {J : Nat → Nat → Int64} {rv : em_Rv}
theorem eo_full {N G t : Nat} (hA : em_gA I N G t) (hC : em_gC I N) {w : Nat} (hw : w < 8) : ((em_fwN (em_fk I N) 8).testBit w = true ↔ ¬ em_mm I (nI w) N = 0) := by
  have hN := hA.n2
  rw [← eo_hs hw, ← em_fwN_ok _ 8 (Nat.le_refl _), eo_fw _ hw 8 (Nat.le_refl _)]
  obtain ⟨⟨x, hx, e⟩, hb⟩ := eo_fk I hw N hA.kd hC.wr
  obtain ⟨c, hc, ec, ez⟩ := eo_mm (I 59) (nI w) N hN
  have ec : em_mm I (nI w) N = nI c := ec
  have e0 : nI c = 0 ↔ c = 0 := ⟨fun z => (nI_eq (b := 0) (by omega) (by omega)).mp z, fun z => by rw [z]; rfl⟩
  rw [ec, e0, ez, e, eo_z hx]
  constructor
  · rintro ⟨-, h⟩ z
    refine h (fun j hj y => ?_)
    rw [← e, hb j hj] at y
    obtain ⟨b, h1, h2, -⟩ := y
    exact z b h1 (by rw [hC.wg b h1]; exact h2)
  · intro h
    refine ⟨hw, fun z => h (fun b hb' y => ?_)⟩
    rw [hC.wg b hb'] at y
    obtain ⟨k, hk, ek⟩ := hA.kd b hb'
    refine z k hk ?_
    rw [← e, hb k hk]
    exact ⟨b, hb', y, ek⟩
theorem eo_al {N : Nat} {f : Nat} (h : ∀ w, w < 8 → (f.testBit w = true ↔ ¬ em_mm I (nI w) N = 0)) : em_pc f = em_al I N 8 := by
  have : ∀ W, W ≤ 8 → (List.range W).foldl (fun a w => if f.testBit w then a + 1 else a) 0 = em_al I N W := by
    intro W
    induction W with
    | zero => intro _; rfl
    | succ W ih =>
      intro hW
      rw [List.range_succ, List.foldl_append, ih (by omega), em_al]
      show (if f.testBit W = true then em_al I N W + 1 else em_al I N W) = _
      by_cases z : em_mm I (nI W) N = 0
      · rw [if_pos z, if_neg (fun y => (h W (by omega)).mp y z)]
      · rw [if_neg z, if_pos ((h W (by omega)).mpr z)]
  exact this 8 (Nat.le_refl _)
theorem eo_foe {N G t : Nat} (hA : em_gA I N G t) (hC : em_gC I N) {v w : Nat} (hv : v < 8) (hw : w < 8) (hne : ¬ v = w) : em_b1v I N v w = true ↔ em_hs (em_foe I N v) w := by
  obtain ⟨⟨xv, hxv, ev⟩, bv⟩ := eo_fk I hv N hA.kd hC.wr
  obtain ⟨⟨xw, hxw, ew⟩, bw⟩ := eo_fk I hw N hA.kd hC.wr
  have e : em_foe I N v = em_fo (em_fk I N) (em_kb (I 17) (em_fk I N v) 8) 8 := eo_ff _ _ _ 8 hv
  rw [e, eo_fo _ _ hw 8 (Nat.le_refl _), ei_meet hxw ew]
  have l : em_b1v I N v w = true ↔ em_abr I N (nI v) (nI w) = true := by
    show (decide (¬ v = w) && em_abr I N (nI v) (nI w)) = true ↔ _
    rw [decide_eq_true hne, Bool.true_and]
  rw [l]
  show em_ex (fun a => em_ex (em_bp I (nI v) (nI w) a) N) N = true ↔ _
  rw [ei_ex_iff]
  constructor
  · rintro ⟨a, ha, z⟩
    obtain ⟨b, hb, z⟩ := ei_ex_iff.mp z
    obtain ⟨z1, z2, z3, z4⟩ := of_decide_eq_true z
    obtain ⟨ka, hka, ea⟩ := hA.kd a ha
    obtain ⟨kb, hkb, eb⟩ := hA.kd b hb
    rw [hC.wg a ha] at z2
    rw [hC.wg b hb] at z3
    rw [hA.e56, ea, eb, nI_clamp (by omega), nI_clamp (by omega)] at z4
    refine ⟨hw, kb, hkb, (eo_kb _ _ hkb 8 (Nat.le_refl _)).mpr ⟨ka, hka, (bv ka hka).mpr ⟨a, ha, z2, ea⟩, ?_⟩, (bw kb hkb).mpr ⟨b, hb, z3, eb⟩⟩
    exact (hC.bb ka kb hka hkb).mpr ((hC.bv (8 * ka + kb) (by omega)).elim (fun q => absurd q z4) id)
  · rintro ⟨-, kb, hkb, z1, z2⟩
    obtain ⟨ka, hka, z3, z4⟩ := (eo_kb _ _ hkb 8 (Nat.le_refl _)).mp z1
    obtain ⟨a, ha, a1, a2⟩ := (bv ka hka).mp z3
    obtain ⟨b, hb, b1, b2⟩ := (bw kb hkb).mp z2
    refine ⟨a, ha, ei_ex_iff.mpr ⟨b, hb, decide_eq_true ⟨fun z => ?_, ?_, ?_, ?_⟩⟩⟩
    · rw [z, b1] at a1
      exact hne ((nI_eq (by omega) (by omega)).mp a1).symm
    · rw [hC.wg a ha]; exact a1
    · rw [hC.wg b hb]; exact b1
    · rw [hA.e56, a2, b2, nI_clamp (by omega), nI_clamp (by omega), (hC.bb ka kb hka hkb).mp z4]
      decide
theorem eo_main {N G t i : Nat} (hA : em_gA I N G t) (hC : em_gC I N) (hi : i < em_al I N 8) : em_pbl (em_beg I N) (em_foe I N) (i + 1) (em_fwN (em_fk I N) 8) 0 (-1) = em_mOr I N i := by
  have hf := fun w (hw : w < 8) => eo_full hA hC hw
  have hal := eo_al hf
  have h := (eo_ly (R := em_b1v I N) (B0 := I 20) (F := em_foe I N) (f := em_fwN (em_fk I N) 8) (fun v w hv hw hne _ _ => eo_foe hA hC hv hw hne) (em_al I N 8) (em_fwN (em_fk I N) 8) (em_pB (em_pl8 I N 8)) none 0 (em_fwN_lt _ 8) hal (fun w hw => ?_) (fun _ _ z => z) (fun w hw _ => ⟨fun z => absurd z (by simp [em_bdl]), fun z => absurd z (em_hs_0 hw)⟩)).2 i (-1) hi
  · refine Eq.trans h ?_
    unfold em_mOr eo_at
    cases em_ly (em_b1v I N) (em_al I N 8) (em_pB (em_pl8 I N 8)) none <;> rfl
  · rw [hf w hw]
    have e : em_pl8 I N 8 w = if em_mm I (nI w) N = 0 then 1 else 0 := by
      show em_plc _ _ 8 w = _
      rw [em_plc, if_pos hw]
    show decide _ = false ↔ _
    rw [e]
    by_cases z : em_mm I (nI w) N = 0
    · rw [if_pos z]; simp [z]
    · rw [if_neg z]; simp [z]
theorem p_order (H : em_Inv n m dl I J rv) {x : Int32} : em_pair Γ mX7_order mX8_order [.int x] n m dl I J rv := by
  obtain ⟨N, G, t, c, lam, mu, T, S, h, H⟩ := H
  have hA := H.A
  have hC := H.C
  have hal := eo_al (fun w (hw : w < 8) => eo_full hA hC hw)
  have hle := em_al_le I N 8
  by_cases hx : 0 ≤ x ∧ x ≤ nI (em_al I N 8) - 1
  · obtain ⟨i, hi, rfl⟩ := em_inB2 rfl (show em_al I N 8 ≤ 40 by omega) hx
    have cc := s_placeInOrder_ok (Γ := Γ) (n := n) (m := m) (dl := dl) (J := J) (rv := rv) H.hB hA.n1 hA.n2 hC.wr (by rw [hal]; exact hi)
    rw [eo_main hA hC hi] at cc
    generalize em_beg I N = B at cc
    generalize em_foe I N = F at cc
    generalize em_fk I N = D at cc
    obtain ⟨I', r, hs⟩ := s_mOrder_ok (Γ := Γ) (n := n) (m := m) (dl := dl) (I := va_up (va_up (va_up I 18 D) 19 F) 20 B) (J := J) (rv := rv) H.hB (i := i) (N := N) hA.m1 hA.n2 hA.kd56 hi
    have e : em_mOr (va_up (va_up (va_up I 18 D) 19 F) 20 B) N i = em_mOr I N i := rfl
    rw [e] at r
    refine ep_mk (by decide) (by decide) (d_order H.hB cc) r ?_
    have keep : ∀ k, ed_b k = true → I' k = va_up (va_up (va_up I 18 D) 19 F) 20 B k := fun k hk => by
      have z := ed_ne hk
      obtain ⟨-, -, -, -, -, -, -, -, -, -, -, -, z68, z69, z70⟩ := z
      exact hs k z68 z69 z70
    have h53 : I' 53 = I 53 := hs 53 (by decide) (by decide) (by decide)
    have bk : em_gB n m dl (va_up (va_up (va_up I 18 D) 19 F) 20 B) rv c lam mu := H.B.frame (by repeat (first | exact ek_r _ | refine ek_s ?_ rfl)) rfl
    refine em_Iv.inv (N := N) (G := G) (t := t) (c := c) (lam := lam) (mu := mu) (T := T) (S := S) (h := h) (em_Iv.mk (hB := H.hB) (A := ?_) (B := bk.frame (fun k hk => hs k (by unfold ek_d at hk; omega) (by unfold ek_d at hk; omega) (by unfold ek_d at hk; omega)) (by rw [h53]; rfl)) (C := ?_) (D := ?_) (E := ?_) (F := ?_))
    · exact em_gA.same (I := va_up (va_up (va_up I 18 D) 19 F) 20 B) hA keep (hs 1 (by decide) (by decide) (by decide)) (hs 53 (by decide) (by decide) (by decide))
    · exact em_gC.cong (I := va_up (va_up (va_up I 18 D) 19 F) 20 B) hC keep
    · exact em_gD.cong (I := va_up (va_up (va_up I 18 D) 19 F) 20 B) H.D keep (by rw [h53]; rfl) (by rw [h53]; rfl)
    · exact em_gE.cong (I := va_up (va_up (va_up I 18 D) 19 F) 20 B) H.E keep (by rw [h53]; rfl)
    · exact em_gF.cong (I := va_up (va_up (va_up I 18 D) 19 F) 20 B) H.F keep (by rw [h53]; rfl) (by rw [h53]; rfl) rfl
  · have cc := s_placeInOrder_no (Γ := Γ) (n := n) (m := m) (dl := dl) (J := J) (rv := rv) H.hB (x := x) hA.n1 hA.n2 hC.wr (by rw [hal]; exact hx)
    generalize em_fk I N = D at cc
    have r := s_mOrder_no (Γ := Γ) (n := n) (m := m) (dl := dl) (I := va_up I 18 D) (J := J) (rv := rv) H.hB (x := x) (N := N) hA.m1 hA.n2 hA.kd56 hx
    refine ep_mk (by decide) (by decide) (d_order H.hB cc) r ?_
    exact em_Iv.inv (em_Iv.mk (hB := H.hB) (A := hA) (B := H.B.frame (by repeat (first | exact ek_r _ | refine ek_s ?_ rfl)) rfl) (C := hC) (D := H.D) (E := H.E) (F := H.F))
end PairsI
