/-! THE HERD -/
/-- what was told of beasts that are gone, from place i on, d of them, as known in q: a row of days -/
def em_rec (I : Nat → Nat → Int32) (q : Int32) : Nat → Nat → (Nat → Int32) → Nat → Int32
  | 0, _, g => g
  | d + 1, i, g => if q < I 9 i then g else em_rec I q d (i + 1) (va_up g (I 7 i).toNatClampNeg (I 8 i))
abbrev em_std (I : Nat → Nat → Int32) (g : Nat → Int32) (j : Nat) (d q : Int32) : Prop := (I 6 j ≤ q ∧ I 5 j ≤ d) ∧ (g j = -1 ∨ d < g j)
section Herd
variable {Γ : em_Cx} {n m : Nat} {dl : Nat → Nat} {I : Nat → Nat → Int32} {J : Nat → Nat → Int64} {rv : em_Rv}
theorem s_today (hB : 85 ≤ n) : em_MC Γ 0 mX3_today [.ref 1] (em_hm n m dl I J rv) (some (.int (I 1 10))) (em_hm n m dl I J rv) := by
  refine em_MC_of (Nat.le_refl _) (Nat.le_refl _) (by decide +kernel) rfl (Nat.le_of_ble_eq_true rfl) ?_
  (repeat (refine em_pure hB kX3_today rfl ?_))
  exact em_iret kX3_today rfl rfl rfl rfl
theorem s_size (hB : 85 ≤ n) : em_MC Γ 0 mX3_size [.ref 1] (em_hm n m dl I J rv) (some (.int (I 1 2))) (em_hm n m dl I J rv) := by
  refine em_MC_of (Nat.le_refl _) (Nat.le_refl _) (by decide +kernel) rfl (Nat.le_of_ble_eq_true rfl) ?_
  (repeat (refine em_pure hB kX3_size rfl ?_))
  exact em_iret kX3_size rfl rfl rfl rfl
theorem s_nextDay (hB : 85 ≤ n) : em_MC Γ 0 mX3_nextDay [.ref 1] (em_hm n m dl I J rv) none (em_sI (em_hm n m dl I J rv) 1 (va_up (I 1) 10 (I 1 10 + 1))) := by
  refine em_MC_of (Nat.le_refl _) (Nat.le_refl _) (by decide +kernel) rfl (Nat.le_of_ble_eq_true rfl) ?_
  (repeat (refine em_pure hB kX3_nextDay rfl ?_))
  refine em_pi hB kX3_nextDay rfl rfl rfl rfl rfl rfl rfl ?_
  (repeat (refine em_pure hB kX3_nextDay rfl ?_))
  exact em_vret kX3_nextDay rfl rfl rfl
theorem s_isBeast (hB : 85 ≤ n) (b : Int32) : em_MC Γ 1 mX3_isBeast [.ref 1, .int b] (em_hm n m dl I J rv) (some (.int (if 0 ≤ b ∧ b ≤ I 1 2 - 1 then 1 else 0))) (em_hm n m dl I J rv) := by
  refine em_MC_of (Nat.le_refl _) (Nat.le_refl _) (by decide +kernel) rfl (Nat.le_of_ble_eq_true rfl) ?_
  (repeat (refine em_pure hB kX3_isBeast rfl ?_))
  refine em_callS (μ' := mX7_within) kX3_isBeast rfl lX3_55 tX7_within (s_within Γ _ b 0 (I 1 2 - 1)) rfl rfl (by decide) (Nat.le_of_ble_eq_true rfl) (Nat.le_refl _) (Nat.le_refl _) ?_
  (repeat (refine em_pure hB kX3_isBeast rfl ?_))
  exact em_iret kX3_isBeast rfl rfl em_nb rfl
theorem s_isDay (hB : 85 ≤ n) (b : Int32) : em_MC Γ 1 mX3_isDay [.ref 1, .int b] (em_hm n m dl I J rv) (some (.int (if 0 ≤ b ∧ b ≤ I 1 10 then 1 else 0))) (em_hm n m dl I J rv) := by
  refine em_MC_of (Nat.le_refl _) (Nat.le_refl _) (by decide +kernel) rfl (Nat.le_of_ble_eq_true rfl) ?_
  (repeat (refine em_pure hB kX3_isDay rfl ?_))
  refine em_callS (μ' := mX7_within) kX3_isDay rfl lX3_55 tX7_within (s_within Γ _ b 0 (I 1 10)) rfl rfl (by decide) (Nat.le_of_ble_eq_true rfl) (Nat.le_refl _) (Nat.le_refl _) ?_
  (repeat (refine em_pure hB kX3_isDay rfl ?_))
  exact em_iret kX3_isDay rfl rfl em_nb rfl
theorem em_inB {b : Int32} {j N : Nat} {x : Int32} (hx : x = nI N) (hN : N < 100000) (hb : b = nI j) (hj : j < N) : 0 ≤ b ∧ b ≤ x - 1 := by
  subst hb; subst hx
  obtain ⟨k, rfl⟩ : ∃ k, N = k + 1 := ⟨N - 1, by omega⟩
  rw [nI_pred]
  exact ⟨nI_pos' (by omega), nI_le (by omega) (by omega)⟩
theorem em_inB2 {b x : Int32} {N : Nat} (hx : x = nI N) (hN : N ≤ 40) (h : 0 ≤ b ∧ b ≤ x - 1) : ∃ j, j < N ∧ b = nI j := by
  subst hx
  cases N with
  | zero =>
    have h1 : (0 : Int32) ≤ nI 0 - 1 := Int32.le_trans h.1 h.2
    exact absurd h1 (by decide)
  | succ k =>
    rw [nI_pred] at h
    obtain ⟨j, hj, e⟩ := nI_of2 (M := nI k) (nI_toInt (by omega)) (Int32.not_lt.mpr h.1) h.2
    exact ⟨j, by omega, e⟩
theorem s_kindOfBeast (hB : 85 ≤ n) {b : Int32} {j N : Nat} (hx : I 1 2 = nI N) (hN : N ≤ 40) (hb : b = nI j) (hj : j < N) : em_MC Γ 2 mX3_kindOfBeast [.ref 1, .int b] (em_hm n m dl I J rv) (some (.int (I 4 j))) (em_hm n m dl I J rv) := by
  refine em_MC_of (Nat.le_refl _) (Nat.le_refl _) (by decide +kernel) rfl (Nat.le_of_ble_eq_true rfl) ?_
  (repeat (refine em_pure hB kX3_kindOfBeast rfl ?_))
  refine em_callV (μ' := mX3_isBeast) (c1 := 3) kX3_kindOfBeast rfl lX3_59 tX3_isBeast (by decide) rfl (em_ltB hB rfl) (s_isBeast hB b) rfl rfl (by decide) (Nat.le_of_ble_eq_true rfl) (Nat.le_refl _) (Nat.le_refl _) ?_
  refine em_bz kX3_kindOfBeast rfl (fun _ => ?_) (fun h => absurd (em_inB hx (by omega) hb hj) h)
  (repeat (refine em_pure hB kX3_kindOfBeast rfl ?_))
  refine em_ia (L := 40) hB kX3_kindOfBeast rfl rfl rfl rfl hb (by omega) rfl ?_
  (repeat (refine em_pure hB kX3_kindOfBeast rfl ?_))
  exact em_iret kX3_kindOfBeast rfl rfl rfl rfl
theorem em_inK {b : Int32} {j : Nat} (hb : b = nI j) (hj : j < 8) : 0 ≤ b ∧ b ≤ 7 := by
  subst hb
  exact ⟨nI_pos' (by omega), nI_le (b := 7) (by omega) (by omega)⟩
theorem s_weightOfKind (hB : 85 ≤ n) {b : Int32} {j : Nat} (hb : b = nI j) (hj : j < 8) : em_MC Γ 2 mX3_weightOfKind [.ref 1, .int b] (em_hm n m dl I J rv) (some (.int (I 3 j))) (em_hm n m dl I J rv) := by
  refine em_MC_of (Nat.le_refl _) (Nat.le_refl _) (by decide +kernel) rfl (Nat.le_of_ble_eq_true rfl) ?_
  (repeat (refine em_pure hB kX3_weightOfKind rfl ?_))
  refine em_callS (μ' := mX7_isKind) kX3_weightOfKind rfl lX3_63 tX7_isKind (s_isKind Γ _ b) rfl rfl (by decide) (Nat.le_of_ble_eq_true rfl) (Nat.le_refl _) (Nat.le_refl _) ?_
  refine em_bz kX3_weightOfKind rfl (fun _ => ?_) (fun h => absurd (em_inK hb hj) h)
  (repeat (refine em_pure hB kX3_weightOfKind rfl ?_))
  refine em_ia (L := 8) hB kX3_weightOfKind rfl rfl rfl rfl hb hj rfl ?_
  (repeat (refine em_pure hB kX3_weightOfKind rfl ?_))
  exact em_iret kX3_weightOfKind rfl rfl rfl rfl
theorem s_setKind (hB : 85 ≤ n) {b f w : Int32} {j : Nat} (hb : b = nI j) (hj : j < 8) : em_MC Γ 2 mX3_setKind [.ref 1, .int b, .int f, .int w] (em_hm n m dl I J rv) none (em_sI (em_sI (em_hm n m dl I J rv) 2 (va_up (I 2) j f)) 3 (va_up (I 3) j w)) := by
  refine em_MC_of (Nat.le_refl _) (Nat.le_refl _) (by decide +kernel) rfl (Nat.le_of_ble_eq_true rfl) ?_
  (repeat (refine em_pure hB kX3_setKind rfl ?_))
  refine em_callS (μ' := mX7_isKind) kX3_setKind rfl lX3_63 tX7_isKind (s_isKind Γ _ b) rfl rfl (by decide) (Nat.le_of_ble_eq_true rfl) (Nat.le_refl _) (Nat.le_refl _) ?_
  refine em_bz kX3_setKind rfl (fun _ => ?_) (fun h => absurd (em_inK hb hj) h)
  (repeat (refine em_pure hB kX3_setKind rfl ?_))
  refine em_iw (L := 8) hB kX3_setKind rfl rfl rfl rfl hb hj rfl ?_
  (repeat (refine em_pure hB kX3_setKind rfl ?_))
  refine em_iw (L := 8) hB kX3_setKind rfl rfl rfl rfl hb hj rfl ?_
  (repeat (refine em_pure hB kX3_setKind rfl ?_))
  exact em_vret kX3_setKind rfl rfl rfl
theorem s_tellBeast_no (hB : 85 ≤ n) {k f : Int32} (h : ¬ ((0 ≤ k ∧ k ≤ 7) ∧ (0 ≤ f ∧ f ≤ I 1 10) ∧ I 1 2 < 40)) : em_MC Γ 2 mX3_tellBeast [.ref 1, .int k, .int f] (em_hm n m dl I J rv) (some (.int (-1))) (em_hm n m dl I J rv) := by
  refine em_MC_of (Nat.le_refl _) (Nat.le_refl _) (by decide +kernel) rfl (Nat.le_of_ble_eq_true rfl) ?_
  (repeat (refine em_pure hB kX3_tellBeast rfl ?_))
  refine em_callS (μ' := mX7_isKind) kX3_tellBeast rfl lX3_63 tX7_isKind (s_isKind Γ _ k) rfl rfl (by decide) (Nat.le_of_ble_eq_true rfl) (Nat.le_refl _) (Nat.le_refl _) ?_
  refine em_bz kX3_tellBeast rfl (fun h1 => ?_) (fun h1 => ?_)
  · (repeat (refine em_pure hB kX3_tellBeast rfl ?_))
    refine em_callV (μ' := mX3_isDay) (c1 := 3) kX3_tellBeast rfl lX3_66 tX3_isDay (by decide) rfl (em_ltB hB rfl) (s_isDay hB f) rfl rfl (by decide) (Nat.le_of_ble_eq_true rfl) (Nat.le_refl _) (Nat.le_refl _) ?_
    refine em_bz kX3_tellBeast rfl (fun h2 => ?_) (fun h2 => ?_)
    · (repeat (refine em_pure hB kX3_tellBeast rfl ?_))
      refine em_branch kX3_tellBeast rfl (fun h3 => absurd ⟨h1, h2, h3⟩ h) (fun h3 => ?_)
      (repeat (refine em_pure hB kX3_tellBeast rfl ?_))
      exact em_iret kX3_tellBeast rfl rfl rfl rfl
    · (repeat (refine em_pure hB kX3_tellBeast rfl ?_))
      exact em_iret kX3_tellBeast rfl rfl rfl rfl
  · (repeat (refine em_pure hB kX3_tellBeast rfl ?_))
    exact em_iret kX3_tellBeast rfl rfl rfl rfl
theorem s_tellBeast_ok (hB : 85 ≤ n) {k f : Int32} {N : Nat} (hx : I 1 2 = nI N) (hN : N < 40) (h1 : 0 ≤ k ∧ k ≤ 7) (h2 : 0 ≤ f ∧ f ≤ I 1 10) : em_MC Γ 2 mX3_tellBeast [.ref 1, .int k, .int f] (em_hm n m dl I J rv) (some (.int (nI N))) (em_sI (em_sI (em_sI (em_sI (em_hm n m dl I J rv) 4 (va_up (I 4) N k)) 5 (va_up (I 5) N f)) 6 (va_up (I 6) N (I 1 10))) 1 (va_up (I 1) 2 (I 1 2 + 1))) := by
  refine em_MC_of (Nat.le_refl _) (Nat.le_refl _) (by decide +kernel) rfl (Nat.le_of_ble_eq_true rfl) ?_
  (repeat (refine em_pure hB kX3_tellBeast rfl ?_))
  refine em_callS (μ' := mX7_isKind) kX3_tellBeast rfl lX3_63 tX7_isKind (s_isKind Γ _ k) rfl rfl (by decide) (Nat.le_of_ble_eq_true rfl) (Nat.le_refl _) (Nat.le_refl _) ?_
  refine em_bz kX3_tellBeast rfl (fun _ => ?_) (fun h => absurd h1 h)
  (repeat (refine em_pure hB kX3_tellBeast rfl ?_))
  refine em_callV (μ' := mX3_isDay) (c1 := 3) kX3_tellBeast rfl lX3_66 tX3_isDay (by decide) rfl (em_ltB hB rfl) (s_isDay hB f) rfl rfl (by decide) (Nat.le_of_ble_eq_true rfl) (Nat.le_refl _) (Nat.le_refl _) ?_
  refine em_bz kX3_tellBeast rfl (fun _ => ?_) (fun h => absurd h2 h)
  (repeat (refine em_pure hB kX3_tellBeast rfl ?_))
  refine em_branch kX3_tellBeast rfl (fun _ => ?_) (fun h => absurd (by rw [show em_I (em_hm n m dl I J rv) 1 2 = nI N from hx]; exact nI_lt (b := 40) hN (by omega)) h)
  (repeat (refine em_pure hB kX3_tellBeast rfl ?_))
  refine em_iw (L := 40) hB kX3_tellBeast rfl rfl rfl rfl hx hN rfl ?_
  (repeat (refine em_pure hB kX3_tellBeast rfl ?_))
  refine em_iw (L := 40) hB kX3_tellBeast rfl rfl rfl rfl hx hN rfl ?_
  (repeat (refine em_pure hB kX3_tellBeast rfl ?_))
  refine em_iw (L := 40) hB kX3_tellBeast rfl rfl rfl rfl hx hN rfl ?_
  (repeat (refine em_pure hB kX3_tellBeast rfl ?_))
  refine em_pi hB kX3_tellBeast rfl rfl rfl rfl rfl rfl rfl ?_
  (repeat (refine em_pure hB kX3_tellBeast rfl ?_))
  exact em_iret kX3_tellBeast rfl rfl rfl (Prod.ext (congrArg (fun z => some (Value.int z)) (show nI N = I 1 2 + 1 - 1 by rw [hx, nI_1, nI_pred])) rfl)
theorem s_recall (hB : 85 ≤ n) {q : Int32} {G : Nat} (hx : I 1 6 = nI G) (hG : G ≤ 200) (hb : ∀ i, i < G → ∃ b, b < 40 ∧ I 7 i = nI b) : em_MC Γ 1 mX3_recall [.ref 1, .int q] (em_hm n m dl I J rv) none (em_sI (em_hm n m dl I J rv) 10 (em_rec I q G 0 (em_fil (I 10) (-1) 40))) := by
  refine em_MC_of (Nat.le_refl _) (Nat.le_refl _) (by decide +kernel) rfl (Nat.le_of_ble_eq_true rfl) ?_
  (repeat (refine em_pure hB kX3_recall rfl ?_))
  refine em_callS (μ' := mJ7_fill_53178) kX3_recall rfl lX3_42 tJ7_fill_53178 (s_fillI Γ _ (-1) (L := 40) (k := 10) rfl (em_ltB hB rfl) rfl (by decide)) rfl rfl (by decide) (Nat.le_of_ble_eq_true rfl) (Nat.le_refl _) (Nat.le_refl _) ?_
  have loop : ∀ d j g, j + d = G → em_EW Γ 1 mX3_recall (em_hm n m dl I J rv) (none, em_sI (em_hm n m dl I J rv) 10 (em_rec I q d j g)) 10 [(0, .ref 1), (1, .int q), (2, .int (nI j))] [] (em_sI (em_hm n m dl I J rv) 10 g) := by
    intro d
    induction d with
    | zero =>
      intro j g hj
      obtain rfl : j = G := by omega
      (repeat (refine em_pure hB kX3_recall rfl ?_))
      refine em_branch kX3_recall rfl (fun _ => ?_) (fun h1 => absurd (by show I 1 6 ≤ nI j; rw [hx]; exact nI_le (Nat.le_refl j) (by omega)) h1)
      (repeat (refine em_pure hB kX3_recall rfl ?_))
      exact em_vret kX3_recall rfl rfl rfl
    | succ d ih =>
      intro j g hj
      (repeat (refine em_pure hB kX3_recall rfl ?_))
      refine em_branch kX3_recall rfl (fun h1 => absurd h1 (by show ¬ I 1 6 ≤ nI j; rw [hx]; exact nI_ge (by omega) (by omega))) (fun _ => ?_)
      (repeat (refine em_pure hB kX3_recall rfl ?_))
      refine em_ia (L := 200) hB kX3_recall rfl rfl rfl rfl rfl (by omega) rfl ?_
      (repeat (refine em_pure hB kX3_recall rfl ?_))
      refine em_branch kX3_recall rfl (fun (h2 : q < I 9 j) => ?_) (fun (h2 : ¬ q < I 9 j) => ?_)
      · (repeat (refine em_pure hB kX3_recall rfl ?_))
        refine em_vret kX3_recall rfl rfl ?_
        rw [em_rec, if_pos h2]
      · (repeat (refine em_pure hB kX3_recall rfl ?_))
        refine em_ia (L := 200) hB kX3_recall rfl rfl rfl rfl rfl (by omega) rfl ?_
        (repeat (refine em_pure hB kX3_recall rfl ?_))
        refine em_ia (L := 200) hB kX3_recall rfl rfl rfl rfl rfl (by omega) rfl ?_
        (repeat (refine em_pure hB kX3_recall rfl ?_))
        obtain ⟨b, hb40, hbe⟩ := hb j (by omega)
        refine em_iw (L := 40) hB kX3_recall rfl rfl rfl rfl hbe hb40 rfl ?_
        rw [em_sI2, em_I1]
        (repeat (refine em_pureT 10 hB kX3_recall rfl rfl ?_))
        refine em_loc (lc' := [(0, .ref 1), (1, .int q), (2, .int (nI j + 1))]) rfl ?_
        rw [nI_1]
        have h3 := ih (j + 1) (va_up g b (I 8 j)) (by omega)
        have e3 : em_rec I q (d + 1) j g = em_rec I q d (j + 1) (va_up g b (I 8 j)) := by
          rw [em_rec, if_neg h2, hbe, nI_clamp (by omega)]
        rw [e3]
        exact h3
  (repeat (refine em_pureT 10 hB kX3_recall rfl rfl ?_))
  refine em_loc (lc' := [(0, .ref 1), (1, .int q), (2, .int (nI 0))]) rfl ?_
  exact loop G 0 _ (by omega)
theorem s_stands (hB : 85 ≤ n) {b d q : Int32} {j : Nat} (hb : b = nI j) (hj : j < 40) : em_MC Γ 0 mX3_stands [.ref 1, .int b, .int d, .int q] (em_hm n m dl I J rv) (some (.int (if em_std I (I 10) j d q then 1 else 0))) (em_hm n m dl I J rv) := by
  refine em_MC_of (Nat.le_refl _) (Nat.le_refl _) (by decide +kernel) rfl (Nat.le_of_ble_eq_true rfl) ?_
  (repeat (refine em_pure hB kX3_stands rfl ?_))
  refine em_ia (L := 40) hB kX3_stands rfl rfl rfl rfl hb hj rfl ?_
  (repeat (refine em_pure hB kX3_stands rfl ?_))
  refine em_branch kX3_stands rfl (fun h1 => ?_) (fun h1 => ?_)
  · (repeat (refine em_pure hB kX3_stands rfl ?_))
    refine em_branch kX3_stands rfl (fun _ => ?_) (fun h => absurd rfl h)
    (repeat (refine em_pure hB kX3_stands rfl ?_))
    exact em_iret kX3_stands rfl rfl rfl (by rw [if_neg (fun z => absurd h1 (Int32.not_lt.mpr z.1.1))])
  · (repeat (refine em_pure hB kX3_stands rfl ?_))
    refine em_ia (L := 40) hB kX3_stands rfl rfl rfl rfl hb hj rfl ?_
    (repeat (refine em_pure hB kX3_stands rfl ?_))
    refine em_branch kX3_stands rfl (fun h2 => ?_) (fun h2 => ?_)
    · (repeat (refine em_pure hB kX3_stands rfl ?_))
      refine em_branch kX3_stands rfl (fun _ => ?_) (fun h => absurd rfl h)
      (repeat (refine em_pure hB kX3_stands rfl ?_))
      exact em_iret kX3_stands rfl rfl rfl (by rw [if_neg (fun z => absurd h2 (Int32.not_lt.mpr z.1.2))])
    · (repeat (refine em_pure hB kX3_stands rfl ?_))
      refine em_branch kX3_stands rfl (fun h => absurd h (by decide)) (fun _ => ?_)
      (repeat (refine em_pure hB kX3_stands rfl ?_))
      refine em_ia (L := 40) hB kX3_stands rfl rfl rfl rfl hb hj rfl ?_
      (repeat (refine em_pure hB kX3_stands rfl ?_))
      refine em_branch kX3_stands rfl (fun h3 => ?_) (fun h3 => ?_)
      · (repeat (refine em_pure hB kX3_stands rfl ?_))
        exact em_iret kX3_stands rfl rfl rfl (by rw [if_pos ⟨⟨Int32.not_lt.mp h1, Int32.not_lt.mp h2⟩, Or.inl h3⟩])
      · (repeat (refine em_pure hB kX3_stands rfl ?_))
        refine em_ia (L := 40) hB kX3_stands rfl rfl rfl rfl hb hj rfl ?_
        (repeat (refine em_pure hB kX3_stands rfl ?_))
        refine em_branch kX3_stands rfl (fun h4 => ?_) (fun h4 => ?_)
        · (repeat (refine em_pure hB kX3_stands rfl ?_))
          exact em_iret kX3_stands rfl rfl rfl (by rw [if_neg (fun z => z.2.elim h3 (fun z => absurd h4 (Int32.not_le.mpr z)))])
        · (repeat (refine em_pure hB kX3_stands rfl ?_))
          exact em_iret kX3_stands rfl rfl rfl (by rw [if_pos ⟨⟨Int32.not_lt.mp h1, Int32.not_lt.mp h2⟩, Or.inr (Int32.not_le.mp h4)⟩])
theorem s_tellGone_no (hB : 85 ≤ n) {b f : Int32} {N G : Nat} (hx : I 1 2 = nI N) (hN : N ≤ 40) (hg : I 1 6 = nI G) (hG : G ≤ 200) (h : ¬ ((0 ≤ b ∧ b ≤ I 1 2 - 1) ∧ I 1 6 < 200 ∧ (f = -1 ∨ (I 5 b.toNatClampNeg ≤ f ∧ f ≤ I 1 10)))) : em_MC Γ 2 mX3_tellGone [.ref 1, .int b, .int f] (em_hm n m dl I J rv) (some (.int 0)) (em_hm n m dl I J rv) := by
  refine em_MC_of (Nat.le_refl _) (Nat.le_refl _) (by decide +kernel) rfl (Nat.le_of_ble_eq_true rfl) ?_
  (repeat (refine em_pure hB kX3_tellGone rfl ?_))
  refine em_callV (μ' := mX3_isBeast) (c1 := 3) kX3_tellGone rfl lX3_59 tX3_isBeast (by decide) rfl (em_ltB hB rfl) (s_isBeast hB b) rfl rfl (by decide) (Nat.le_of_ble_eq_true rfl) (Nat.le_refl _) (Nat.le_refl _) ?_
  refine em_bz kX3_tellGone rfl (fun h1 => ?_) (fun h1 => ?_)
  · (repeat (refine em_pure hB kX3_tellGone rfl ?_))
    refine em_branch kX3_tellGone rfl (fun (h2 : I 1 6 < 200) => ?_) (fun h2 => ?_)
    · (repeat (refine em_pure hB kX3_tellGone rfl ?_))
      obtain ⟨j, hj, hb⟩ := em_inB2 hx hN h1
      refine em_branch kX3_tellGone rfl (fun (h3 : f = -1) => absurd ⟨h1, h2, Or.inl h3⟩ h) (fun h3 => ?_)
      (repeat (refine em_pure hB kX3_tellGone rfl ?_))
      refine em_ia (L := 40) hB kX3_tellGone rfl rfl rfl rfl hb (by omega) rfl ?_
      (repeat (refine em_pure hB kX3_tellGone rfl ?_))
      refine em_callS (μ' := mX7_within) kX3_tellGone rfl lX3_55 tX7_within (s_within Γ _ f (I 5 j) (I 1 10)) rfl rfl (by decide) (Nat.le_of_ble_eq_true rfl) (Nat.le_refl _) (Nat.le_refl _) ?_
      refine em_bn kX3_tellGone rfl (fun h4 => ?_) (fun h4 => ?_)
      · refine absurd ⟨h1, h2, Or.inr ?_⟩ h
        rw [hb, nI_clamp (by omega)]
        exact h4
      · (repeat (refine em_pure hB kX3_tellGone rfl ?_))
        exact em_iret kX3_tellGone rfl rfl rfl rfl
    · (repeat (refine em_pure hB kX3_tellGone rfl ?_))
      exact em_iret kX3_tellGone rfl rfl rfl rfl
  · (repeat (refine em_pure hB kX3_tellGone rfl ?_))
    exact em_iret kX3_tellGone rfl rfl rfl rfl
theorem s_tellGone_ok (hB : 85 ≤ n) {b f : Int32} {N G j : Nat} (hx : I 1 2 = nI N) (hN : N ≤ 40) (hg : I 1 6 = nI G) (hG : G < 200) (hb : b = nI j) (hj : j < N) (hf : f = -1 ∨ (I 5 j ≤ f ∧ f ≤ I 1 10)) : em_MC Γ 2 mX3_tellGone [.ref 1, .int b, .int f] (em_hm n m dl I J rv) (some (.int 1)) (em_sI (em_sI (em_sI (em_sI (em_hm n m dl I J rv) 7 (va_up (I 7) G b)) 8 (va_up (I 8) G f)) 9 (va_up (I 9) G (I 1 10))) 1 (va_up (I 1) 6 (I 1 6 + 1))) := by
  refine em_MC_of (Nat.le_refl _) (Nat.le_refl _) (by decide +kernel) rfl (Nat.le_of_ble_eq_true rfl) ?_
  (repeat (refine em_pure hB kX3_tellGone rfl ?_))
  refine em_callV (μ' := mX3_isBeast) (c1 := 3) kX3_tellGone rfl lX3_59 tX3_isBeast (by decide) rfl (em_ltB hB rfl) (s_isBeast hB b) rfl rfl (by decide) (Nat.le_of_ble_eq_true rfl) (Nat.le_refl _) (Nat.le_refl _) ?_
  refine em_bz kX3_tellGone rfl (fun h1 => ?_) (fun h1 => absurd (em_inB hx (by omega) hb hj) h1)
  (repeat (refine em_pure hB kX3_tellGone rfl ?_))
  refine em_branch kX3_tellGone rfl (fun _ => ?_) (fun (h : ¬ I 1 6 < 200) => absurd (by rw [hg]; exact nI_lt (b := 200) hG (by omega)) h)
  have tail : em_EW Γ 2 mX3_tellGone (em_hm n m dl I J rv) (some (.int 1), em_sI (em_sI (em_sI (em_sI (em_hm n m dl I J rv) 7 (va_up (I 7) G b)) 8 (va_up (I 8) G f)) 9 (va_up (I 9) G (I 1 10))) 1 (va_up (I 1) 6 (I 1 6 + 1))) 44 [(0, .ref 1), (1, .int b), (2, .int f)] [] (em_hm n m dl I J rv) := by
    (repeat (refine em_pure hB kX3_tellGone rfl ?_))
    refine em_iw (L := 200) hB kX3_tellGone rfl rfl rfl rfl hg hG rfl ?_
    (repeat (refine em_pure hB kX3_tellGone rfl ?_))
    refine em_iw (L := 200) hB kX3_tellGone rfl rfl rfl rfl hg hG rfl ?_
    (repeat (refine em_pure hB kX3_tellGone rfl ?_))
    refine em_iw (L := 200) hB kX3_tellGone rfl rfl rfl rfl hg hG rfl ?_
    (repeat (refine em_pure hB kX3_tellGone rfl ?_))
    refine em_pi hB kX3_tellGone rfl rfl rfl rfl rfl rfl rfl ?_
    (repeat (refine em_pure hB kX3_tellGone rfl ?_))
    exact em_iret kX3_tellGone rfl rfl rfl rfl
  (repeat (refine em_pure hB kX3_tellGone rfl ?_))
  refine em_branch kX3_tellGone rfl (fun (h3 : f = -1) => tail) (fun h3 => ?_)
  (repeat (refine em_pure hB kX3_tellGone rfl ?_))
  refine em_ia (L := 40) hB kX3_tellGone rfl rfl rfl rfl hb (by omega) rfl ?_
  (repeat (refine em_pure hB kX3_tellGone rfl ?_))
  refine em_callS (μ' := mX7_within) kX3_tellGone rfl lX3_55 tX7_within (s_within Γ _ f (I 5 j) (I 1 10)) rfl rfl (by decide) (Nat.le_of_ble_eq_true rfl) (Nat.le_refl _) (Nat.le_refl _) ?_
  refine em_bn kX3_tellGone rfl (fun _ => tail) (fun h4 => absurd (hf.resolve_left h3) h4)
theorem s_isHere_no (hB : 85 ≤ n) {b d q : Int32} (h : ¬ ((0 ≤ b ∧ b ≤ I 1 2 - 1) ∧ (0 ≤ d ∧ d ≤ I 1 10) ∧ (0 ≤ q ∧ q ≤ I 1 10))) : em_MC Γ 3 mX3_isHere [.ref 1, .int b, .int d, .int q] (em_hm n m dl I J rv) (some (.int 0)) (em_hm n m dl I J rv) := by
  refine em_MC_of (Nat.le_refl _) (Nat.le_refl _) (by decide +kernel) rfl (Nat.le_of_ble_eq_true rfl) ?_
  (repeat (refine em_pure hB kX3_isHere rfl ?_))
  refine em_callV (μ' := mX3_isBeast) (c1 := 3) kX3_isHere rfl lX3_59 tX3_isBeast (by decide) rfl (em_ltB hB rfl) (s_isBeast hB b) rfl rfl (by decide) (Nat.le_of_ble_eq_true rfl) (Nat.le_refl _) (Nat.le_refl _) ?_
  refine em_bz kX3_isHere rfl (fun h1 => ?_) (fun h1 => ?_)
  · (repeat (refine em_pure hB kX3_isHere rfl ?_))
    refine em_callV (μ' := mX3_isDay) (c1 := 3) kX3_isHere rfl lX3_66 tX3_isDay (by decide) rfl (em_ltB hB rfl) (s_isDay hB d) rfl rfl (by decide) (Nat.le_of_ble_eq_true rfl) (Nat.le_refl _) (Nat.le_refl _) ?_
    refine em_bz kX3_isHere rfl (fun h2 => ?_) (fun h2 => ?_)
    · (repeat (refine em_pure hB kX3_isHere rfl ?_))
      refine em_callV (μ' := mX3_isDay) (c1 := 3) kX3_isHere rfl lX3_66 tX3_isDay (by decide) rfl (em_ltB hB rfl) (s_isDay hB q) rfl rfl (by decide) (Nat.le_of_ble_eq_true rfl) (Nat.le_refl _) (Nat.le_refl _) ?_
      refine em_bn kX3_isHere rfl (fun h3 => absurd ⟨h1, h2, h3⟩ h) (fun h3 => ?_)
      (repeat (refine em_pure hB kX3_isHere rfl ?_))
      exact em_iret kX3_isHere rfl rfl rfl rfl
    · (repeat (refine em_pure hB kX3_isHere rfl ?_))
      exact em_iret kX3_isHere rfl rfl rfl rfl
  · (repeat (refine em_pure hB kX3_isHere rfl ?_))
    exact em_iret kX3_isHere rfl rfl rfl rfl
/-- the days from which the beasts are gone, as known in q -/
abbrev em_gf (I : Nat → Nat → Int32) (G : Nat) (q : Int32) : Nat → Int32 := em_rec I q G 0 (em_fil (I 10) (-1) 40)
theorem s_isHere_ok (hB : 85 ≤ n) {b d q : Int32} {N G j : Nat} (hx : I 1 2 = nI N) (hN : N ≤ 40) (hg : I 1 6 = nI G) (hG : G ≤ 200) (hgb : ∀ i, i < G → ∃ b, b < 40 ∧ I 7 i = nI b) (hb : b = nI j) (hj : j < N) (h2 : 0 ≤ d ∧ d ≤ I 1 10) (h3 : 0 ≤ q ∧ q ≤ I 1 10) : em_MC Γ 3 mX3_isHere [.ref 1, .int b, .int d, .int q] (em_hm n m dl I J rv) (some (.int (if em_std I (em_gf I G q) j d q then 1 else 0))) (em_sI (em_hm n m dl I J rv) 10 (em_gf I G q)) := by
  refine em_MC_of (Nat.le_refl _) (Nat.le_refl _) (by decide +kernel) rfl (Nat.le_of_ble_eq_true rfl) ?_
  (repeat (refine em_pure hB kX3_isHere rfl ?_))
  refine em_callV (μ' := mX3_isBeast) (c1 := 3) kX3_isHere rfl lX3_59 tX3_isBeast (by decide) rfl (em_ltB hB rfl) (s_isBeast hB b) rfl rfl (by decide) (Nat.le_of_ble_eq_true rfl) (Nat.le_refl _) (Nat.le_refl _) ?_
  refine em_bz kX3_isHere rfl (fun _ => ?_) (fun h => absurd (em_inB hx (by omega) hb hj) h)
  (repeat (refine em_pure hB kX3_isHere rfl ?_))
  refine em_callV (μ' := mX3_isDay) (c1 := 3) kX3_isHere rfl lX3_66 tX3_isDay (by decide) rfl (em_ltB hB rfl) (s_isDay hB d) rfl rfl (by decide) (Nat.le_of_ble_eq_true rfl) (Nat.le_refl _) (Nat.le_refl _) ?_
  refine em_bz kX3_isHere rfl (fun _ => ?_) (fun h => absurd h2 h)
  (repeat (refine em_pure hB kX3_isHere rfl ?_))
  refine em_callV (μ' := mX3_isDay) (c1 := 3) kX3_isHere rfl lX3_66 tX3_isDay (by decide) rfl (em_ltB hB rfl) (s_isDay hB q) rfl rfl (by decide) (Nat.le_of_ble_eq_true rfl) (Nat.le_refl _) (Nat.le_refl _) ?_
  refine em_bn kX3_isHere rfl (fun _ => ?_) (fun h => absurd h3 h)
  (repeat (refine em_pure hB kX3_isHere rfl ?_))
  refine em_callV (μ' := mX3_recall) (c1 := 3) kX3_isHere rfl lX3_72 tX3_recall (by decide) rfl (em_ltB hB rfl) (s_recall hB (q := q) hg hG hgb) rfl rfl (by decide) (Nat.le_of_ble_eq_true rfl) (Nat.le_refl _) (Nat.le_refl _) ?_
  (repeat (refine em_pure hB kX3_isHere rfl ?_))
  refine em_callV (μ' := mX3_stands) (c1 := 3) kX3_isHere rfl lX3_76 tX3_stands (by decide) rfl (em_ltB hB rfl) (s_stands (I := va_up I 10 (em_gf I G q)) hB (d := d) (q := q) hb (by omega)) rfl rfl (by decide) (Nat.le_of_ble_eq_true rfl) (Nat.le_refl _) (Nat.le_refl _) ?_
  (repeat (refine em_pure hB kX3_isHere rfl ?_))
  exact em_iret kX3_isHere rfl rfl em_nb rfl
theorem s_rationOf_no (hB : 85 ≤ n) {d q : Int32} (h : ¬ ((0 ≤ d ∧ d ≤ I 1 10) ∧ (0 ≤ q ∧ q ≤ I 1 10))) : em_MC Γ 3 mX3_rationOf [.ref 1, .int d, .int q] (em_hm n m dl I J rv) (some (.int (-1))) (em_hm n m dl I J rv) := by
  refine em_MC_of (Nat.le_refl _) (Nat.le_refl _) (by decide +kernel) rfl (Nat.le_of_ble_eq_true rfl) ?_
  (repeat (refine em_pure hB kX3_rationOf rfl ?_))
  refine em_callV (μ' := mX3_isDay) (c1 := 3) kX3_rationOf rfl lX3_66 tX3_isDay (by decide) rfl (em_ltB hB rfl) (s_isDay hB d) rfl rfl (by decide) (Nat.le_of_ble_eq_true rfl) (Nat.le_refl _) (Nat.le_refl _) ?_
  refine em_bz kX3_rationOf rfl (fun h2 => ?_) (fun h2 => ?_)
  · (repeat (refine em_pure hB kX3_rationOf rfl ?_))
    refine em_callV (μ' := mX3_isDay) (c1 := 3) kX3_rationOf rfl lX3_66 tX3_isDay (by decide) rfl (em_ltB hB rfl) (s_isDay hB q) rfl rfl (by decide) (Nat.le_of_ble_eq_true rfl) (Nat.le_refl _) (Nat.le_refl _) ?_
    refine em_bn kX3_rationOf rfl (fun h3 => absurd ⟨h2, h3⟩ h) (fun h3 => ?_)
    (repeat (refine em_pure hB kX3_rationOf rfl ?_))
    exact em_iret kX3_rationOf rfl rfl rfl rfl
  · (repeat (refine em_pure hB kX3_rationOf rfl ?_))
    exact em_iret kX3_rationOf rfl rfl rfl rfl
/-- what the first N beasts eat on a day, as known in q -/
abbrev em_eat (I : Nat → Nat → Int32) (g : Nat → Int32) (d q : Int32) (N : Nat) : Int32 := bx_sum (fun b => if em_std I g b d q then I 2 (I 4 b).toNatClampNeg else 0) N
theorem s_rationOf_ok (hB : 85 ≤ n) {d q : Int32} {N G : Nat} (hx : I 1 2 = nI N) (hN : N ≤ 40) (hg : I 1 6 = nI G) (hG : G ≤ 200) (hgb : ∀ i, i < G → ∃ b, b < 40 ∧ I 7 i = nI b) (hk : ∀ b, b < N → ∃ k, k < 8 ∧ I 4 b = nI k) (h2 : 0 ≤ d ∧ d ≤ I 1 10) (h3 : 0 ≤ q ∧ q ≤ I 1 10) : em_MC Γ 3 mX3_rationOf [.ref 1, .int d, .int q] (em_hm n m dl I J rv) (some (.int (em_eat I (em_gf I G q) d q N))) (em_sI (em_hm n m dl I J rv) 10 (em_gf I G q)) := by
  refine em_MC_of (Nat.le_refl _) (Nat.le_refl _) (by decide +kernel) rfl (Nat.le_of_ble_eq_true rfl) ?_
  (repeat (refine em_pure hB kX3_rationOf rfl ?_))
  refine em_callV (μ' := mX3_isDay) (c1 := 3) kX3_rationOf rfl lX3_66 tX3_isDay (by decide) rfl (em_ltB hB rfl) (s_isDay hB d) rfl rfl (by decide) (Nat.le_of_ble_eq_true rfl) (Nat.le_refl _) (Nat.le_refl _) ?_
  refine em_bz kX3_rationOf rfl (fun _ => ?_) (fun h => absurd h2 h)
  (repeat (refine em_pure hB kX3_rationOf rfl ?_))
  refine em_callV (μ' := mX3_isDay) (c1 := 3) kX3_rationOf rfl lX3_66 tX3_isDay (by decide) rfl (em_ltB hB rfl) (s_isDay hB q) rfl rfl (by decide) (Nat.le_of_ble_eq_true rfl) (Nat.le_refl _) (Nat.le_refl _) ?_
  refine em_bn kX3_rationOf rfl (fun _ => ?_) (fun h => absurd h3 h)
  (repeat (refine em_pure hB kX3_rationOf rfl ?_))
  refine em_callV (μ' := mX3_recall) (c1 := 3) kX3_rationOf rfl lX3_72 tX3_recall (by decide) rfl (em_ltB hB rfl) (s_recall hB (q := q) hg hG hgb) rfl rfl (by decide) (Nat.le_of_ble_eq_true rfl) (Nat.le_refl _) (Nat.le_refl _) ?_
  have loop : ∀ e j, j + e = N → em_EW Γ 3 mX3_rationOf (em_hm n m dl I J rv) (some (.int (em_eat I (em_gf I G q) d q N)), em_sI (em_hm n m dl I J rv) 10 (em_gf I G q)) 28 [(0, .ref 1), (1, .int d), (2, .int q), (3, .int (em_eat I (em_gf I G q) d q j)), (4, .int (nI j))] [] (em_sI (em_hm n m dl I J rv) 10 (em_gf I G q)) := by
    intro e
    induction e with
    | zero =>
      intro j hj
      obtain rfl : j = N := by omega
      (repeat (refine em_pure hB kX3_rationOf rfl ?_))
      refine em_branch kX3_rationOf rfl (fun _ => ?_) (fun h1 => absurd (by show I 1 2 ≤ nI j; rw [hx]; exact nI_le (Nat.le_refl j) (by omega)) h1)
      (repeat (refine em_pure hB kX3_rationOf rfl ?_))
      exact em_iret kX3_rationOf rfl rfl rfl rfl
    | succ e ih =>
      intro j hj
      have tail : em_EW Γ 3 mX3_rationOf (em_hm n m dl I J rv) (some (.int (em_eat I (em_gf I G q) d q N)), em_sI (em_hm n m dl I J rv) 10 (em_gf I G q)) 63 [(0, .ref 1), (1, .int d), (2, .int q), (3, .int (em_eat I (em_gf I G q) d q (j + 1))), (4, .int (nI j))] [] (em_sI (em_hm n m dl I J rv) 10 (em_gf I G q)) := by
        (repeat (refine em_pureT 28 hB kX3_rationOf rfl rfl ?_))
        refine em_loc (lc' := [(0, .ref 1), (1, .int d), (2, .int q), (3, .int (em_eat I (em_gf I G q) d q (j + 1))), (4, .int (nI j + 1))]) rfl ?_
        rw [nI_1]
        exact ih (j + 1) (by omega)
      (repeat (refine em_pure hB kX3_rationOf rfl ?_))
      refine em_branch kX3_rationOf rfl (fun h1 => absurd h1 (by show ¬ I 1 2 ≤ nI j; rw [hx]; exact nI_ge (by omega) (by omega))) (fun _ => ?_)
      (repeat (refine em_pure hB kX3_rationOf rfl ?_))
      refine em_callV (μ' := mX3_stands) (c1 := 3) kX3_rationOf rfl lX3_76 tX3_stands (by decide) rfl (em_ltB hB rfl) (s_stands (I := va_up I 10 (em_gf I G q)) hB (d := d) (q := q) (j := j) rfl (by omega)) rfl rfl (by decide) (Nat.le_of_ble_eq_true rfl) (Nat.le_refl _) (Nat.le_refl _) ?_
      refine em_bz kX3_rationOf rfl (fun (h : em_std I (em_gf I G q) j d q) => ?_) (fun (h : ¬ em_std I (em_gf I G q) j d q) => ?_)
      · (repeat (refine em_pure hB kX3_rationOf rfl ?_))
        refine em_ia (L := 40) hB kX3_rationOf rfl rfl rfl rfl rfl (by omega) rfl ?_
        obtain ⟨k, hk8, hke⟩ := hk j (by omega)
        refine em_ia (L := 8) hB kX3_rationOf rfl rfl rfl rfl hke hk8 rfl ?_
        (repeat (refine em_pureT 63 hB kX3_rationOf rfl rfl ?_))
        refine em_loc (lc' := [(0, .ref 1), (1, .int d), (2, .int q), (3, .int (em_eat I (em_gf I G q) d q j + I 2 k)), (4, .int (nI j))]) rfl ?_
        have e1 : em_eat I (em_gf I G q) d q (j + 1) = em_eat I (em_gf I G q) d q j + I 2 k := by
          show bx_sum _ j + (if em_std I (em_gf I G q) j d q then I 2 (I 4 j).toNatClampNeg else 0) = _
          rw [if_pos h, hke, nI_clamp (by omega)]
        rw [← e1]
        exact tail
      · have e1 : em_eat I (em_gf I G q) d q (j + 1) = em_eat I (em_gf I G q) d q j := by
          show bx_sum _ j + (if em_std I (em_gf I G q) j d q then I 2 (I 4 j).toNatClampNeg else 0) = _
          rw [if_neg h, Int32.add_zero]
        rw [e1] at tail
        exact tail
  (repeat (refine em_pureT 28 hB kX3_rationOf rfl rfl ?_))
  refine em_loc (lc' := [(0, .ref 1), (1, .int d), (2, .int q), (3, .int 0), (4, .int (nI 0))]) rfl ?_
  exact loop N 0 (by omega)
end Herd
