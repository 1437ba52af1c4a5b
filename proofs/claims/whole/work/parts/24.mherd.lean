/-! THE REFERENCE'S HERD -/
def em_till (I : Nat → Nat → Int32) (b q : Int32) : Nat → Int32
  | 0 => -1
  | i + 1 => if I 60 i = b ∧ I 62 i ≤ q then I 61 i else em_till I b q i
abbrev em_msd (I : Nat → Nat → Int32) (G : Nat) (j : Nat) (d q : Int32) : Prop := (I 58 j ≤ q ∧ I 57 j ≤ d) ∧ (em_till I (nI j) q G = -1 ∨ d < em_till I (nI j) q G)
section MHerd
variable {Γ : em_Cx} {n m : Nat} {dl : Nat → Nat} {I : Nat → Nat → Int32} {J : Nat → Nat → Int64} {rv : em_Rv}
theorem s_mIsBeast (hB : 85 ≤ n) (b : Int32) : em_MC Γ 1 mX8_isBeast [.ref 53, .int b] (em_hm n m dl I J rv) (some (.int (if 0 ≤ b ∧ b ≤ I 53 1 - 1 then 1 else 0))) (em_hm n m dl I J rv) := by
  refine em_MC_of (Nat.le_refl _) (Nat.le_refl _) (by decide +kernel) rfl (Nat.le_of_ble_eq_true rfl) ?_
  (repeat (refine em_pure hB kX8_isBeast rfl ?_))
  refine em_callS (μ' := mX8_in) kX8_isBeast rfl lX8_112 tX8_in (s_in Γ _ b 0 (I 53 1 - 1)) rfl rfl (by decide) (Nat.le_of_ble_eq_true rfl) (Nat.le_refl _) (Nat.le_refl _) ?_
  (repeat (refine em_pure hB kX8_isBeast rfl ?_))
  exact em_iret kX8_isBeast rfl rfl em_nb rfl
theorem s_mIsDay (hB : 85 ≤ n) (b : Int32) : em_MC Γ 1 mX8_isDay [.ref 53, .int b] (em_hm n m dl I J rv) (some (.int (if 0 ≤ b ∧ b ≤ I 53 0 then 1 else 0))) (em_hm n m dl I J rv) := by
  refine em_MC_of (Nat.le_refl _) (Nat.le_refl _) (by decide +kernel) rfl (Nat.le_of_ble_eq_true rfl) ?_
  (repeat (refine em_pure hB kX8_isDay rfl ?_))
  refine em_callS (μ' := mX8_in) kX8_isDay rfl lX8_112 tX8_in (s_in Γ _ b 0 (I 53 0)) rfl rfl (by decide) (Nat.le_of_ble_eq_true rfl) (Nat.le_refl _) (Nat.le_refl _) ?_
  (repeat (refine em_pure hB kX8_isDay rfl ?_))
  exact em_iret kX8_isDay rfl rfl em_nb rfl
abbrev em_mw (I : Nat → Nat → Int32) (w : Int32) (N : Nat) : Int32 := bx_sum (fun b => if I 59 b = w then I 55 (I 56 b).toNatClampNeg else 0) N
theorem s_mWeightOf (hB : 85 ≤ n) {w : Int32} {N : Nat} (hx : I 53 1 = nI N) (hN : N ≤ 40) (hk : ∀ b, b < N → ∃ k, k < 8 ∧ I 56 b = nI k) : em_MC Γ 0 mX8_weightOf [.ref 53, .int w] (em_hm n m dl I J rv) (some (.int (em_mw I w N))) (em_hm n m dl I J rv) := by
  refine em_MC_of (Nat.le_refl _) (Nat.le_refl _) (by decide +kernel) rfl (Nat.le_of_ble_eq_true rfl) ?_
  have loop : ∀ e j, j + e = N → em_EW Γ 0 mX8_weightOf (em_hm n m dl I J rv) (some (.int (em_mw I w N)), em_hm n m dl I J rv) 4 [(0, .ref 53), (1, .int w), (2, .int (em_mw I w j)), (3, .int (nI j))] [] (em_hm n m dl I J rv) := by
    intro e
    induction e with
    | zero =>
      intro j hj
      obtain rfl : j = N := by omega
      (repeat (refine em_pure hB kX8_weightOf rfl ?_))
      refine em_branch kX8_weightOf rfl (fun _ => ?_) (fun h1 => absurd (by show I 53 1 ≤ nI j; rw [hx]; exact nI_le (Nat.le_refl j) (by omega)) h1)
      (repeat (refine em_pure hB kX8_weightOf rfl ?_))
      exact em_iret kX8_weightOf rfl rfl rfl rfl
    | succ e ih =>
      intro j hj
      have tail : ∀ z : Int32, z = (if I 59 j = w then I 55 (I 56 j).toNatClampNeg else 0) → em_EW Γ 0 mX8_weightOf (em_hm n m dl I J rv) (some (.int (em_mw I w N)), em_hm n m dl I J rv) 38 [(0, .ref 53), (1, .int w), (2, .int (em_mw I w j)), (3, .int (nI j))] [.int z, .int (em_mw I w j)] (em_hm n m dl I J rv) := by
        intro z hz
        (repeat (refine em_pureT 4 hB kX8_weightOf rfl rfl ?_))
        refine em_loc (lc' := [(0, .ref 53), (1, .int w), (2, .int (em_mw I w j + z)), (3, .int (nI j + 1))]) rfl ?_
        rw [nI_1, hz]
        exact ih (j + 1) (by omega)
      (repeat (refine em_pure hB kX8_weightOf rfl ?_))
      refine em_branch kX8_weightOf rfl (fun h1 => absurd h1 (by show ¬ I 53 1 ≤ nI j; rw [hx]; exact nI_ge (by omega) (by omega))) (fun _ => ?_)
      (repeat (refine em_pure hB kX8_weightOf rfl ?_))
      refine em_ia (L := 40) hB kX8_weightOf rfl rfl rfl rfl rfl (by omega) rfl ?_
      (repeat (refine em_pure hB kX8_weightOf rfl ?_))
      refine em_branch kX8_weightOf rfl (fun (h2 : ¬ I 59 j = w) => ?_) (fun (h2 : ¬ ¬ I 59 j = w) => ?_)
      · (repeat (refine em_pureT 38 hB kX8_weightOf rfl rfl ?_))
        exact tail 0 (by rw [if_neg h2])
      · (repeat (refine em_pure hB kX8_weightOf rfl ?_))
        refine em_ia (L := 40) hB kX8_weightOf rfl rfl rfl rfl rfl (by omega) rfl ?_
        obtain ⟨k, hk8, hke⟩ := hk j (by omega)
        refine em_ia (L := 8) hB kX8_weightOf rfl rfl rfl rfl hke hk8 rfl ?_
        (repeat (refine em_pureT 38 hB kX8_weightOf rfl rfl ?_))
        exact tail (I 55 k) (by rw [if_pos (Decidable.not_not.mp h2), hke, nI_clamp (by omega)])
  (repeat (refine em_pureT 4 hB kX8_weightOf rfl rfl ?_))
  refine em_loc (lc' := [(0, .ref 53), (1, .int w), (2, .int 0), (3, .int (nI 0))]) rfl ?_
  exact loop N 0 (by omega)
abbrev em_mm (I : Nat → Nat → Int32) (w : Int32) (N : Nat) : Int32 := bx_sum (fun b => if I 59 b = w then 1 else 0) N
theorem s_mManyIn (hB : 85 ≤ n) {w : Int32} {N : Nat} (hx : I 53 1 = nI N) (hN : N ≤ 40) : em_MC Γ 0 mX8_manyIn [.ref 53, .int w] (em_hm n m dl I J rv) (some (.int (em_mm I w N))) (em_hm n m dl I J rv) := by
  refine em_MC_of (Nat.le_refl _) (Nat.le_refl _) (by decide +kernel) rfl (Nat.le_of_ble_eq_true rfl) ?_
  have loop : ∀ e j, j + e = N → em_EW Γ 0 mX8_manyIn (em_hm n m dl I J rv) (some (.int (em_mm I w N)), em_hm n m dl I J rv) 4 [(0, .ref 53), (1, .int w), (2, .int (em_mm I w j)), (3, .int (nI j))] [] (em_hm n m dl I J rv) := by
    intro e
    induction e with
    | zero =>
      intro j hj
      obtain rfl : j = N := by omega
      (repeat (refine em_pure hB kX8_manyIn rfl ?_))
      refine em_branch kX8_manyIn rfl (fun _ => ?_) (fun h1 => absurd (by show I 53 1 ≤ nI j; rw [hx]; exact nI_le (Nat.le_refl j) (by omega)) h1)
      (repeat (refine em_pure hB kX8_manyIn rfl ?_))
      exact em_iret kX8_manyIn rfl rfl rfl rfl
    | succ e ih =>
      intro j hj
      have tail : ∀ z : Int32, z = (if I 59 j = w then 1 else 0) → em_EW Γ 0 mX8_manyIn (em_hm n m dl I J rv) (some (.int (em_mm I w N)), em_hm n m dl I J rv) 28 [(0, .ref 53), (1, .int w), (2, .int (em_mm I w j)), (3, .int (nI j))] [.int z, .int (em_mm I w j)] (em_hm n m dl I J rv) := by
        intro z hz
        (repeat (refine em_pureT 4 hB kX8_manyIn rfl rfl ?_))
        refine em_loc (lc' := [(0, .ref 53), (1, .int w), (2, .int (em_mm I w j + z)), (3, .int (nI j + 1))]) rfl ?_
        rw [nI_1, hz]
        exact ih (j + 1) (by omega)
      (repeat (refine em_pure hB kX8_manyIn rfl ?_))
      refine em_branch kX8_manyIn rfl (fun h1 => absurd h1 (by show ¬ I 53 1 ≤ nI j; rw [hx]; exact nI_ge (by omega) (by omega))) (fun _ => ?_)
      (repeat (refine em_pure hB kX8_manyIn rfl ?_))
      refine em_ia (L := 40) hB kX8_manyIn rfl rfl rfl rfl rfl (by omega) rfl ?_
      (repeat (refine em_pure hB kX8_manyIn rfl ?_))
      refine em_branch kX8_manyIn rfl (fun (h2 : ¬ I 59 j = w) => ?_) (fun (h2 : ¬ ¬ I 59 j = w) => ?_)
      · (repeat (refine em_pureT 28 hB kX8_manyIn rfl rfl ?_))
        exact tail 0 (by rw [if_neg h2])
      · (repeat (refine em_pureT 28 hB kX8_manyIn rfl rfl ?_))
        exact tail 1 (by rw [if_pos (Decidable.not_not.mp h2)])
  (repeat (refine em_pureT 4 hB kX8_manyIn rfl rfl ?_))
  refine em_loc (lc' := [(0, .ref 53), (1, .int w), (2, .int 0), (3, .int (nI 0))]) rfl ?_
  exact loop N 0 (by omega)
theorem s_mIsHere (hB : 85 ≤ n) {b d q : Int32} {G j : Nat} (hg : I 53 2 = nI G) (hG : G ≤ 200) (hb : b = nI j) (hj : j < 40) : em_MC Γ 0 mX8_isHere [.ref 53, .int b, .int d, .int q] (em_hm n m dl I J rv) (some (.int (if em_msd I G j d q then 1 else 0))) (em_hm n m dl I J rv) := by
  subst hb
  refine em_MC_of (Nat.le_refl _) (Nat.le_refl _) (by decide +kernel) rfl (Nat.le_of_ble_eq_true rfl) ?_
  (repeat (refine em_pure hB kX8_isHere rfl ?_))
  refine em_ia (L := 40) hB kX8_isHere rfl rfl rfl rfl rfl hj rfl ?_
  (repeat (refine em_pure hB kX8_isHere rfl ?_))
  refine em_branch kX8_isHere rfl (fun h1 => ?_) (fun h1 => ?_)
  · (repeat (refine em_pure hB kX8_isHere rfl ?_))
    exact em_iret kX8_isHere rfl rfl rfl (by rw [if_neg (fun z => absurd h1 (Int32.not_lt.mpr z.1.1))])
  (repeat (refine em_pure hB kX8_isHere rfl ?_))
  refine em_ia (L := 40) hB kX8_isHere rfl rfl rfl rfl rfl hj rfl ?_
  (repeat (refine em_pure hB kX8_isHere rfl ?_))
  refine em_branch kX8_isHere rfl (fun h2 => ?_) (fun h2 => ?_)
  case refine_2 =>
    (repeat (refine em_pure hB kX8_isHere rfl ?_))
    exact em_iret kX8_isHere rfl rfl rfl (by rw [if_neg (fun z => absurd z.1.2 h2)])
  have loop : ∀ e i, i + e = G → em_EW Γ 0 mX8_isHere (em_hm n m dl I J rv) (some (.int (if em_msd I G j d q then 1 else 0)), em_hm n m dl I J rv) 28 [(0, .ref 53), (1, .int (nI j)), (2, .int d), (3, .int q), (4, .int (em_till I (nI j) q i)), (5, .int (nI i))] [] (em_hm n m dl I J rv) := by
    intro e
    induction e with
    | zero =>
      intro i hi
      obtain rfl : i = G := by omega
      (repeat (refine em_pure hB kX8_isHere rfl ?_))
      refine em_branch kX8_isHere rfl (fun _ => ?_) (fun h1 => absurd (by show I 53 2 ≤ nI i; rw [hg]; exact nI_le (Nat.le_refl i) (by omega)) h1)
      (repeat (refine em_pure hB kX8_isHere rfl ?_))
      refine em_branch kX8_isHere rfl (fun h3 => ?_) (fun h3 => ?_)
      · (repeat (refine em_pure hB kX8_isHere rfl ?_))
        exact em_iret kX8_isHere rfl rfl rfl (by rw [if_pos ⟨⟨Int32.not_lt.mp h1, h2⟩, Or.inl h3⟩])
      · (repeat (refine em_pure hB kX8_isHere rfl ?_))
        refine em_branch kX8_isHere rfl (fun h4 => ?_) (fun h4 => ?_)
        · (repeat (refine em_pure hB kX8_isHere rfl ?_))
          exact em_iret kX8_isHere rfl rfl rfl (by rw [if_neg (fun z => z.2.elim h3 (fun z => absurd h4 (Int32.not_le.mpr z)))])
        · (repeat (refine em_pure hB kX8_isHere rfl ?_))
          exact em_iret kX8_isHere rfl rfl rfl (by rw [if_pos ⟨⟨Int32.not_lt.mp h1, h2⟩, Or.inr (Int32.not_le.mp h4)⟩])
    | succ e ih =>
      intro i hi
      have tail : ∀ z : Int32, z = em_till I (nI j) q (i + 1) → em_EW Γ 0 mX8_isHere (em_hm n m dl I J rv) (some (.int (if em_msd I G j d q then 1 else 0)), em_hm n m dl I J rv) 71 [(0, .ref 53), (1, .int (nI j)), (2, .int d), (3, .int q), (4, .int (em_till I (nI j) q i)), (5, .int (nI i))] [.int z] (em_hm n m dl I J rv) := by
        intro z hz
        (repeat (refine em_pureT 28 hB kX8_isHere rfl rfl ?_))
        refine em_loc (lc' := [(0, .ref 53), (1, .int (nI j)), (2, .int d), (3, .int q), (4, .int z), (5, .int (nI i + 1))]) rfl ?_
        rw [nI_1, hz]
        exact ih (i + 1) (by omega)
      (repeat (refine em_pure hB kX8_isHere rfl ?_))
      refine em_branch kX8_isHere rfl (fun h1 => absurd h1 (by show ¬ I 53 2 ≤ nI i; rw [hg]; exact nI_ge (by omega) (by omega))) (fun _ => ?_)
      (repeat (refine em_pure hB kX8_isHere rfl ?_))
      refine em_ia (L := 200) hB kX8_isHere rfl rfl rfl rfl rfl (by omega) rfl ?_
      (repeat (refine em_pure hB kX8_isHere rfl ?_))
      refine em_branch kX8_isHere rfl (fun (h3 : ¬ I 60 i = nI j) => ?_) (fun (h3 : ¬ ¬ I 60 i = nI j) => ?_)
      · (repeat (refine em_pureT 71 hB kX8_isHere rfl rfl ?_))
        exact tail _ (by rw [em_till, if_neg (fun z => h3 z.1)])
      · (repeat (refine em_pure hB kX8_isHere rfl ?_))
        refine em_ia (L := 200) hB kX8_isHere rfl rfl rfl rfl rfl (by omega) rfl ?_
        (repeat (refine em_pure hB kX8_isHere rfl ?_))
        refine em_branch kX8_isHere rfl (fun (h4 : q < I 62 i) => ?_) (fun (h4 : ¬ q < I 62 i) => ?_)
        · (repeat (refine em_pureT 71 hB kX8_isHere rfl rfl ?_))
          exact tail _ (by rw [em_till, if_neg (fun z => absurd h4 (Int32.not_lt.mpr z.2))])
        · (repeat (refine em_pure hB kX8_isHere rfl ?_))
          refine em_ia (L := 200) hB kX8_isHere rfl rfl rfl rfl rfl (by omega) rfl ?_
          (repeat (refine em_pureT 71 hB kX8_isHere rfl rfl ?_))
          exact tail _ (by rw [em_till, if_pos ⟨Decidable.not_not.mp h3, Int32.not_lt.mp h4⟩])
  (repeat (refine em_pureT 28 hB kX8_isHere rfl rfl ?_))
  refine em_loc (lc' := [(0, .ref 53), (1, .int (nI j)), (2, .int d), (3, .int q), (4, .int (-1)), (5, .int (nI 0))]) rfl ?_
  exact loop G 0 (by omega)
abbrev em_meat (I : Nat → Nat → Int32) (G : Nat) (d q : Int32) (N : Nat) : Int32 := bx_sum (fun b => if em_msd I G b d q then I 54 (I 56 b).toNatClampNeg else 0) N
theorem s_mRationOf (hB : 85 ≤ n) {d q : Int32} {N G : Nat} (hx : I 53 1 = nI N) (hN : N ≤ 40) (hg : I 53 2 = nI G) (hG : G ≤ 200) (hk : ∀ b, b < N → ∃ k, k < 8 ∧ I 56 b = nI k) : em_MC Γ 1 mX8_rationOf [.ref 53, .int d, .int q] (em_hm n m dl I J rv) (some (.int (em_meat I G d q N))) (em_hm n m dl I J rv) := by
  refine em_MC_of (Nat.le_refl _) (Nat.le_refl _) (by decide +kernel) rfl (Nat.le_of_ble_eq_true rfl) ?_
  have loop : ∀ e j, j + e = N → em_EW Γ 1 mX8_rationOf (em_hm n m dl I J rv) (some (.int (em_meat I G d q N)), em_hm n m dl I J rv) 5 [(0, .ref 53), (1, .int d), (2, .int q), (3, .int (em_meat I G d q j)), (4, .int (nI j))] [] (em_hm n m dl I J rv) := by
    intro e
    induction e with
    | zero =>
      intro j hj
      obtain rfl : j = N := by omega
      (repeat (refine em_pure hB kX8_rationOf rfl ?_))
      refine em_branch kX8_rationOf rfl (fun _ => ?_) (fun h1 => absurd (by show I 53 1 ≤ nI j; rw [hx]; exact nI_le (Nat.le_refl j) (by omega)) h1)
      (repeat (refine em_pure hB kX8_rationOf rfl ?_))
      exact em_iret kX8_rationOf rfl rfl rfl rfl
    | succ e ih =>
      intro j hj
      have tail : ∀ z : Int32, z = (if em_msd I G j d q then I 54 (I 56 j).toNatClampNeg else 0) → em_EW Γ 1 mX8_rationOf (em_hm n m dl I J rv) (some (.int (em_meat I G d q N)), em_hm n m dl I J rv) 42 [(0, .ref 53), (1, .int d), (2, .int q), (3, .int (em_meat I G d q j)), (4, .int (nI j))] [.int z, .int (em_meat I G d q j)] (em_hm n m dl I J rv) := by
        intro z hz
        (repeat (refine em_pureT 5 hB kX8_rationOf rfl rfl ?_))
        refine em_loc (lc' := [(0, .ref 53), (1, .int d), (2, .int q), (3, .int (em_meat I G d q j + z)), (4, .int (nI j + 1))]) rfl ?_
        rw [nI_1, hz]
        exact ih (j + 1) (by omega)
      (repeat (refine em_pure hB kX8_rationOf rfl ?_))
      refine em_branch kX8_rationOf rfl (fun h1 => absurd h1 (by show ¬ I 53 1 ≤ nI j; rw [hx]; exact nI_ge (by omega) (by omega))) (fun _ => ?_)
      (repeat (refine em_pure hB kX8_rationOf rfl ?_))
      refine em_callV (μ' := mX8_isHere) (c1 := 8) kX8_rationOf rfl lX8_133 tX8_isHere (by decide) rfl (em_ltB hB rfl) (s_mIsHere hB (d := d) (q := q) (j := j) hg hG rfl (by omega)) rfl rfl (by decide) (Nat.le_of_ble_eq_true rfl) (Nat.le_refl _) (Nat.le_refl _) ?_
      refine em_bz kX8_rationOf rfl (fun h => ?_) (fun h => ?_)
      · (repeat (refine em_pure hB kX8_rationOf rfl ?_))
        refine em_ia (L := 40) hB kX8_rationOf rfl rfl rfl rfl rfl (by omega) rfl ?_
        obtain ⟨k, hk8, hke⟩ := hk j (by omega)
        refine em_ia (L := 8) hB kX8_rationOf rfl rfl rfl rfl hke hk8 rfl ?_
        (repeat (refine em_pureT 42 hB kX8_rationOf rfl rfl ?_))
        exact tail (I 54 k) (by rw [if_pos h, hke, nI_clamp (by omega)])
      · (repeat (refine em_pureT 42 hB kX8_rationOf rfl rfl ?_))
        exact tail 0 (by rw [if_neg h])
  (repeat (refine em_pureT 5 hB kX8_rationOf rfl rfl ?_))
  refine em_loc (lc' := [(0, .ref 53), (1, .int d), (2, .int q), (3, .int 0), (4, .int (nI 0))]) rfl ?_
  exact loop N 0 (by omega)
abbrev em_mhn (I : Nat → Nat → Int32) (G : Nat) (N : Nat) : Int32 := bx_sum (fun b => if em_msd I G b (I 53 0) (I 53 0) then 1 else 0) N
theorem s_mHereNow (hB : 85 ≤ n) {N G : Nat} (hx : I 53 1 = nI N) (hN : N ≤ 40) (hg : I 53 2 = nI G) (hG : G ≤ 200) : em_MC Γ 1 mX8_hereNow [.ref 53] (em_hm n m dl I J rv) (some (.int (em_mhn I G N))) (em_hm n m dl I J rv) := by
  refine em_MC_of (Nat.le_refl _) (Nat.le_refl _) (by decide +kernel) rfl (Nat.le_of_ble_eq_true rfl) ?_
  have loop : ∀ e j, j + e = N → em_EW Γ 1 mX8_hereNow (em_hm n m dl I J rv) (some (.int (em_mhn I G N)), em_hm n m dl I J rv) 4 [(0, .ref 53), (1, .int (em_mhn I G j)), (2, .int (nI j))] [] (em_hm n m dl I J rv) := by
    intro e
    induction e with
    | zero =>
      intro j hj
      obtain rfl : j = N := by omega
      (repeat (refine em_pure hB kX8_hereNow rfl ?_))
      refine em_branch kX8_hereNow rfl (fun _ => ?_) (fun h1 => absurd (by show I 53 1 ≤ nI j; rw [hx]; exact nI_le (Nat.le_refl j) (by omega)) h1)
      (repeat (refine em_pure hB kX8_hereNow rfl ?_))
      exact em_iret kX8_hereNow rfl rfl rfl rfl
    | succ e ih =>
      intro j hj
      have tail : ∀ z : Int32, z = (if em_msd I G j (I 53 0) (I 53 0) then 1 else 0) → em_EW Γ 1 mX8_hereNow (em_hm n m dl I J rv) (some (.int (em_mhn I G N)), em_hm n m dl I J rv) 34 [(0, .ref 53), (1, .int (em_mhn I G j)), (2, .int (nI j))] [.int z, .int (em_mhn I G j)] (em_hm n m dl I J rv) := by
        intro z hz
        (repeat (refine em_pureT 4 hB kX8_hereNow rfl rfl ?_))
        refine em_loc (lc' := [(0, .ref 53), (1, .int (em_mhn I G j + z)), (2, .int (nI j + 1))]) rfl ?_
        rw [nI_1, hz]
        exact ih (j + 1) (by omega)
      (repeat (refine em_pure hB kX8_hereNow rfl ?_))
      refine em_branch kX8_hereNow rfl (fun h1 => absurd h1 (by show ¬ I 53 1 ≤ nI j; rw [hx]; exact nI_ge (by omega) (by omega))) (fun _ => ?_)
      (repeat (refine em_pure hB kX8_hereNow rfl ?_))
      refine em_callV (μ' := mX8_isHere) (c1 := 8) kX8_hereNow rfl lX8_133 tX8_isHere (by decide) rfl (em_ltB hB rfl) (s_mIsHere hB (d := I 53 0) (q := I 53 0) (j := j) hg hG rfl (by omega)) rfl rfl (by decide) (Nat.le_of_ble_eq_true rfl) (Nat.le_refl _) (Nat.le_refl _) ?_
      refine em_bz kX8_hereNow rfl (fun h => ?_) (fun h => ?_)
      · (repeat (refine em_pureT 34 hB kX8_hereNow rfl rfl ?_))
        exact tail 1 (by rw [if_pos h])
      · (repeat (refine em_pureT 34 hB kX8_hereNow rfl rfl ?_))
        exact tail 0 (by rw [if_neg h])
  (repeat (refine em_pureT 4 hB kX8_hereNow rfl rfl ?_))
  refine em_loc (lc' := [(0, .ref 53), (1, .int 0), (2, .int (nI 0))]) rfl ?_
  exact loop N 0 (by omega)
end MHerd
