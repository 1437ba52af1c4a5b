/-! THE CLASS'S WAGONS -/
abbrev em_ww (I : Nat → Nat → Int32) (w k x : Int32) (N : Nat) : Int32 := bx_sum (fun b => if I 16 b = w then (if I 4 b = k then x else I 3 (I 4 b).toNatClampNeg) else 0) N
abbrev em_wm (I : Nat → Nat → Int32) (w : Int32) (N : Nat) : Int32 := bx_sum (fun b => if I 16 b = w then 1 else 0) N
def em_wb (I : Nat → Nat → Int32) (k x : Int32) (N : Nat) (w : Nat) : Bool := decide (2000 < em_ww I (nI w) k x N)
def em_mf1 (I : Nat → Nat → Int32) (j o : Nat) : Bool := decide (I 16 o = I 16 j ∧ ¬ (I 17 (I 4 j).toNatClampNeg >>> (I 4 o &&& 31)) &&& 1 = 0)
def em_mf (I : Nat → Nat → Int32) (j : Nat) : Bool := em_ex (em_mf1 I j) j
def em_us (I : Nat → Nat → Int32) (w : Int32) (j : Nat) : Bool := decide (I 16 j = w ∧ em_mf I j = true)
section Wagons
variable {Γ : em_Cx} {n m : Nat} {dl : Nat → Nat} {I : Nat → Nat → Int32} {J : Nat → Nat → Int64} {rv : em_Rv}
theorem s_weightWith (hB : 85 ≤ n) {w k x : Int32} {N : Nat} (hx : I 1 2 = nI N) (hN : N ≤ 40) (hk : ∀ b, b < N → ∃ k, k < 8 ∧ I 4 b = nI k) : em_MC Γ 3 mX6_weightWith [.ref 15, .int w, .int k, .int x] (em_hm n m dl I J rv) (some (.int (em_ww I w k x N))) (em_hm n m dl I J rv) := by
  refine em_MC_of (Nat.le_refl _) (Nat.le_refl _) (by decide +kernel) rfl (Nat.le_of_ble_eq_true rfl) ?_
  have loop : ∀ e j, j + e = N → em_EW Γ 3 mX6_weightWith (em_hm n m dl I J rv) (some (.int (em_ww I w k x N)), em_hm n m dl I J rv) 6 [(0, .ref 15), (1, .int w), (2, .int k), (3, .int x), (4, .int (em_ww I w k x j)), (5, .int (nI j))] [] (em_hm n m dl I J rv) := by
    intro e
    induction e with
    | zero =>
      intro j hj
      obtain rfl : j = N := by omega
      (repeat (refine em_pure hB kX6_weightWith rfl ?_))
      refine em_callV (μ' := mX3_size) (c1 := 3) kX6_weightWith rfl lX6_68 tX3_size (by decide) rfl (em_ltB hB rfl) (s_size hB) rfl rfl (by decide) (Nat.le_of_ble_eq_true rfl) (Nat.le_refl _) (Nat.le_refl _) ?_
      refine em_branch kX6_weightWith rfl (fun _ => ?_) (fun h1 => absurd (by show I 1 2 ≤ nI j; rw [hx]; exact nI_le (Nat.le_refl j) (by omega)) h1)
      (repeat (refine em_pure hB kX6_weightWith rfl ?_))
      exact em_iret kX6_weightWith rfl rfl rfl rfl
    | succ e ih =>
      intro j hj
      have tail : ∀ z : Int32, z = em_ww I w k x (j + 1) → ∀ lc, em_lk lc 0 = some (.ref 15) → em_lk lc 1 = some (.int w) → em_lk lc 2 = some (.int k) → em_lk lc 3 = some (.int x) → em_lk lc 4 = some (.int z) → em_lk lc 5 = some (.int (nI j)) → em_EW Γ 3 mX6_weightWith (em_hm n m dl I J rv) (some (.int (em_ww I w k x N)), em_hm n m dl I J rv) 64 lc [] (em_hm n m dl I J rv) := by
        intro z hz lc l0 l1 l2 l3 l4 l5
        refine em_loc (lc' := [(0, .ref 15), (1, .int w), (2, .int k), (3, .int x), (4, .int z), (5, .int (nI j))]) (by simp [l0, l1, l2, l3, l4, l5]) ?_
        (repeat (refine em_pureT 6 hB kX6_weightWith rfl rfl ?_))
        refine em_loc (lc' := [(0, .ref 15), (1, .int w), (2, .int k), (3, .int x), (4, .int z), (5, .int (nI j + 1))]) rfl ?_
        rw [nI_1, hz]
        exact ih (j + 1) (by omega)
      obtain ⟨q, hq8, hqe⟩ := hk j (by omega)
      (repeat (refine em_pure hB kX6_weightWith rfl ?_))
      refine em_callV (μ' := mX3_size) (c1 := 3) kX6_weightWith rfl lX6_68 tX3_size (by decide) rfl (em_ltB hB rfl) (s_size hB) rfl rfl (by decide) (Nat.le_of_ble_eq_true rfl) (Nat.le_refl _) (Nat.le_refl _) ?_
      refine em_branch kX6_weightWith rfl (fun h1 => absurd h1 (by show ¬ I 1 2 ≤ nI j; rw [hx]; exact nI_ge (by omega) (by omega))) (fun _ => ?_)
      (repeat (refine em_pure hB kX6_weightWith rfl ?_))
      refine em_ia (L := 40) hB kX6_weightWith rfl rfl rfl rfl rfl (show j < 40 by omega) rfl ?_
      (repeat (refine em_pure hB kX6_weightWith rfl ?_))
      have es : em_ww I w k x (j + 1) = em_ww I w k x j + (if I 16 j = w then (if I 4 j = k then x else I 3 (I 4 j).toNatClampNeg) else 0) := rfl
      refine em_branch kX6_weightWith rfl (fun (h : ¬ I 16 j = w) => ?_) (fun (h : ¬ ¬ I 16 j = w) => ?_)
      · exact tail _ (by rw [es, if_neg h, Int32.add_zero]) _ rfl rfl rfl rfl rfl rfl
      rw [if_pos (Decidable.not_not.mp h)] at es
      (repeat (refine em_pure hB kX6_weightWith rfl ?_))
      refine em_callV (μ' := mX3_kindOfBeast) (c1 := 3) kX6_weightWith rfl lX6_47 tX3_kindOfBeast (by decide) rfl (em_ltB hB rfl) (s_kindOfBeast hB (b := nI j) hx hN rfl (show j < N by omega)) rfl rfl (by decide) (Nat.le_of_ble_eq_true rfl) (Nat.le_refl _) (Nat.le_refl _) ?_
      (repeat (refine em_pure hB kX6_weightWith rfl ?_))
      refine em_branch kX6_weightWith rfl (fun (h2 : ¬ I 4 j = k) => ?_) (fun (h2 : ¬ ¬ I 4 j = k) => ?_)
      · rw [if_neg h2, hqe, nI_clamp (by omega)] at es
        (repeat (refine em_pure hB kX6_weightWith rfl ?_))
        refine em_callV (μ' := mX3_weightOfKind) (c1 := 3) kX6_weightWith rfl lX6_51 tX3_weightOfKind (by decide) rfl (em_ltB hB rfl) (s_weightOfKind hB hqe hq8) rfl rfl (by decide) (Nat.le_of_ble_eq_true rfl) (Nat.le_refl _) (Nat.le_refl _) ?_
        (repeat (refine em_pureT 64 hB kX6_weightWith rfl rfl ?_))
        exact tail _ es.symm _ rfl rfl rfl rfl rfl rfl
      · rw [if_pos (Decidable.not_not.mp h2)] at es
        (repeat (refine em_pureT 64 hB kX6_weightWith rfl rfl ?_))
        exact tail _ es.symm _ rfl rfl rfl rfl rfl rfl
  (repeat (refine em_pureT 6 hB kX6_weightWith rfl rfl ?_))
  refine em_loc (lc' := [(0, .ref 15), (1, .int w), (2, .int k), (3, .int x), (4, .int 0), (5, .int (nI 0))]) rfl ?_
  exact loop N 0 (by omega)
theorem s_weightIn (hB : 85 ≤ n) {w : Int32} {N : Nat} (hx : I 1 2 = nI N) (hN : N ≤ 40) (hk : ∀ b, b < N → ∃ k, k < 8 ∧ I 4 b = nI k) : em_MC Γ 4 mX6_weightIn [.ref 15, .int w] (em_hm n m dl I J rv) (some (.int (em_ww I w (-1) 0 N))) (em_hm n m dl I J rv) := by
  refine em_MC_of (Nat.le_refl _) (Nat.le_refl _) (by decide +kernel) rfl (Nat.le_of_ble_eq_true rfl) ?_
  (repeat (refine em_pure hB kX6_weightIn rfl ?_))
  refine em_callV (μ' := mX6_weightWith) (c1 := 6) kX6_weightIn rfl lX6_64 tX6_weightWith (by decide) rfl (em_ltB hB rfl) (s_weightWith hB (w := w) (k := -1) (x := 0) hx hN hk) rfl rfl (by decide) (Nat.le_of_ble_eq_true rfl) (Nat.le_refl _) (Nat.le_refl _) ?_
  exact em_iret kX6_weightIn rfl rfl rfl rfl
theorem s_beastsIn (hB : 85 ≤ n) {w : Int32} {N : Nat} (hx : I 1 2 = nI N) (hN : N ≤ 40) : em_MC Γ 1 mX6_beastsIn [.ref 15, .int w] (em_hm n m dl I J rv) (some (.int (em_wm I w N))) (em_hm n m dl I J rv) := by
  refine em_MC_of (Nat.le_refl _) (Nat.le_refl _) (by decide +kernel) rfl (Nat.le_of_ble_eq_true rfl) ?_
  have loop : ∀ e j, j + e = N → em_EW Γ 1 mX6_beastsIn (em_hm n m dl I J rv) (some (.int (em_wm I w N)), em_hm n m dl I J rv) 4 [(0, .ref 15), (1, .int w), (2, .int (em_wm I w j)), (3, .int (nI j))] [] (em_hm n m dl I J rv) := by
    intro e
    induction e with
    | zero =>
      intro j hj
      obtain rfl : j = N := by omega
      (repeat (refine em_pure hB kX6_beastsIn rfl ?_))
      refine em_callV (μ' := mX3_size) (c1 := 3) kX6_beastsIn rfl lX6_68 tX3_size (by decide) rfl (em_ltB hB rfl) (s_size hB) rfl rfl (by decide) (Nat.le_of_ble_eq_true rfl) (Nat.le_refl _) (Nat.le_refl _) ?_
      refine em_branch kX6_beastsIn rfl (fun _ => ?_) (fun h1 => absurd (by show I 1 2 ≤ nI j; rw [hx]; exact nI_le (Nat.le_refl j) (by omega)) h1)
      (repeat (refine em_pure hB kX6_beastsIn rfl ?_))
      exact em_iret kX6_beastsIn rfl rfl rfl rfl
    | succ e ih =>
      intro j hj
      have tail : ∀ z : Int32, z = em_wm I w (j + 1) → em_EW Γ 1 mX6_beastsIn (em_hm n m dl I J rv) (some (.int (em_wm I w N)), em_hm n m dl I J rv) 28 [(0, .ref 15), (1, .int w), (2, .int z), (3, .int (nI j))] [] (em_hm n m dl I J rv) := by
        intro z hz
        (repeat (refine em_pureT 4 hB kX6_beastsIn rfl rfl ?_))
        refine em_loc (lc' := [(0, .ref 15), (1, .int w), (2, .int z), (3, .int (nI j + 1))]) rfl ?_
        rw [nI_1, hz]
        exact ih (j + 1) (by omega)
      have es : em_wm I w (j + 1) = em_wm I w j + (if I 16 j = w then 1 else 0) := rfl
      (repeat (refine em_pure hB kX6_beastsIn rfl ?_))
      refine em_callV (μ' := mX3_size) (c1 := 3) kX6_beastsIn rfl lX6_68 tX3_size (by decide) rfl (em_ltB hB rfl) (s_size hB) rfl rfl (by decide) (Nat.le_of_ble_eq_true rfl) (Nat.le_refl _) (Nat.le_refl _) ?_
      refine em_branch kX6_beastsIn rfl (fun h1 => absurd h1 (by show ¬ I 1 2 ≤ nI j; rw [hx]; exact nI_ge (by omega) (by omega))) (fun _ => ?_)
      (repeat (refine em_pure hB kX6_beastsIn rfl ?_))
      refine em_ia (L := 40) hB kX6_beastsIn rfl rfl rfl rfl rfl (show j < 40 by omega) rfl ?_
      (repeat (refine em_pure hB kX6_beastsIn rfl ?_))
      refine em_branch kX6_beastsIn rfl (fun (h : ¬ I 16 j = w) => ?_) (fun (h : ¬ ¬ I 16 j = w) => ?_)
      · exact tail _ (by rw [es, if_neg h, Int32.add_zero])
      · (repeat (refine em_pureT 28 hB kX6_beastsIn rfl rfl ?_))
        exact em_loc (lc' := [(0, .ref 15), (1, .int w), (2, .int (em_wm I w j + 1)), (3, .int (nI j))]) rfl (tail _ (by rw [es, if_pos (Decidable.not_not.mp h)]))
  (repeat (refine em_pureT 4 hB kX6_beastsIn rfl rfl ?_))
  refine em_loc (lc' := [(0, .ref 15), (1, .int w), (2, .int 0), (3, .int (nI 0))]) rfl ?_
  exact loop N 0 (by omega)
theorem s_beastsInAll (hB : 85 ≤ n) {N : Nat} (hx : I 1 2 = nI N) (hN : N ≤ 40) : em_MC Γ 2 mX6_beastsInAll [.ref 15] (em_hm n m dl I J rv) (some (.int (I 1 2 - em_wm I (-1) N))) (em_hm n m dl I J rv) := by
  refine em_MC_of (Nat.le_refl _) (Nat.le_refl _) (by decide +kernel) rfl (Nat.le_of_ble_eq_true rfl) ?_
  (repeat (refine em_pure hB kX6_beastsInAll rfl ?_))
  refine em_callV (μ' := mX3_size) (c1 := 3) kX6_beastsInAll rfl lX6_68 tX3_size (by decide) rfl (em_ltB hB rfl) (s_size hB) rfl rfl (by decide) (Nat.le_of_ble_eq_true rfl) (Nat.le_refl _) (Nat.le_refl _) ?_
  (repeat (refine em_pure hB kX6_beastsInAll rfl ?_))
  refine em_callV (μ' := mX6_beastsIn) (c1 := 6) kX6_beastsInAll rfl lX6_72 tX6_beastsIn (by decide) rfl (em_ltB hB rfl) (s_beastsIn hB (w := -1) hx hN) rfl rfl (by decide) (Nat.le_of_ble_eq_true rfl) (Nat.le_refl _) (Nat.le_refl _) ?_
  (repeat (refine em_pure hB kX6_beastsInAll rfl ?_))
  exact em_iret kX6_beastsInAll rfl rfl rfl rfl
theorem s_wouldBear (hB : 85 ≤ n) {k x : Int32} {N : Nat} (hx : I 1 2 = nI N) (hN : N ≤ 40) (hk : ∀ b, b < N → ∃ k, k < 8 ∧ I 4 b = nI k) : em_MC Γ 4 mX6_wouldBear [.ref 15, .int k, .int x] (em_hm n m dl I J rv) (some (.int (if em_ex (em_wb I k x N) 8 = false then 1 else 0))) (em_hm n m dl I J rv) := by
  refine em_MC_of (Nat.le_refl _) (Nat.le_refl _) (by decide +kernel) rfl (Nat.le_of_ble_eq_true rfl) ?_
  have loop : ∀ d w, w + d = 8 → (∀ i, i < w → em_wb I k x N i = false) → em_EW Γ 4 mX6_wouldBear (em_hm n m dl I J rv) (some (.int (if em_ex (em_wb I k x N) 8 = false then 1 else 0)), em_hm n m dl I J rv) 2 [(0, .ref 15), (1, .int k), (2, .int x), (3, .int (nI w))] [] (em_hm n m dl I J rv) := by
    intro d
    induction d with
    | zero =>
      intro w hw hno
      obtain rfl : w = 8 := by omega
      (repeat (refine em_pure hB kX6_wouldBear rfl ?_))
      refine em_branch kX6_wouldBear rfl (fun _ => ?_) (fun h1 => absurd (by decide) h1)
      (repeat (refine em_pure hB kX6_wouldBear rfl ?_))
      exact em_iret kX6_wouldBear rfl rfl rfl (by rw [if_pos (em_ex_no.mpr hno)])
    | succ d ih =>
      intro w hw hno
      (repeat (refine em_pure hB kX6_wouldBear rfl ?_))
      refine em_branch kX6_wouldBear rfl (fun (h1 : (8 : Int32) ≤ nI w) => absurd h1 (nI_ge (b := 8) (by omega) (by omega))) (fun _ => ?_)
      (repeat (refine em_pure hB kX6_wouldBear rfl ?_))
      refine em_callV (μ' := mX6_weightWith) (c1 := 6) kX6_wouldBear rfl lX6_64 tX6_weightWith (by decide) rfl (em_ltB hB rfl) (s_weightWith hB (w := nI w) (k := k) (x := x) hx hN hk) rfl rfl (by decide) (Nat.le_of_ble_eq_true rfl) (Nat.le_refl _) (Nat.le_refl _) ?_
      (repeat (refine em_pure hB kX6_wouldBear rfl ?_))
      refine em_branch kX6_wouldBear rfl (fun (h : em_ww I (nI w) k x N ≤ 2000) => ?_) (fun (h : ¬ em_ww I (nI w) k x N ≤ 2000) => ?_)
      · (repeat (refine em_pureT 2 hB kX6_wouldBear rfl rfl ?_))
        refine em_loc (lc' := [(0, .ref 15), (1, .int k), (2, .int x), (3, .int (nI w + 1))]) rfl ?_
        rw [nI_1]
        refine ih (w + 1) (by omega) (fun i hi => ?_)
        by_cases e : i = w
        · rw [e]; exact decide_eq_false (Int32.not_lt.mpr h)
        · exact hno i (by omega)
      · (repeat (refine em_pure hB kX6_wouldBear rfl ?_))
        have hyes : em_ex (em_wb I k x N) 8 = true := em_ex_yes (j := w) (by omega) (decide_eq_true (Int32.not_le.mp h))
        exact em_iret kX6_wouldBear rfl rfl rfl (by rw [hyes]; rfl)
  (repeat (refine em_pureT 2 hB kX6_wouldBear rfl rfl ?_))
  refine em_loc (lc' := [(0, .ref 15), (1, .int k), (2, .int x), (3, .int (nI 0))]) rfl ?_
  exact loop 8 0 (by omega) (fun i hi => by omega)
theorem s_put_no (hB : 85 ≤ n) {b w : Int32} {N : Nat} (hx : I 1 2 = nI N) (hN : N ≤ 40) (hk : ∀ b, b < N → ∃ k, k < 8 ∧ I 4 b = nI k) (h : ¬ ((0 ≤ b ∧ b ≤ I 1 2 - 1) ∧ (-1 ≤ w ∧ w ≤ 7) ∧ ¬ I 16 b.toNatClampNeg = w ∧ (w = -1 ∨ em_ww I w (-1) 0 N + I 3 (I 4 b.toNatClampNeg).toNatClampNeg ≤ 2000))) : em_MC Γ 5 mX6_put [.ref 15, .int b, .int w] (em_hm n m dl I J rv) (some (.int 0)) (em_hm n m dl I J rv) := by
  refine em_MC_of (Nat.le_refl _) (Nat.le_refl _) (by decide +kernel) rfl (Nat.le_of_ble_eq_true rfl) ?_
  (repeat (refine em_pure hB kX6_put rfl ?_))
  refine em_callV (μ' := mX3_isBeast) (c1 := 3) kX6_put rfl lX6_37 tX3_isBeast (by decide) rfl (em_ltB hB rfl) (s_isBeast hB b) rfl rfl (by decide) (Nat.le_of_ble_eq_true rfl) (Nat.le_refl _) (Nat.le_refl _) ?_
  refine em_bz kX6_put rfl (fun h1 => ?_) (fun _ => ?_)
  case refine_2 =>
    (repeat (refine em_pure hB kX6_put rfl ?_))
    exact em_iret kX6_put rfl rfl rfl rfl
  obtain ⟨j, hj, hb⟩ := em_inB2 hx hN h1
  (repeat (refine em_pure hB kX6_put rfl ?_))
  refine em_callS (μ' := mX7_within) kX6_put rfl lX6_43 tX7_within (s_within Γ _ w (-1) 7) rfl rfl (by decide) (Nat.le_of_ble_eq_true rfl) (Nat.le_refl _) (Nat.le_refl _) ?_
  refine em_bz kX6_put rfl (fun h2 => ?_) (fun _ => ?_)
  case refine_2 =>
    (repeat (refine em_pure hB kX6_put rfl ?_))
    exact em_iret kX6_put rfl rfl rfl rfl
  have ej : b.toNatClampNeg = j := by rw [hb, nI_clamp (by omega)]
  obtain ⟨k, hk8, hke⟩ := hk j hj
  rw [ej, hke, nI_clamp (by omega)] at h
  (repeat (refine em_pure hB kX6_put rfl ?_))
  refine em_ia (L := 40) hB kX6_put rfl rfl rfl rfl hb (show j < 40 by omega) rfl ?_
  (repeat (refine em_pure hB kX6_put rfl ?_))
  refine em_branch kX6_put rfl (fun (h3 : ¬ I 16 j = w) => ?_) (fun _ => ?_)
  case refine_2 =>
    (repeat (refine em_pure hB kX6_put rfl ?_))
    exact em_iret kX6_put rfl rfl rfl rfl
  (repeat (refine em_pure hB kX6_put rfl ?_))
  refine em_callV (μ' := mX3_kindOfBeast) (c1 := 3) kX6_put rfl lX6_47 tX3_kindOfBeast (by decide) rfl (em_ltB hB rfl) (s_kindOfBeast hB hx hN hb hj) rfl rfl (by decide) (Nat.le_of_ble_eq_true rfl) (Nat.le_refl _) (Nat.le_refl _) ?_
  refine em_callV (μ' := mX3_weightOfKind) (c1 := 3) kX6_put rfl lX6_51 tX3_weightOfKind (by decide) rfl (em_ltB hB rfl) (s_weightOfKind hB hke hk8) rfl rfl (by decide) (Nat.le_of_ble_eq_true rfl) (Nat.le_refl _) (Nat.le_refl _) ?_
  (repeat (refine em_pure hB kX6_put rfl ?_))
  refine em_branch kX6_put rfl (fun (h4 : w = -1) => absurd ⟨h1, h2, h3, Or.inl h4⟩ h) (fun _ => ?_)
  (repeat (refine em_pure hB kX6_put rfl ?_))
  refine em_callV (μ' := mX6_weightIn) (c1 := 6) kX6_put rfl lX6_54 tX6_weightIn (by decide) rfl (em_ltB hB rfl) (s_weightIn hB (w := w) hx hN hk) rfl rfl (by decide) (Nat.le_of_ble_eq_true rfl) (Nat.le_refl _) (Nat.le_refl _) ?_
  (repeat (refine em_pure hB kX6_put rfl ?_))
  refine em_branch kX6_put rfl (fun (h5 : em_ww I w (-1) 0 N + I 3 k ≤ 2000) => absurd ⟨h1, h2, h3, Or.inr h5⟩ h) (fun _ => ?_)
  (repeat (refine em_pure hB kX6_put rfl ?_))
  exact em_iret kX6_put rfl rfl rfl rfl
theorem s_put_ok (hB : 85 ≤ n) {b w : Int32} {N j : Nat} (hx : I 1 2 = nI N) (hN : N ≤ 40) (hk : ∀ b, b < N → ∃ k, k < 8 ∧ I 4 b = nI k) (hb : b = nI j) (hj : j < N) (h2 : -1 ≤ w ∧ w ≤ 7) (h3 : ¬ I 16 j = w) (h4 : w = -1 ∨ em_ww I w (-1) 0 N + I 3 (I 4 j).toNatClampNeg ≤ 2000) : em_MC Γ 5 mX6_put [.ref 15, .int b, .int w] (em_hm n m dl I J rv) (some (.int 1)) (em_sI (em_hm n m dl I J rv) 16 (va_up (I 16) j w)) := by
  refine em_MC_of (Nat.le_refl _) (Nat.le_refl _) (by decide +kernel) rfl (Nat.le_of_ble_eq_true rfl) ?_
  obtain ⟨k, hk8, hke⟩ := hk j hj
  rw [hke, nI_clamp (by omega)] at h4
  (repeat (refine em_pure hB kX6_put rfl ?_))
  refine em_callV (μ' := mX3_isBeast) (c1 := 3) kX6_put rfl lX6_37 tX3_isBeast (by decide) rfl (em_ltB hB rfl) (s_isBeast hB b) rfl rfl (by decide) (Nat.le_of_ble_eq_true rfl) (Nat.le_refl _) (Nat.le_refl _) ?_
  refine em_bz kX6_put rfl (fun _ => ?_) (fun h => absurd (em_inB hx (by omega) hb hj) h)
  (repeat (refine em_pure hB kX6_put rfl ?_))
  refine em_callS (μ' := mX7_within) kX6_put rfl lX6_43 tX7_within (s_within Γ _ w (-1) 7) rfl rfl (by decide) (Nat.le_of_ble_eq_true rfl) (Nat.le_refl _) (Nat.le_refl _) ?_
  refine em_bz kX6_put rfl (fun _ => ?_) (fun h => absurd h2 h)
  (repeat (refine em_pure hB kX6_put rfl ?_))
  refine em_ia (L := 40) hB kX6_put rfl rfl rfl rfl hb (show j < 40 by omega) rfl ?_
  (repeat (refine em_pure hB kX6_put rfl ?_))
  refine em_branch kX6_put rfl (fun _ => ?_) (fun h => absurd h3 h)
  (repeat (refine em_pure hB kX6_put rfl ?_))
  refine em_callV (μ' := mX3_kindOfBeast) (c1 := 3) kX6_put rfl lX6_47 tX3_kindOfBeast (by decide) rfl (em_ltB hB rfl) (s_kindOfBeast hB hx hN hb hj) rfl rfl (by decide) (Nat.le_of_ble_eq_true rfl) (Nat.le_refl _) (Nat.le_refl _) ?_
  refine em_callV (μ' := mX3_weightOfKind) (c1 := 3) kX6_put rfl lX6_51 tX3_weightOfKind (by decide) rfl (em_ltB hB rfl) (s_weightOfKind hB hke hk8) rfl rfl (by decide) (Nat.le_of_ble_eq_true rfl) (Nat.le_refl _) (Nat.le_refl _) ?_
  (repeat (refine em_pureT 49 hB kX6_put rfl rfl ?_))
  refine em_loc (lc' := [(0, .ref 15), (1, .int b), (2, .int w), (3, .int (I 3 k))]) rfl ?_
  have last : em_EW Γ 5 mX6_put (em_hm n m dl I J rv) (some (.int 1), em_sI (em_hm n m dl I J rv) 16 (va_up (I 16) j w)) 69 [(0, .ref 15), (1, .int b), (2, .int w), (3, .int (I 3 k))] [] (em_hm n m dl I J rv) := by
    (repeat (refine em_pure hB kX6_put rfl ?_))
    refine em_iw (L := 40) hB kX6_put rfl rfl rfl rfl hb (show j < 40 by omega) rfl ?_
    (repeat (refine em_pure hB kX6_put rfl ?_))
    exact em_iret kX6_put rfl rfl rfl rfl
  (repeat (refine em_pure hB kX6_put rfl ?_))
  refine em_branch kX6_put rfl (fun _ => last) (fun (h5 : ¬ w = -1) => ?_)
  (repeat (refine em_pure hB kX6_put rfl ?_))
  refine em_callV (μ' := mX6_weightIn) (c1 := 6) kX6_put rfl lX6_54 tX6_weightIn (by decide) rfl (em_ltB hB rfl) (s_weightIn hB (w := w) hx hN hk) rfl rfl (by decide) (Nat.le_of_ble_eq_true rfl) (Nat.le_refl _) (Nat.le_refl _) ?_
  (repeat (refine em_pure hB kX6_put rfl ?_))
  refine em_branch kX6_put rfl (fun _ => last) (fun h => absurd (h4.resolve_left h5) h)
def em_bit (x : Int32) (k : Nat) : Int32 := if ¬ (x >>> (nI k &&& 31)) &&& 1 = 0 then 1 else 0
theorem s_setBar_no (hB : 85 ≤ n) {x y v : Int32} (h : ¬ ((0 ≤ x ∧ x ≤ 7) ∧ (0 ≤ y ∧ y ≤ 7) ∧ ¬ em_bit (I 17 x.toNatClampNeg) y.toNatClampNeg = v)) : em_MC Γ 2 mX6_setBar [.ref 15, .int x, .int y, .int v] (em_hm n m dl I J rv) (some (.int 0)) (em_hm n m dl I J rv) := by
  refine em_MC_of (Nat.le_refl _) (Nat.le_refl _) (by decide +kernel) rfl (Nat.le_of_ble_eq_true rfl) ?_
  (repeat (refine em_pure hB kX6_setBar rfl ?_))
  refine em_callS (μ' := mX7_isKind) kX6_setBar rfl lX6_57 tX7_isKind (s_isKind Γ _ x) rfl rfl (by decide) (Nat.le_of_ble_eq_true rfl) (Nat.le_refl _) (Nat.le_refl _) ?_
  refine em_bz kX6_setBar rfl (fun h1 => ?_) (fun _ => ?_)
  case refine_2 =>
    (repeat (refine em_pure hB kX6_setBar rfl ?_))
    exact em_iret kX6_setBar rfl rfl rfl rfl
  (repeat (refine em_pure hB kX6_setBar rfl ?_))
  refine em_callS (μ' := mX7_isKind) kX6_setBar rfl lX6_57 tX7_isKind (s_isKind Γ _ y) rfl rfl (by decide) (Nat.le_of_ble_eq_true rfl) (Nat.le_refl _) (Nat.le_refl _) ?_
  refine em_bz kX6_setBar rfl (fun h2 => ?_) (fun _ => ?_)
  case refine_2 =>
    (repeat (refine em_pure hB kX6_setBar rfl ?_))
    exact em_iret kX6_setBar rfl rfl rfl rfl
  obtain ⟨a, ha, rfl⟩ := nI_of2 (M := 7) (n := 7) rfl (Int32.not_lt.mpr h1.1) h1.2
  obtain ⟨b, hb, rfl⟩ := nI_of2 (M := 7) (n := 7) rfl (Int32.not_lt.mpr h2.1) h2.2
  rw [nI_clamp (by omega), nI_clamp (by omega)] at h
  (repeat (refine em_pure hB kX6_setBar rfl ?_))
  refine em_ia (L := 8) hB kX6_setBar rfl rfl rfl rfl rfl (show a < 8 by omega) rfl ?_
  (repeat (refine em_pure hB kX6_setBar rfl ?_))
  refine em_callS (μ' := mX7_has) kX6_setBar rfl lX6_60 tX7_has (s_has Γ _ (I 17 a) (nI b)) rfl rfl (by decide) (Nat.le_of_ble_eq_true rfl) (Nat.le_refl _) (Nat.le_refl _) ?_
  (repeat (refine em_pure hB kX6_setBar rfl ?_))
  refine em_branch kX6_setBar rfl (fun (h3 : ¬ em_bit (I 17 a) b = v) => absurd ⟨h1, h2, h3⟩ h) (fun _ => ?_)
  (repeat (refine em_pure hB kX6_setBar rfl ?_))
  exact em_iret kX6_setBar rfl rfl rfl rfl
def em_sb (v x : Int32) (k : Nat) : Int32 := if v = 0 then x &&& ((1 <<< (nI k &&& 31)) ^^^ (-1)) else x ||| (1 <<< (nI k &&& 31))
theorem s_setBar_ok (hB : 85 ≤ n) {v : Int32} {a b : Nat} (ha : a < 8) (hb : b < 8) (h3 : ¬ em_bit (I 17 a) b = v) : em_MC Γ 2 mX6_setBar [.ref 15, .int (nI a), .int (nI b), .int v] (em_hm n m dl I J rv) (some (.int 1)) (em_sI (em_hm n m dl I J rv) 17 (va_up (va_up (I 17) a (em_sb v (I 17 a) b)) b (em_sb v (va_up (I 17) a (em_sb v (I 17 a) b) b) a))) := by
  refine em_MC_of (Nat.le_refl _) (Nat.le_refl _) (by decide +kernel) rfl (Nat.le_of_ble_eq_true rfl) ?_
  (repeat (refine em_pure hB kX6_setBar rfl ?_))
  refine em_callS (μ' := mX7_isKind) kX6_setBar rfl lX6_57 tX7_isKind (s_isKind Γ _ (nI a)) rfl rfl (by decide) (Nat.le_of_ble_eq_true rfl) (Nat.le_refl _) (Nat.le_refl _) ?_
  refine em_bz kX6_setBar rfl (fun _ => ?_) (fun h => absurd (em_inK rfl ha) h)
  (repeat (refine em_pure hB kX6_setBar rfl ?_))
  refine em_callS (μ' := mX7_isKind) kX6_setBar rfl lX6_57 tX7_isKind (s_isKind Γ _ (nI b)) rfl rfl (by decide) (Nat.le_of_ble_eq_true rfl) (Nat.le_refl _) (Nat.le_refl _) ?_
  refine em_bz kX6_setBar rfl (fun _ => ?_) (fun h => absurd (em_inK rfl hb) h)
  (repeat (refine em_pure hB kX6_setBar rfl ?_))
  refine em_ia (L := 8) hB kX6_setBar rfl rfl rfl rfl rfl ha rfl ?_
  (repeat (refine em_pure hB kX6_setBar rfl ?_))
  refine em_callS (μ' := mX7_has) kX6_setBar rfl lX6_60 tX7_has (s_has Γ _ (I 17 a) (nI b)) rfl rfl (by decide) (Nat.le_of_ble_eq_true rfl) (Nat.le_refl _) (Nat.le_refl _) ?_
  (repeat (refine em_pure hB kX6_setBar rfl ?_))
  refine em_branch kX6_setBar rfl (fun _ => ?_) (fun h => absurd h3 h)
  (repeat (refine em_pure hB kX6_setBar rfl ?_))
  refine em_branch kX6_setBar rfl (fun (h : v = 0) => ?_) (fun (h : ¬ v = 0) => ?_)
  · (repeat (refine em_pure hB kX6_setBar rfl ?_))
    refine em_ia (L := 8) hB kX6_setBar rfl rfl rfl rfl rfl ha rfl ?_
    (repeat (refine em_pure hB kX6_setBar rfl ?_))
    refine em_iw (L := 8) hB kX6_setBar rfl rfl rfl rfl rfl ha rfl ?_
    (repeat (refine em_pure hB kX6_setBar rfl ?_))
    refine em_ia (L := 8) hB kX6_setBar rfl rfl rfl rfl rfl hb rfl ?_
    (repeat (refine em_pure hB kX6_setBar rfl ?_))
    refine em_iw (L := 8) hB kX6_setBar rfl rfl rfl rfl rfl hb rfl ?_
    refine em_hpE (em_sI2 (em_hm n m dl I J rv) 17 _ _) ?_
    (repeat (refine em_pure hB kX6_setBar rfl ?_))
    exact em_iret kX6_setBar rfl rfl rfl (by simp only [em_sb, if_pos h]; rfl)
  · (repeat (refine em_pure hB kX6_setBar rfl ?_))
    refine em_ia (L := 8) hB kX6_setBar rfl rfl rfl rfl rfl ha rfl ?_
    (repeat (refine em_pure hB kX6_setBar rfl ?_))
    refine em_iw (L := 8) hB kX6_setBar rfl rfl rfl rfl rfl ha rfl ?_
    (repeat (refine em_pure hB kX6_setBar rfl ?_))
    refine em_ia (L := 8) hB kX6_setBar rfl rfl rfl rfl rfl hb rfl ?_
    (repeat (refine em_pure hB kX6_setBar rfl ?_))
    refine em_iw (L := 8) hB kX6_setBar rfl rfl rfl rfl rfl hb rfl ?_
    refine em_hpE (em_sI2 (em_hm n m dl I J rv) 17 _ _) ?_
    (repeat (refine em_pure hB kX6_setBar rfl ?_))
    exact em_iret kX6_setBar rfl rfl rfl (by simp only [em_sb, if_neg h]; rfl)
theorem s_meetsFoe (hB : 85 ≤ n) {N j : Nat} (hx : I 1 2 = nI N) (hN : N ≤ 40) (hk : ∀ b, b < N → ∃ k, k < 8 ∧ I 4 b = nI k) (hj : j < N) : em_MC Γ 3 mX6_meetsFoeAhead [.ref 15, .int (nI j)] (em_hm n m dl I J rv) (some (.int (if em_mf I j = true then 1 else 0))) (em_hm n m dl I J rv) := by
  refine em_MC_of (Nat.le_refl _) (Nat.le_refl _) (by decide +kernel) rfl (Nat.le_of_ble_eq_true rfl) ?_
  obtain ⟨k, hk8, hke⟩ := hk j hj
  (repeat (refine em_pure hB kX6_meetsFoeAhead rfl ?_))
  refine em_callV (μ' := mX3_kindOfBeast) (c1 := 3) kX6_meetsFoeAhead rfl lX6_47 tX3_kindOfBeast (by decide) rfl (em_ltB hB rfl) (s_kindOfBeast hB (b := nI j) hx hN rfl hj) rfl rfl (by decide) (Nat.le_of_ble_eq_true rfl) (Nat.le_refl _) (Nat.le_refl _) ?_
  refine em_ia (L := 8) hB kX6_meetsFoeAhead rfl rfl rfl rfl hke hk8 rfl ?_
  have loop : ∀ d o, o + d = j → (∀ i, i < o → em_mf1 I j i = false) → em_EW Γ 3 mX6_meetsFoeAhead (em_hm n m dl I J rv) (some (.int (if em_mf I j = true then 1 else 0)), em_hm n m dl I J rv) 16 [(0, .ref 15), (1, .int (nI j)), (2, .int (I 17 k)), (3, .int (nI o))] [] (em_hm n m dl I J rv) := by
    intro d
    induction d with
    | zero =>
      intro o ho hno
      obtain rfl : o = j := by omega
      (repeat (refine em_pure hB kX6_meetsFoeAhead rfl ?_))
      refine em_branch kX6_meetsFoeAhead rfl (fun _ => ?_) (fun h1 => absurd (Int32.le_refl _) h1)
      (repeat (refine em_pure hB kX6_meetsFoeAhead rfl ?_))
      have e : em_mf I o = false := em_ex_no.mpr hno
      exact em_iret kX6_meetsFoeAhead rfl rfl rfl (by rw [e]; rfl)
    | succ d ih =>
      intro o ho hno
      have next : em_mf1 I j o = false → em_EW Γ 3 mX6_meetsFoeAhead (em_hm n m dl I J rv) (some (.int (if em_mf I j = true then 1 else 0)), em_hm n m dl I J rv) 53 [(0, .ref 15), (1, .int (nI j)), (2, .int (I 17 k)), (3, .int (nI o))] [] (em_hm n m dl I J rv) := by
        intro hf
        (repeat (refine em_pureT 16 hB kX6_meetsFoeAhead rfl rfl ?_))
        refine em_loc (lc' := [(0, .ref 15), (1, .int (nI j)), (2, .int (I 17 k)), (3, .int (nI o + 1))]) rfl ?_
        rw [nI_1]
        refine ih (o + 1) (by omega) (fun i hi => ?_)
        by_cases e : i = o
        · rw [e]; exact hf
        · exact hno i (by omega)
      (repeat (refine em_pure hB kX6_meetsFoeAhead rfl ?_))
      refine em_branch kX6_meetsFoeAhead rfl (fun h1 => absurd h1 (nI_ge (by omega) (by omega))) (fun _ => ?_)
      (repeat (refine em_pure hB kX6_meetsFoeAhead rfl ?_))
      refine em_ia (L := 40) hB kX6_meetsFoeAhead rfl rfl rfl rfl rfl (show o < 40 by omega) rfl ?_
      (repeat (refine em_pure hB kX6_meetsFoeAhead rfl ?_))
      refine em_ia (L := 40) hB kX6_meetsFoeAhead rfl rfl rfl rfl rfl (show j < 40 by omega) rfl ?_
      refine em_branch kX6_meetsFoeAhead rfl (fun (h : ¬ I 16 o = I 16 j) => next (decide_eq_false (fun z => h z.1))) (fun (h : ¬ ¬ I 16 o = I 16 j) => ?_)
      (repeat (refine em_pure hB kX6_meetsFoeAhead rfl ?_))
      refine em_callV (μ' := mX3_kindOfBeast) (c1 := 3) kX6_meetsFoeAhead rfl lX6_47 tX3_kindOfBeast (by decide) rfl (em_ltB hB rfl) (s_kindOfBeast hB (b := nI o) hx hN rfl (show o < N by omega)) rfl rfl (by decide) (Nat.le_of_ble_eq_true rfl) (Nat.le_refl _) (Nat.le_refl _) ?_
      refine em_callS (μ' := mX7_has) kX6_meetsFoeAhead rfl lX6_60 tX7_has (s_has Γ _ (I 17 k) (I 4 o)) rfl rfl (by decide) (Nat.le_of_ble_eq_true rfl) (Nat.le_refl _) (Nat.le_refl _) ?_
      have e1 : em_mf1 I j o = decide (I 16 o = I 16 j ∧ ¬ (I 17 k >>> (I 4 o &&& 31)) &&& 1 = 0) := by rw [em_mf1, hke, nI_clamp (by omega)]
      refine em_bz kX6_meetsFoeAhead rfl (fun h2 => ?_) (fun h2 => next (by rw [e1]; exact decide_eq_false (fun z => h2 z.2)))
      (repeat (refine em_pure hB kX6_meetsFoeAhead rfl ?_))
      have hyes : em_mf I j = true := em_ex_yes (j := o) (by omega) (by rw [e1]; exact decide_eq_true ⟨Decidable.not_not.mp h, h2⟩)
      exact em_iret kX6_meetsFoeAhead rfl rfl rfl (by rw [hyes]; rfl)
  (repeat (refine em_pureT 16 hB kX6_meetsFoeAhead rfl rfl ?_))
  refine em_loc (lc' := [(0, .ref 15), (1, .int (nI j)), (2, .int (I 17 k)), (3, .int (nI 0))]) rfl ?_
  exact loop j 0 (by omega) (fun i hi => by omega)
theorem s_isSound (hB : 85 ≤ n) {N : Nat} {w : Int32} (hx : I 1 2 = nI N) (hN : N ≤ 40) (hk : ∀ b, b < N → ∃ k, k < 8 ∧ I 4 b = nI k) : em_MC Γ 4 mX6_isSound [.ref 15, .int w] (em_hm n m dl I J rv) (some (.int (if em_ex (em_us I w) N = false then 1 else 0))) (em_hm n m dl I J rv) := by
  refine em_MC_of (Nat.le_refl _) (Nat.le_refl _) (by decide +kernel) rfl (Nat.le_of_ble_eq_true rfl) ?_
  have loop : ∀ d j, j + d = N → (∀ i, i < j → em_us I w i = false) → em_EW Γ 4 mX6_isSound (em_hm n m dl I J rv) (some (.int (if em_ex (em_us I w) N = false then 1 else 0)), em_hm n m dl I J rv) 2 [(0, .ref 15), (1, .int w), (2, .int (nI j))] [] (em_hm n m dl I J rv) := by
    intro d
    induction d with
    | zero =>
      intro j hj hno
      obtain rfl : j = N := by omega
      (repeat (refine em_pure hB kX6_isSound rfl ?_))
      refine em_callV (μ' := mX3_size) (c1 := 3) kX6_isSound rfl lX6_68 tX3_size (by decide) rfl (em_ltB hB rfl) (s_size hB) rfl rfl (by decide) (Nat.le_of_ble_eq_true rfl) (Nat.le_refl _) (Nat.le_refl _) ?_
      refine em_branch kX6_isSound rfl (fun _ => ?_) (fun h1 => absurd (by show I 1 2 ≤ nI j; rw [hx]; exact nI_le (Nat.le_refl j) (by omega)) h1)
      (repeat (refine em_pure hB kX6_isSound rfl ?_))
      exact em_iret kX6_isSound rfl rfl rfl (by rw [if_pos (em_ex_no.mpr hno)])
    | succ d ih =>
      intro j hj hno
      have next : em_us I w j = false → em_EW Γ 4 mX6_isSound (em_hm n m dl I J rv) (some (.int (if em_ex (em_us I w) N = false then 1 else 0)), em_hm n m dl I J rv) 33 [(0, .ref 15), (1, .int w), (2, .int (nI j))] [] (em_hm n m dl I J rv) := by
        intro hf
        (repeat (refine em_pureT 2 hB kX6_isSound rfl rfl ?_))
        refine em_loc (lc' := [(0, .ref 15), (1, .int w), (2, .int (nI j + 1))]) rfl ?_
        rw [nI_1]
        refine ih (j + 1) (by omega) (fun i hi => ?_)
        by_cases e : i = j
        · rw [e]; exact hf
        · exact hno i (by omega)
      (repeat (refine em_pure hB kX6_isSound rfl ?_))
      refine em_callV (μ' := mX3_size) (c1 := 3) kX6_isSound rfl lX6_68 tX3_size (by decide) rfl (em_ltB hB rfl) (s_size hB) rfl rfl (by decide) (Nat.le_of_ble_eq_true rfl) (Nat.le_refl _) (Nat.le_refl _) ?_
      refine em_branch kX6_isSound rfl (fun h1 => absurd h1 (by show ¬ I 1 2 ≤ nI j; rw [hx]; exact nI_ge (by omega) (by omega))) (fun _ => ?_)
      (repeat (refine em_pure hB kX6_isSound rfl ?_))
      refine em_ia (L := 40) hB kX6_isSound rfl rfl rfl rfl rfl (show j < 40 by omega) rfl ?_
      (repeat (refine em_pure hB kX6_isSound rfl ?_))
      refine em_branch kX6_isSound rfl (fun (h : ¬ I 16 j = w) => next (decide_eq_false (fun z => h z.1))) (fun (h : ¬ ¬ I 16 j = w) => ?_)
      (repeat (refine em_pure hB kX6_isSound rfl ?_))
      refine em_callV (μ' := mX6_meetsFoeAhead) (c1 := 6) kX6_isSound rfl lX6_75 tX6_meetsFoeAhead (by decide) rfl (em_ltB hB rfl) (s_meetsFoe hB hx hN hk (show j < N by omega)) rfl rfl (by decide) (Nat.le_of_ble_eq_true rfl) (Nat.le_refl _) (Nat.le_refl _) ?_
      refine em_bz kX6_isSound rfl (fun h2 => ?_) (fun h2 => next (decide_eq_false (fun z => h2 z.2)))
      (repeat (refine em_pure hB kX6_isSound rfl ?_))
      have hyes : em_ex (em_us I w) N = true := em_ex_yes (j := j) (by omega) (decide_eq_true ⟨Decidable.not_not.mp h, h2⟩)
      exact em_iret kX6_isSound rfl rfl rfl (by rw [hyes]; rfl)
  (repeat (refine em_pureT 2 hB kX6_isSound rfl rfl ?_))
  refine em_loc (lc' := [(0, .ref 15), (1, .int w), (2, .int (nI 0))]) rfl ?_
  exact loop N 0 (by omega) (fun i hi => by omega)
end Wagons
