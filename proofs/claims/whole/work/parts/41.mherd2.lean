/-! THE REFERENCE'S KINDS, BEASTS, WAGONS -/
theorem em_uuI {α : Type} (f : Nat → α) (j : Nat) (w : α) : va_up (va_up f j w) j (f j) = f := by
  rw [bx_uu]
  exact em_va_id f j
def em_bad (I : Nat → Nat → Int32) (N : Nat) (x : Nat) : Bool := decide (2000 < em_mw I (nI x) N)
section MHerd2
variable {Γ : em_Cx} {n m : Nat} {dl : Nat → Nat} {I : Nat → Nat → Int32} {J : Nat → Nat → Int64} {rv : em_Rv}
theorem s_mKind_no (hB : 85 ≤ n) {k f w : Int32} (h : ¬ ((0 ≤ k ∧ k ≤ 7) ∧ (0 ≤ f ∧ f ≤ 100) ∧ (1 ≤ w ∧ w ≤ 1000))) : em_MC Γ 1 mX8_kind [.ref 53, .int k, .int f, .int w] (em_hm n m dl I J rv) (some (.int 0)) (em_hm n m dl I J rv) := by
  refine em_MC_of (Nat.le_refl _) (Nat.le_refl _) (by decide +kernel) rfl (Nat.le_of_ble_eq_true rfl) ?_
  (repeat (refine em_pure hB kX8_kind rfl ?_))
  refine em_callS (μ' := mX8_in) kX8_kind rfl lX8_112 tX8_in (s_in Γ _ k 0 7) rfl rfl (by decide) (Nat.le_of_ble_eq_true rfl) (Nat.le_refl _) (Nat.le_refl _) ?_
  refine em_bz kX8_kind rfl (fun h1 => ?_) (fun _ => ?_)
  · (repeat (refine em_pure hB kX8_kind rfl ?_))
    refine em_callS (μ' := mX8_in) kX8_kind rfl lX8_112 tX8_in (s_in Γ _ f 0 100) rfl rfl (by decide) (Nat.le_of_ble_eq_true rfl) (Nat.le_refl _) (Nat.le_refl _) ?_
    refine em_bz kX8_kind rfl (fun h2 => ?_) (fun _ => ?_)
    · (repeat (refine em_pure hB kX8_kind rfl ?_))
      refine em_callS (μ' := mX8_in) kX8_kind rfl lX8_112 tX8_in (s_in Γ _ w 1 1000) rfl rfl (by decide) (Nat.le_of_ble_eq_true rfl) (Nat.le_refl _) (Nat.le_refl _) ?_
      refine em_bn kX8_kind rfl (fun h3 => absurd ⟨h1, h2, h3⟩ h) (fun _ => ?_)
      (repeat (refine em_pure hB kX8_kind rfl ?_))
      exact em_iret kX8_kind rfl rfl rfl rfl
    · (repeat (refine em_pure hB kX8_kind rfl ?_))
      exact em_iret kX8_kind rfl rfl rfl rfl
  · (repeat (refine em_pure hB kX8_kind rfl ?_))
    exact em_iret kX8_kind rfl rfl rfl rfl
abbrev em_w55 (I : Nat → Nat → Int32) (j : Nat) (w : Int32) : Nat → Nat → Int32 := va_up I 55 (va_up (I 55) j w)
theorem s_mKind_go (hB : 85 ≤ n) {k f w : Int32} {j N : Nat} (hk : k = nI j) (hj : j < 8) (h1 : 0 ≤ k ∧ k ≤ 7) (h2 : 0 ≤ f ∧ f ≤ 100) (h3 : 1 ≤ w ∧ w ≤ 1000) (hx : I 53 1 = nI N) (hN : N ≤ 40) (hkk : ∀ b, b < N → ∃ k, k < 8 ∧ I 56 b = nI k) {fin : Option Value × em_Hp} (f1 : em_n fin.2 = n) (f2 : em_m fin.2 = m)
    (c : em_EW Γ 1 mX8_kind (em_hm n m dl I J rv) fin 91 [(0, .ref 53), (1, .int k), (2, .int f), (3, .int w), (4, .int (I 55 j)), (5, .int (if em_ex (em_bad (em_w55 I j w) N) 8 = false then 1 else 0))] [] (em_hm n m dl (em_w55 I j w) J rv)) :
    em_EW Γ 1 mX8_kind (em_hm n m dl I J rv) fin 0 (lv_args 0 [.ref 53, .int k, .int f, .int w]) [] (em_hm n m dl I J rv) := by
  have loop : ∀ d x, x + d = 8 → em_EW Γ 1 mX8_kind (em_hm n m dl I J rv) fin 54 [(0, .ref 53), (1, .int k), (2, .int f), (3, .int w), (4, .int (I 55 j)), (5, .int (if em_ex (em_bad (em_w55 I j w) N) x = false then 1 else 0)), (6, .int (nI x))] [] (em_hm n m dl (em_w55 I j w) J rv) := by
    intro d
    induction d with
    | zero =>
      intro x hd
      obtain rfl : x = 8 := by omega
      (repeat (refine em_pure hB kX8_kind rfl ?_))
      refine em_branch kX8_kind rfl (fun _ => ?_) (fun h => absurd (by decide) h)
      exact em_loc (lc' := [(0, .ref 53), (1, .int k), (2, .int f), (3, .int w), (4, .int (I 55 j)), (5, .int (if em_ex (em_bad (em_w55 I j w) N) 8 = false then 1 else 0))]) rfl c
    | succ d ih =>
      intro x hd
      have next : ∀ z : Int32, z = (if em_ex (em_bad (em_w55 I j w) N) (x + 1) = false then 1 else 0) → em_EW Γ 1 mX8_kind (em_hm n m dl I J rv) fin 83 [(0, .ref 53), (1, .int k), (2, .int f), (3, .int w), (4, .int (I 55 j)), (6, .int (nI x))] [.int z] (em_hm n m dl (em_w55 I j w) J rv) := by
        intro z hz
        (repeat (refine em_pureT 54 hB kX8_kind rfl rfl ?_))
        refine em_loc (lc' := [(0, .ref 53), (1, .int k), (2, .int f), (3, .int w), (4, .int (I 55 j)), (5, .int z), (6, .int (nI x + 1))]) rfl ?_
        rw [nI_1, hz]
        exact ih (x + 1) (by omega)
      (repeat (refine em_pure hB kX8_kind rfl ?_))
      refine em_branch kX8_kind rfl (fun (h : (8 : Int32) ≤ nI x) => absurd h (nI_ge (b := 8) (by omega) (by omega))) (fun _ => ?_)
      (repeat (refine em_pure hB kX8_kind rfl ?_))
      refine em_bz kX8_kind rfl (fun (h : em_ex (em_bad (em_w55 I j w) N) x = false) => ?_) (fun (h : ¬ em_ex (em_bad (em_w55 I j w) N) x = false) => ?_)
      · (repeat (refine em_pure hB kX8_kind rfl ?_))
        refine em_callV (μ' := mX8_weightOf) (c1 := 8) kX8_kind rfl lX8_119 tX8_weightOf (by decide) rfl (em_ltB hB rfl) (s_mWeightOf (I := em_w55 I j w) hB (w := nI x) hx hN hkk) rfl rfl (by decide) (Nat.le_of_ble_eq_true rfl) (by rw [f1]; exact Nat.le_refl _) (by rw [f2]; exact Nat.le_refl _) ?_
        (repeat (refine em_pure hB kX8_kind rfl ?_))
        refine em_branch kX8_kind rfl (fun (h5 : 2000 < em_mw (em_w55 I j w) (nI x) N) => ?_) (fun (h5 : ¬ 2000 < em_mw (em_w55 I j w) (nI x) N) => ?_)
        · (repeat (refine em_pureT 83 hB kX8_kind rfl rfl ?_))
          refine em_loc (lc' := [(0, .ref 53), (1, .int k), (2, .int f), (3, .int w), (4, .int (I 55 j)), (6, .int (nI x))]) rfl (next 0 ?_)
          rw [if_neg]
          rw [em_ex, show em_bad (em_w55 I j w) N x = true from decide_eq_true h5, Bool.or_true]
          decide
        · (repeat (refine em_pureT 83 hB kX8_kind rfl rfl ?_))
          refine em_loc (lc' := [(0, .ref 53), (1, .int k), (2, .int f), (3, .int w), (4, .int (I 55 j)), (6, .int (nI x))]) rfl (next 1 ?_)
          rw [if_pos]
          rw [em_ex, h, show em_bad (em_w55 I j w) N x = false from decide_eq_false h5]
          rfl
      · (repeat (refine em_pureT 83 hB kX8_kind rfl rfl ?_))
        refine em_loc (lc' := [(0, .ref 53), (1, .int k), (2, .int f), (3, .int w), (4, .int (I 55 j)), (6, .int (nI x))]) rfl (next 0 ?_)
        rw [if_neg]
        rw [em_ex, show em_ex (em_bad (em_w55 I j w) N) x = true by simpa using h]
        simp
  (repeat (refine em_pure hB kX8_kind rfl ?_))
  refine em_callS (μ' := mX8_in) kX8_kind rfl lX8_112 tX8_in (s_in Γ _ k 0 7) rfl rfl (by decide) (Nat.le_of_ble_eq_true rfl) (by rw [f1]; exact Nat.le_refl _) (by rw [f2]; exact Nat.le_refl _) ?_
  refine em_bz kX8_kind rfl (fun _ => ?_) (fun h => absurd h1 h)
  (repeat (refine em_pure hB kX8_kind rfl ?_))
  refine em_callS (μ' := mX8_in) kX8_kind rfl lX8_112 tX8_in (s_in Γ _ f 0 100) rfl rfl (by decide) (Nat.le_of_ble_eq_true rfl) (by rw [f1]; exact Nat.le_refl _) (by rw [f2]; exact Nat.le_refl _) ?_
  refine em_bz kX8_kind rfl (fun _ => ?_) (fun h => absurd h2 h)
  (repeat (refine em_pure hB kX8_kind rfl ?_))
  refine em_callS (μ' := mX8_in) kX8_kind rfl lX8_112 tX8_in (s_in Γ _ w 1 1000) rfl rfl (by decide) (Nat.le_of_ble_eq_true rfl) (by rw [f1]; exact Nat.le_refl _) (by rw [f2]; exact Nat.le_refl _) ?_
  refine em_bn kX8_kind rfl (fun _ => ?_) (fun h => absurd h3 h)
  (repeat (refine em_pure hB kX8_kind rfl ?_))
  refine em_ia (L := 8) hB kX8_kind rfl rfl rfl rfl hk hj rfl ?_
  (repeat (refine em_pure hB kX8_kind rfl ?_))
  refine em_iw (L := 8) hB kX8_kind rfl rfl rfl rfl hk hj rfl ?_
  (repeat (refine em_pureT 54 hB kX8_kind rfl rfl ?_))
  refine em_loc (lc' := [(0, .ref 53), (1, .int k), (2, .int f), (3, .int w), (4, .int (I 55 j)), (5, .int 1), (6, .int (nI 0))]) rfl ?_
  exact loop 8 0 (by omega)
theorem s_mKind_bad (hB : 85 ≤ n) {k f w : Int32} {j N : Nat} (hk : k = nI j) (hj : j < 8) (h1 : 0 ≤ k ∧ k ≤ 7) (h2 : 0 ≤ f ∧ f ≤ 100) (h3 : 1 ≤ w ∧ w ≤ 1000) (hx : I 53 1 = nI N) (hN : N ≤ 40) (hkk : ∀ b, b < N → ∃ k, k < 8 ∧ I 56 b = nI k) (hb : ¬ em_ex (em_bad (em_w55 I j w) N) 8 = false) : em_MC Γ 1 mX8_kind [.ref 53, .int k, .int f, .int w] (em_hm n m dl I J rv) (some (.int 0)) (em_hm n m dl I J rv) := by
  refine em_MC_of (Nat.le_refl _) (Nat.le_refl _) (by decide +kernel) rfl (Nat.le_of_ble_eq_true rfl) ?_
  refine s_mKind_go hB hk hj h1 h2 h3 hx hN hkk rfl rfl ?_
  (repeat (refine em_pure hB kX8_kind rfl ?_))
  refine em_bn kX8_kind rfl (fun h => absurd h hb) (fun _ => ?_)
  (repeat (refine em_pure hB kX8_kind rfl ?_))
  refine em_iw (L := 8) hB kX8_kind rfl rfl rfl rfl hk hj rfl ?_
  refine em_hpE (hp' := em_hm n m dl I J rv) ((em_sI2 (em_hm n m dl I J rv) 55 _ _).trans (by
    show em_sI (em_hm n m dl I J rv) 55 (va_up (va_up (I 55) j w) j (I 55 j)) = _
    rw [em_uuI]
    exact em_sI_id (em_hm n m dl I J rv) 55)) ?_
  (repeat (refine em_pure hB kX8_kind rfl ?_))
  exact em_iret kX8_kind rfl rfl rfl rfl
theorem s_mKind_ok (hB : 85 ≤ n) {k f w : Int32} {j N : Nat} (hk : k = nI j) (hj : j < 8) (h1 : 0 ≤ k ∧ k ≤ 7) (h2 : 0 ≤ f ∧ f ≤ 100) (h3 : 1 ≤ w ∧ w ≤ 1000) (hx : I 53 1 = nI N) (hN : N ≤ 40) (hkk : ∀ b, b < N → ∃ k, k < 8 ∧ I 56 b = nI k) (hb : em_ex (em_bad (em_w55 I j w) N) 8 = false) : em_MC Γ 1 mX8_kind [.ref 53, .int k, .int f, .int w] (em_hm n m dl I J rv) (some (.int 1)) (em_hm n m dl (va_up (em_w55 I j w) 54 (va_up (I 54) j f)) J rv) := by
  refine em_MC_of (Nat.le_refl _) (Nat.le_refl _) (by decide +kernel) rfl (Nat.le_of_ble_eq_true rfl) ?_
  refine s_mKind_go hB hk hj h1 h2 h3 hx hN hkk rfl rfl ?_
  (repeat (refine em_pure hB kX8_kind rfl ?_))
  refine em_bn kX8_kind rfl (fun _ => ?_) (fun h => absurd hb h)
  (repeat (refine em_pure hB kX8_kind rfl ?_))
  refine em_iw (L := 8) hB kX8_kind rfl rfl rfl rfl hk hj rfl ?_
  (repeat (refine em_pure hB kX8_kind rfl ?_))
  exact em_iret kX8_kind rfl rfl rfl rfl
theorem s_mBeast_no (hB : 85 ≤ n) {k f : Int32} (h : ¬ ((0 ≤ k ∧ k ≤ 7) ∧ (0 ≤ f ∧ f ≤ I 53 0) ∧ ¬ I 53 1 = 40)) : em_MC Γ 2 mX8_beast [.ref 53, .int k, .int f] (em_hm n m dl I J rv) (some (.int (-1))) (em_hm n m dl I J rv) := by
  refine em_MC_of (Nat.le_refl _) (Nat.le_refl _) (by decide +kernel) rfl (Nat.le_of_ble_eq_true rfl) ?_
  (repeat (refine em_pure hB kX8_beast rfl ?_))
  refine em_callS (μ' := mX8_in) kX8_beast rfl lX8_112 tX8_in (s_in Γ _ k 0 7) rfl rfl (by decide) (Nat.le_of_ble_eq_true rfl) (Nat.le_refl _) (Nat.le_refl _) ?_
  refine em_bz kX8_beast rfl (fun h1 => ?_) (fun _ => ?_)
  · (repeat (refine em_pure hB kX8_beast rfl ?_))
    refine em_callV (μ' := mX8_isDay) (c1 := 8) kX8_beast rfl lX8_123 tX8_isDay (by decide) rfl (em_ltB hB rfl) (s_mIsDay hB f) rfl rfl (by decide) (Nat.le_of_ble_eq_true rfl) (Nat.le_refl _) (Nat.le_refl _) ?_
    refine em_bz kX8_beast rfl (fun h2 => ?_) (fun _ => ?_)
    · (repeat (refine em_pure hB kX8_beast rfl ?_))
      refine em_branch kX8_beast rfl (fun (h3 : ¬ I 53 1 = 40) => absurd ⟨h1, h2, h3⟩ h) (fun _ => ?_)
      (repeat (refine em_pure hB kX8_beast rfl ?_))
      exact em_iret kX8_beast rfl rfl rfl rfl
    · (repeat (refine em_pure hB kX8_beast rfl ?_))
      exact em_iret kX8_beast rfl rfl rfl rfl
  · (repeat (refine em_pure hB kX8_beast rfl ?_))
    exact em_iret kX8_beast rfl rfl rfl rfl
theorem s_mBeast_ok (hB : 85 ≤ n) {k f : Int32} {N : Nat} (hx : I 53 1 = nI N) (hN : N < 40) (h1 : 0 ≤ k ∧ k ≤ 7) (h2 : 0 ≤ f ∧ f ≤ I 53 0) : em_MC Γ 2 mX8_beast [.ref 53, .int k, .int f] (em_hm n m dl I J rv) (some (.int (nI N))) (em_sI (em_sI (em_sI (em_sI (em_sI (em_hm n m dl I J rv) 56 (va_up (I 56) N k)) 57 (va_up (I 57) N f)) 58 (va_up (I 58) N (I 53 0))) 59 (va_up (I 59) N (-1))) 53 (va_up (I 53) 1 (I 53 1 + 1))) := by
  refine em_MC_of (Nat.le_refl _) (Nat.le_refl _) (by decide +kernel) rfl (Nat.le_of_ble_eq_true rfl) ?_
  (repeat (refine em_pure hB kX8_beast rfl ?_))
  refine em_callS (μ' := mX8_in) kX8_beast rfl lX8_112 tX8_in (s_in Γ _ k 0 7) rfl rfl (by decide) (Nat.le_of_ble_eq_true rfl) (Nat.le_refl _) (Nat.le_refl _) ?_
  refine em_bz kX8_beast rfl (fun _ => ?_) (fun h => absurd h1 h)
  (repeat (refine em_pure hB kX8_beast rfl ?_))
  refine em_callV (μ' := mX8_isDay) (c1 := 8) kX8_beast rfl lX8_123 tX8_isDay (by decide) rfl (em_ltB hB rfl) (s_mIsDay hB f) rfl rfl (by decide) (Nat.le_of_ble_eq_true rfl) (Nat.le_refl _) (Nat.le_refl _) ?_
  refine em_bz kX8_beast rfl (fun _ => ?_) (fun h => absurd h2 h)
  (repeat (refine em_pure hB kX8_beast rfl ?_))
  refine em_branch kX8_beast rfl (fun _ => ?_) (fun (h : ¬ ¬ I 53 1 = 40) => absurd (fun z => by rw [hx] at z; have := (nI_eq (b := 40) (by omega) (by omega)).mp z; omega) h)
  (repeat (refine em_pure hB kX8_beast rfl ?_))
  refine em_iw (L := 40) hB kX8_beast rfl rfl rfl rfl hx hN rfl ?_
  (repeat (refine em_pure hB kX8_beast rfl ?_))
  refine em_iw (L := 40) hB kX8_beast rfl rfl rfl rfl hx hN rfl ?_
  (repeat (refine em_pure hB kX8_beast rfl ?_))
  refine em_iw (L := 40) hB kX8_beast rfl rfl rfl rfl hx hN rfl ?_
  (repeat (refine em_pure hB kX8_beast rfl ?_))
  refine em_iw (L := 40) hB kX8_beast rfl rfl rfl rfl hx hN rfl ?_
  (repeat (refine em_pure hB kX8_beast rfl ?_))
  refine em_pi hB kX8_beast rfl rfl rfl rfl rfl rfl rfl ?_
  (repeat (refine em_pure hB kX8_beast rfl ?_))
  exact em_iret kX8_beast rfl rfl rfl (Prod.ext (congrArg (fun z => some (Value.int z)) (show nI N = I 53 1 + 1 - 1 by rw [hx, nI_1, nI_pred])) rfl)
theorem s_mGone_no (hB : 85 ≤ n) {b f : Int32} {N : Nat} (hx : I 53 1 = nI N) (hN : N ≤ 40) (h : ¬ ((0 ≤ b ∧ b ≤ I 53 1 - 1) ∧ (f = -1 ∨ (I 57 b.toNatClampNeg ≤ f ∧ f ≤ I 53 0)) ∧ ¬ I 53 2 = 200)) : em_MC Γ 2 mX8_gone [.ref 53, .int b, .int f] (em_hm n m dl I J rv) (some (.int 0)) (em_hm n m dl I J rv) := by
  refine em_MC_of (Nat.le_refl _) (Nat.le_refl _) (by decide +kernel) rfl (Nat.le_of_ble_eq_true rfl) ?_
  (repeat (refine em_pure hB kX8_gone rfl ?_))
  refine em_callV (μ' := mX8_isBeast) (c1 := 8) kX8_gone rfl lX8_127 tX8_isBeast (by decide) rfl (em_ltB hB rfl) (s_mIsBeast hB b) rfl rfl (by decide) (Nat.le_of_ble_eq_true rfl) (Nat.le_refl _) (Nat.le_refl _) ?_
  refine em_bz kX8_gone rfl (fun h1 => ?_) (fun _ => ?_)
  case refine_2 =>
    (repeat (refine em_pure hB kX8_gone rfl ?_))
    exact em_iret kX8_gone rfl rfl rfl rfl
  obtain ⟨j, hj, hb⟩ := em_inB2 hx hN h1
  have last : (f = -1 ∨ (I 57 b.toNatClampNeg ≤ f ∧ f ≤ I 53 0)) → em_EW Γ 2 mX8_gone (em_hm n m dl I J rv) (some (.int 0), em_hm n m dl I J rv) 30 [(0, .ref 53), (1, .int b), (2, .int f)] [] (em_hm n m dl I J rv) := by
    intro h2
    (repeat (refine em_pure hB kX8_gone rfl ?_))
    refine em_branch kX8_gone rfl (fun (h3 : ¬ I 53 2 = 200) => absurd ⟨h1, h2, h3⟩ h) (fun _ => ?_)
    (repeat (refine em_pure hB kX8_gone rfl ?_))
    exact em_iret kX8_gone rfl rfl rfl rfl
  (repeat (refine em_pure hB kX8_gone rfl ?_))
  refine em_branch kX8_gone rfl (fun (h2 : f = -1) => last (Or.inl h2)) (fun _ => ?_)
  (repeat (refine em_pure hB kX8_gone rfl ?_))
  refine em_ia (L := 40) hB kX8_gone rfl rfl rfl rfl hb (show j < 40 by omega) rfl ?_
  (repeat (refine em_pure hB kX8_gone rfl ?_))
  refine em_callS (μ' := mX8_in) kX8_gone rfl lX8_112 tX8_in (s_in Γ _ f (I 57 j) (I 53 0)) rfl rfl (by decide) (Nat.le_of_ble_eq_true rfl) (Nat.le_refl _) (Nat.le_refl _) ?_
  refine em_bz kX8_gone rfl (fun h2 => last (Or.inr (by rw [hb, nI_clamp (by omega)]; exact h2))) (fun _ => ?_)
  (repeat (refine em_pure hB kX8_gone rfl ?_))
  exact em_iret kX8_gone rfl rfl rfl rfl
theorem s_mGone_ok (hB : 85 ≤ n) {b f : Int32} {N G j : Nat} (hx : I 53 1 = nI N) (hN : N ≤ 40) (hg : I 53 2 = nI G) (hG : G < 200) (hb : b = nI j) (hj : j < N) (hf : f = -1 ∨ (I 57 j ≤ f ∧ f ≤ I 53 0)) : em_MC Γ 2 mX8_gone [.ref 53, .int b, .int f] (em_hm n m dl I J rv) (some (.int 1)) (em_sI (em_sI (em_sI (em_sI (em_hm n m dl I J rv) 60 (va_up (I 60) G b)) 61 (va_up (I 61) G f)) 62 (va_up (I 62) G (I 53 0))) 53 (va_up (I 53) 2 (I 53 2 + 1))) := by
  refine em_MC_of (Nat.le_refl _) (Nat.le_refl _) (by decide +kernel) rfl (Nat.le_of_ble_eq_true rfl) ?_
  (repeat (refine em_pure hB kX8_gone rfl ?_))
  refine em_callV (μ' := mX8_isBeast) (c1 := 8) kX8_gone rfl lX8_127 tX8_isBeast (by decide) rfl (em_ltB hB rfl) (s_mIsBeast hB b) rfl rfl (by decide) (Nat.le_of_ble_eq_true rfl) (Nat.le_refl _) (Nat.le_refl _) ?_
  refine em_bz kX8_gone rfl (fun _ => ?_) (fun h => absurd (em_inB hx (by omega) hb hj) h)
  have last : em_EW Γ 2 mX8_gone (em_hm n m dl I J rv) (some (.int 1), em_sI (em_sI (em_sI (em_sI (em_hm n m dl I J rv) 60 (va_up (I 60) G b)) 61 (va_up (I 61) G f)) 62 (va_up (I 62) G (I 53 0))) 53 (va_up (I 53) 2 (I 53 2 + 1))) 30 [(0, .ref 53), (1, .int b), (2, .int f)] [] (em_hm n m dl I J rv) := by
    (repeat (refine em_pure hB kX8_gone rfl ?_))
    refine em_branch kX8_gone rfl (fun _ => ?_) (fun (h : ¬ ¬ I 53 2 = 200) => absurd (fun z => by rw [hg] at z; have := (nI_eq (b := 200) (by omega) (by omega)).mp z; omega) h)
    (repeat (refine em_pure hB kX8_gone rfl ?_))
    refine em_iw (L := 200) hB kX8_gone rfl rfl rfl rfl hg hG rfl ?_
    (repeat (refine em_pure hB kX8_gone rfl ?_))
    refine em_iw (L := 200) hB kX8_gone rfl rfl rfl rfl hg hG rfl ?_
    (repeat (refine em_pure hB kX8_gone rfl ?_))
    refine em_iw (L := 200) hB kX8_gone rfl rfl rfl rfl hg hG rfl ?_
    (repeat (refine em_pure hB kX8_gone rfl ?_))
    refine em_pi hB kX8_gone rfl rfl rfl rfl rfl rfl rfl ?_
    (repeat (refine em_pure hB kX8_gone rfl ?_))
    exact em_iret kX8_gone rfl rfl rfl rfl
  (repeat (refine em_pure hB kX8_gone rfl ?_))
  refine em_branch kX8_gone rfl (fun _ => last) (fun (h2 : ¬ f = -1) => ?_)
  (repeat (refine em_pure hB kX8_gone rfl ?_))
  refine em_ia (L := 40) hB kX8_gone rfl rfl rfl rfl hb (show j < 40 by omega) rfl ?_
  (repeat (refine em_pure hB kX8_gone rfl ?_))
  refine em_callS (μ' := mX8_in) kX8_gone rfl lX8_112 tX8_in (s_in Γ _ f (I 57 j) (I 53 0)) rfl rfl (by decide) (Nat.le_of_ble_eq_true rfl) (Nat.le_refl _) (Nat.le_refl _) ?_
  refine em_bz kX8_gone rfl (fun _ => last) (fun h => absurd (hf.resolve_left h2) h)
theorem s_mHere_no (hB : 85 ≤ n) {b d q : Int32} (h : ¬ ((0 ≤ b ∧ b ≤ I 53 1 - 1) ∧ (0 ≤ d ∧ d ≤ I 53 0) ∧ (0 ≤ q ∧ q ≤ I 53 0))) : em_MC Γ 2 mX8_here [.ref 53, .int b, .int d, .int q] (em_hm n m dl I J rv) (some (.int 0)) (em_hm n m dl I J rv) := by
  refine em_MC_of (Nat.le_refl _) (Nat.le_refl _) (by decide +kernel) rfl (Nat.le_of_ble_eq_true rfl) ?_
  (repeat (refine em_pure hB kX8_here rfl ?_))
  refine em_callV (μ' := mX8_isBeast) (c1 := 8) kX8_here rfl lX8_127 tX8_isBeast (by decide) rfl (em_ltB hB rfl) (s_mIsBeast hB b) rfl rfl (by decide) (Nat.le_of_ble_eq_true rfl) (Nat.le_refl _) (Nat.le_refl _) ?_
  refine em_bz kX8_here rfl (fun h1 => ?_) (fun _ => ?_)
  · (repeat (refine em_pure hB kX8_here rfl ?_))
    refine em_callV (μ' := mX8_isDay) (c1 := 8) kX8_here rfl lX8_123 tX8_isDay (by decide) rfl (em_ltB hB rfl) (s_mIsDay hB d) rfl rfl (by decide) (Nat.le_of_ble_eq_true rfl) (Nat.le_refl _) (Nat.le_refl _) ?_
    refine em_bz kX8_here rfl (fun h2 => ?_) (fun _ => ?_)
    · (repeat (refine em_pure hB kX8_here rfl ?_))
      refine em_callV (μ' := mX8_isDay) (c1 := 8) kX8_here rfl lX8_123 tX8_isDay (by decide) rfl (em_ltB hB rfl) (s_mIsDay hB q) rfl rfl (by decide) (Nat.le_of_ble_eq_true rfl) (Nat.le_refl _) (Nat.le_refl _) ?_
      refine em_bz kX8_here rfl (fun h3 => absurd ⟨h1, h2, h3⟩ h) (fun _ => ?_)
      (repeat (refine em_pure hB kX8_here rfl ?_))
      exact em_iret kX8_here rfl rfl rfl rfl
    · (repeat (refine em_pure hB kX8_here rfl ?_))
      exact em_iret kX8_here rfl rfl rfl rfl
  · (repeat (refine em_pure hB kX8_here rfl ?_))
    exact em_iret kX8_here rfl rfl rfl rfl
theorem s_mHere_ok (hB : 85 ≤ n) {b d q : Int32} {N G j : Nat} (hx : I 53 1 = nI N) (hN : N ≤ 40) (hg : I 53 2 = nI G) (hG : G ≤ 200) (hb : b = nI j) (hj : j < N) (h2 : 0 ≤ d ∧ d ≤ I 53 0) (h3 : 0 ≤ q ∧ q ≤ I 53 0) : em_MC Γ 2 mX8_here [.ref 53, .int b, .int d, .int q] (em_hm n m dl I J rv) (some (.int (if em_msd I G j d q then 1 else 0))) (em_hm n m dl I J rv) := by
  refine em_MC_of (Nat.le_refl _) (Nat.le_refl _) (by decide +kernel) rfl (Nat.le_of_ble_eq_true rfl) ?_
  (repeat (refine em_pure hB kX8_here rfl ?_))
  refine em_callV (μ' := mX8_isBeast) (c1 := 8) kX8_here rfl lX8_127 tX8_isBeast (by decide) rfl (em_ltB hB rfl) (s_mIsBeast hB b) rfl rfl (by decide) (Nat.le_of_ble_eq_true rfl) (Nat.le_refl _) (Nat.le_refl _) ?_
  refine em_bz kX8_here rfl (fun _ => ?_) (fun h => absurd (em_inB hx (by omega) hb hj) h)
  (repeat (refine em_pure hB kX8_here rfl ?_))
  refine em_callV (μ' := mX8_isDay) (c1 := 8) kX8_here rfl lX8_123 tX8_isDay (by decide) rfl (em_ltB hB rfl) (s_mIsDay hB d) rfl rfl (by decide) (Nat.le_of_ble_eq_true rfl) (Nat.le_refl _) (Nat.le_refl _) ?_
  refine em_bz kX8_here rfl (fun _ => ?_) (fun h => absurd h2 h)
  (repeat (refine em_pure hB kX8_here rfl ?_))
  refine em_callV (μ' := mX8_isDay) (c1 := 8) kX8_here rfl lX8_123 tX8_isDay (by decide) rfl (em_ltB hB rfl) (s_mIsDay hB q) rfl rfl (by decide) (Nat.le_of_ble_eq_true rfl) (Nat.le_refl _) (Nat.le_refl _) ?_
  refine em_bz kX8_here rfl (fun _ => ?_) (fun h => absurd h3 h)
  (repeat (refine em_pure hB kX8_here rfl ?_))
  refine em_callV (μ' := mX8_isHere) (c1 := 8) kX8_here rfl lX8_133 tX8_isHere (by decide) rfl (em_ltB hB rfl) (s_mIsHere hB (d := d) (q := q) (j := j) hg hG hb (by omega)) rfl rfl (by decide) (Nat.le_of_ble_eq_true rfl) (Nat.le_refl _) (Nat.le_refl _) ?_
  refine em_bz kX8_here rfl (fun h => ?_) (fun h => ?_)
  · (repeat (refine em_pure hB kX8_here rfl ?_))
    exact em_iret kX8_here rfl rfl rfl (by rw [if_pos h])
  · (repeat (refine em_pure hB kX8_here rfl ?_))
    exact em_iret kX8_here rfl rfl rfl (by rw [if_neg h])
theorem s_mRation_no (hB : 85 ≤ n) {d q : Int32} (h : ¬ ((0 ≤ d ∧ d ≤ I 53 0) ∧ (0 ≤ q ∧ q ≤ I 53 0))) : em_MC Γ 2 mX8_ration [.ref 53, .int d, .int q] (em_hm n m dl I J rv) (some (.int (-1))) (em_hm n m dl I J rv) := by
  refine em_MC_of (Nat.le_refl _) (Nat.le_refl _) (by decide +kernel) rfl (Nat.le_of_ble_eq_true rfl) ?_
  (repeat (refine em_pure hB kX8_ration rfl ?_))
  refine em_callV (μ' := mX8_isDay) (c1 := 8) kX8_ration rfl lX8_123 tX8_isDay (by decide) rfl (em_ltB hB rfl) (s_mIsDay hB d) rfl rfl (by decide) (Nat.le_of_ble_eq_true rfl) (Nat.le_refl _) (Nat.le_refl _) ?_
  refine em_bz kX8_ration rfl (fun h1 => ?_) (fun _ => ?_)
  · (repeat (refine em_pure hB kX8_ration rfl ?_))
    refine em_callV (μ' := mX8_isDay) (c1 := 8) kX8_ration rfl lX8_123 tX8_isDay (by decide) rfl (em_ltB hB rfl) (s_mIsDay hB q) rfl rfl (by decide) (Nat.le_of_ble_eq_true rfl) (Nat.le_refl _) (Nat.le_refl _) ?_
    refine em_bz kX8_ration rfl (fun h2 => absurd ⟨h1, h2⟩ h) (fun _ => ?_)
    (repeat (refine em_pure hB kX8_ration rfl ?_))
    exact em_iret kX8_ration rfl rfl rfl rfl
  · (repeat (refine em_pure hB kX8_ration rfl ?_))
    exact em_iret kX8_ration rfl rfl rfl rfl
theorem s_mRation_ok (hB : 85 ≤ n) {d q : Int32} {N G : Nat} (hx : I 53 1 = nI N) (hN : N ≤ 40) (hg : I 53 2 = nI G) (hG : G ≤ 200) (hk : ∀ b, b < N → ∃ k, k < 8 ∧ I 56 b = nI k) (h2 : 0 ≤ d ∧ d ≤ I 53 0) (h3 : 0 ≤ q ∧ q ≤ I 53 0) : em_MC Γ 2 mX8_ration [.ref 53, .int d, .int q] (em_hm n m dl I J rv) (some (.int (em_meat I G d q N))) (em_hm n m dl I J rv) := by
  refine em_MC_of (Nat.le_refl _) (Nat.le_refl _) (by decide +kernel) rfl (Nat.le_of_ble_eq_true rfl) ?_
  (repeat (refine em_pure hB kX8_ration rfl ?_))
  refine em_callV (μ' := mX8_isDay) (c1 := 8) kX8_ration rfl lX8_123 tX8_isDay (by decide) rfl (em_ltB hB rfl) (s_mIsDay hB d) rfl rfl (by decide) (Nat.le_of_ble_eq_true rfl) (Nat.le_refl _) (Nat.le_refl _) ?_
  refine em_bz kX8_ration rfl (fun _ => ?_) (fun h => absurd h2 h)
  (repeat (refine em_pure hB kX8_ration rfl ?_))
  refine em_callV (μ' := mX8_isDay) (c1 := 8) kX8_ration rfl lX8_123 tX8_isDay (by decide) rfl (em_ltB hB rfl) (s_mIsDay hB q) rfl rfl (by decide) (Nat.le_of_ble_eq_true rfl) (Nat.le_refl _) (Nat.le_refl _) ?_
  refine em_bz kX8_ration rfl (fun _ => ?_) (fun h => absurd h3 h)
  (repeat (refine em_pure hB kX8_ration rfl ?_))
  refine em_callV (μ' := mX8_rationOf) (c1 := 8) kX8_ration rfl lX8_136 tX8_rationOf (by decide) rfl (em_ltB hB rfl) (s_mRationOf hB (d := d) (q := q) hx hN hg hG hk) rfl rfl (by decide) (Nat.le_of_ble_eq_true rfl) (Nat.le_refl _) (Nat.le_refl _) ?_
  (repeat (refine em_pure hB kX8_ration rfl ?_))
  exact em_iret kX8_ration rfl rfl rfl rfl
end MHerd2
