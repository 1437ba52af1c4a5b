/-! THE REFERENCE'S WAGONS -/
def em_bp (I : Nat → Nat → Int32) (v w : Int32) (a b : Nat) : Bool := decide (¬ a = b ∧ I 59 a = v ∧ I 59 b = w ∧ ¬ I 67 (8 * (I 56 a).toNatClampNeg + (I 56 b).toNatClampNeg) = 0)
def em_abr (I : Nat → Nat → Int32) (N : Nat) (v w : Int32) : Bool := em_ex (fun a => em_ex (em_bp I v w a) N) N
section MWagons
variable {Γ : em_Cx} {n m : Nat} {dl : Nat → Nat} {I : Nat → Nat → Int32} {J : Nat → Nat → Int64} {rv : em_Rv}
theorem s_mLoad_no (hB : 85 ≤ n) {b w : Int32} {N : Nat} (hx : I 53 1 = nI N) (hN : N ≤ 40) (hk : ∀ b, b < N → ∃ k, k < 8 ∧ I 56 b = nI k) (h : ¬ ((0 ≤ b ∧ b ≤ I 53 1 - 1) ∧ (-1 ≤ w ∧ w ≤ 7) ∧ ¬ I 59 b.toNatClampNeg = w ∧ (w = -1 ∨ em_mw I w N + I 55 (I 56 b.toNatClampNeg).toNatClampNeg ≤ 2000))) : em_MC Γ 2 mX8_load [.ref 53, .int b, .int w] (em_hm n m dl I J rv) (some (.int 0)) (em_hm n m dl I J rv) := by
  refine em_MC_of (Nat.le_refl _) (Nat.le_refl _) (by decide +kernel) rfl (Nat.le_of_ble_eq_true rfl) ?_
  (repeat (refine em_pure hB kX8_load rfl ?_))
  refine em_callV (μ' := mX8_isBeast) (c1 := 8) kX8_load rfl lX8_127 tX8_isBeast (by decide) rfl (em_ltB hB rfl) (s_mIsBeast hB b) rfl rfl (by decide) (Nat.le_of_ble_eq_true rfl) (Nat.le_refl _) (Nat.le_refl _) ?_
  refine em_bz kX8_load rfl (fun h1 => ?_) (fun _ => ?_)
  case refine_2 =>
    (repeat (refine em_pure hB kX8_load rfl ?_))
    exact em_iret kX8_load rfl rfl rfl rfl
  obtain ⟨j, hj, hb⟩ := em_inB2 hx hN h1
  (repeat (refine em_pure hB kX8_load rfl ?_))
  refine em_callS (μ' := mX8_in) kX8_load rfl lX8_112 tX8_in (s_in Γ _ w (-1) 7) rfl rfl (by decide) (Nat.le_of_ble_eq_true rfl) (Nat.le_refl _) (Nat.le_refl _) ?_
  refine em_bz kX8_load rfl (fun h2 => ?_) (fun _ => ?_)
  case refine_2 =>
    (repeat (refine em_pure hB kX8_load rfl ?_))
    exact em_iret kX8_load rfl rfl rfl rfl
  have ej : b.toNatClampNeg = j := by rw [hb, nI_clamp (by omega)]
  rw [ej] at h
  (repeat (refine em_pure hB kX8_load rfl ?_))
  refine em_ia (L := 40) hB kX8_load rfl rfl rfl rfl hb (show j < 40 by omega) rfl ?_
  (repeat (refine em_pure hB kX8_load rfl ?_))
  refine em_branch kX8_load rfl (fun (h3 : ¬ I 59 j = w) => ?_) (fun _ => ?_)
  case refine_2 =>
    (repeat (refine em_pure hB kX8_load rfl ?_))
    exact em_iret kX8_load rfl rfl rfl rfl
  (repeat (refine em_pure hB kX8_load rfl ?_))
  refine em_branch kX8_load rfl (fun (h4 : w = -1) => absurd ⟨h1, h2, h3, Or.inl h4⟩ h) (fun _ => ?_)
  (repeat (refine em_pure hB kX8_load rfl ?_))
  refine em_callV (μ' := mX8_weightOf) (c1 := 8) kX8_load rfl lX8_119 tX8_weightOf (by decide) rfl (em_ltB hB rfl) (s_mWeightOf hB (w := w) hx hN hk) rfl rfl (by decide) (Nat.le_of_ble_eq_true rfl) (Nat.le_refl _) (Nat.le_refl _) ?_
  (repeat (refine em_pure hB kX8_load rfl ?_))
  obtain ⟨k, hk8, hke⟩ := hk j hj
  refine em_ia (L := 40) hB kX8_load rfl rfl rfl rfl hb (show j < 40 by omega) rfl ?_
  refine em_ia (L := 8) hB kX8_load rfl rfl rfl rfl hke hk8 rfl ?_
  (repeat (refine em_pure hB kX8_load rfl ?_))
  rw [hke, nI_clamp (by omega)] at h
  refine em_branch kX8_load rfl (fun (h5 : em_mw I w N + I 55 k ≤ 2000) => absurd ⟨h1, h2, h3, Or.inr h5⟩ h) (fun _ => ?_)
  (repeat (refine em_pure hB kX8_load rfl ?_))
  exact em_iret kX8_load rfl rfl rfl rfl
theorem s_mLoad_ok (hB : 85 ≤ n) {b w : Int32} {N j : Nat} (hx : I 53 1 = nI N) (hN : N ≤ 40) (hk : ∀ b, b < N → ∃ k, k < 8 ∧ I 56 b = nI k) (hb : b = nI j) (hj : j < N) (h2 : -1 ≤ w ∧ w ≤ 7) (h3 : ¬ I 59 j = w) (h4 : w = -1 ∨ em_mw I w N + I 55 (I 56 j).toNatClampNeg ≤ 2000) : em_MC Γ 2 mX8_load [.ref 53, .int b, .int w] (em_hm n m dl I J rv) (some (.int 1)) (em_sI (em_hm n m dl I J rv) 59 (va_up (I 59) j w)) := by
  refine em_MC_of (Nat.le_refl _) (Nat.le_refl _) (by decide +kernel) rfl (Nat.le_of_ble_eq_true rfl) ?_
  (repeat (refine em_pure hB kX8_load rfl ?_))
  refine em_callV (μ' := mX8_isBeast) (c1 := 8) kX8_load rfl lX8_127 tX8_isBeast (by decide) rfl (em_ltB hB rfl) (s_mIsBeast hB b) rfl rfl (by decide) (Nat.le_of_ble_eq_true rfl) (Nat.le_refl _) (Nat.le_refl _) ?_
  refine em_bz kX8_load rfl (fun _ => ?_) (fun h => absurd (em_inB hx (by omega) hb hj) h)
  (repeat (refine em_pure hB kX8_load rfl ?_))
  refine em_callS (μ' := mX8_in) kX8_load rfl lX8_112 tX8_in (s_in Γ _ w (-1) 7) rfl rfl (by decide) (Nat.le_of_ble_eq_true rfl) (Nat.le_refl _) (Nat.le_refl _) ?_
  refine em_bz kX8_load rfl (fun _ => ?_) (fun h => absurd h2 h)
  (repeat (refine em_pure hB kX8_load rfl ?_))
  refine em_ia (L := 40) hB kX8_load rfl rfl rfl rfl hb (show j < 40 by omega) rfl ?_
  (repeat (refine em_pure hB kX8_load rfl ?_))
  refine em_branch kX8_load rfl (fun _ => ?_) (fun h => absurd h3 h)
  have last : em_EW Γ 2 mX8_load (em_hm n m dl I J rv) (some (.int 1), em_sI (em_hm n m dl I J rv) 59 (va_up (I 59) j w)) 60 [(0, .ref 53), (1, .int b), (2, .int w)] [] (em_hm n m dl I J rv) := by
    (repeat (refine em_pure hB kX8_load rfl ?_))
    refine em_iw (L := 40) hB kX8_load rfl rfl rfl rfl hb (show j < 40 by omega) rfl ?_
    (repeat (refine em_pure hB kX8_load rfl ?_))
    exact em_iret kX8_load rfl rfl rfl rfl
  (repeat (refine em_pure hB kX8_load rfl ?_))
  refine em_branch kX8_load rfl (fun _ => last) (fun (h5 : ¬ w = -1) => ?_)
  (repeat (refine em_pure hB kX8_load rfl ?_))
  refine em_callV (μ' := mX8_weightOf) (c1 := 8) kX8_load rfl lX8_119 tX8_weightOf (by decide) rfl (em_ltB hB rfl) (s_mWeightOf hB (w := w) hx hN hk) rfl rfl (by decide) (Nat.le_of_ble_eq_true rfl) (Nat.le_refl _) (Nat.le_refl _) ?_
  (repeat (refine em_pure hB kX8_load rfl ?_))
  obtain ⟨k, hk8, hke⟩ := hk j hj
  refine em_ia (L := 40) hB kX8_load rfl rfl rfl rfl hb (show j < 40 by omega) rfl ?_
  refine em_ia (L := 8) hB kX8_load rfl rfl rfl rfl hke hk8 rfl ?_
  (repeat (refine em_pure hB kX8_load rfl ?_))
  rw [hke, nI_clamp (by omega)] at h4
  refine em_branch kX8_load rfl (fun _ => last) (fun h => absurd (h4.resolve_left h5) h)
theorem s_mBar_no (hB : 85 ≤ n) {x y v : Int32} (h : ¬ ((0 ≤ x ∧ x ≤ 7) ∧ (0 ≤ y ∧ y ≤ 7) ∧ ¬ I 67 (8 * x.toNatClampNeg + y.toNatClampNeg) = v)) : em_MC Γ 1 mX8_bar [.ref 53, .int x, .int y, .int v] (em_hm n m dl I J rv) (some (.int 0)) (em_hm n m dl I J rv) := by
  refine em_MC_of (Nat.le_refl _) (Nat.le_refl _) (by decide +kernel) rfl (Nat.le_of_ble_eq_true rfl) ?_
  (repeat (refine em_pure hB kX8_bar rfl ?_))
  refine em_callS (μ' := mX8_in) kX8_bar rfl lX8_112 tX8_in (s_in Γ _ x 0 7) rfl rfl (by decide) (Nat.le_of_ble_eq_true rfl) (Nat.le_refl _) (Nat.le_refl _) ?_
  refine em_bz kX8_bar rfl (fun h1 => ?_) (fun _ => ?_)
  case refine_2 =>
    (repeat (refine em_pure hB kX8_bar rfl ?_))
    exact em_iret kX8_bar rfl rfl rfl rfl
  (repeat (refine em_pure hB kX8_bar rfl ?_))
  refine em_callS (μ' := mX8_in) kX8_bar rfl lX8_112 tX8_in (s_in Γ _ y 0 7) rfl rfl (by decide) (Nat.le_of_ble_eq_true rfl) (Nat.le_refl _) (Nat.le_refl _) ?_
  refine em_bz kX8_bar rfl (fun h2 => ?_) (fun _ => ?_)
  case refine_2 =>
    (repeat (refine em_pure hB kX8_bar rfl ?_))
    exact em_iret kX8_bar rfl rfl rfl rfl
  obtain ⟨a, ha, rfl⟩ := nI_of2 (M := 7) (n := 7) rfl (Int32.not_lt.mpr h1.1) h1.2
  obtain ⟨b, hb, rfl⟩ := nI_of2 (M := 7) (n := 7) rfl (Int32.not_lt.mpr h2.1) h2.2
  rw [nI_clamp (by omega), nI_clamp (by omega)] at h
  (repeat (refine em_pure hB kX8_bar rfl ?_))
  refine em_za (L := 64) hB kX8_bar rfl rfl rfl rfl em_w64' (show 8 * a + b < 64 by omega) rfl ?_
  (repeat (refine em_pure hB kX8_bar rfl ?_))
  refine em_branch kX8_bar rfl (fun (h3 : ¬ I 67 (8 * a + b) = v) => absurd ⟨h1, h2, h3⟩ h) (fun _ => ?_)
  (repeat (refine em_pure hB kX8_bar rfl ?_))
  exact em_iret kX8_bar rfl rfl rfl rfl
theorem s_mBar_ok (hB : 85 ≤ n) {v : Int32} {a b : Nat} (ha : a < 8) (hb : b < 8) (h3 : ¬ I 67 (8 * a + b) = v) (hv : v = 0 ∨ v = 1) : em_MC Γ 1 mX8_bar [.ref 53, .int (nI a), .int (nI b), .int v] (em_hm n m dl I J rv) (some (.int 1)) (em_sI (em_hm n m dl I J rv) 67 (va_up (va_up (I 67) (8 * a + b) v) (8 * b + a) v)) := by
  refine em_MC_of (Nat.le_refl _) (Nat.le_refl _) (by decide +kernel) rfl (Nat.le_of_ble_eq_true rfl) ?_
  (repeat (refine em_pure hB kX8_bar rfl ?_))
  refine em_callS (μ' := mX8_in) kX8_bar rfl lX8_112 tX8_in (s_in Γ _ (nI a) 0 7) rfl rfl (by decide) (Nat.le_of_ble_eq_true rfl) (Nat.le_refl _) (Nat.le_refl _) ?_
  refine em_bz kX8_bar rfl (fun _ => ?_) (fun h => absurd (em_inK rfl ha) h)
  (repeat (refine em_pure hB kX8_bar rfl ?_))
  refine em_callS (μ' := mX8_in) kX8_bar rfl lX8_112 tX8_in (s_in Γ _ (nI b) 0 7) rfl rfl (by decide) (Nat.le_of_ble_eq_true rfl) (Nat.le_refl _) (Nat.le_refl _) ?_
  refine em_bz kX8_bar rfl (fun _ => ?_) (fun h => absurd (em_inK rfl hb) h)
  (repeat (refine em_pure hB kX8_bar rfl ?_))
  refine em_za (L := 64) hB kX8_bar rfl rfl rfl rfl em_w64' (show 8 * a + b < 64 by omega) rfl ?_
  (repeat (refine em_pure hB kX8_bar rfl ?_))
  refine em_branch kX8_bar rfl (fun _ => ?_) (fun h => absurd h3 h)
  (repeat (refine em_pure hB kX8_bar rfl ?_))
  refine em_zw (L := 64) hB kX8_bar rfl rfl rfl rfl em_w64' (show 8 * a + b < 64 by omega) rfl hv ?_
  (repeat (refine em_pure hB kX8_bar rfl ?_))
  refine em_zw (L := 64) hB kX8_bar rfl rfl rfl rfl em_w64' (show 8 * b + a < 64 by omega) rfl hv ?_
  refine em_hpE (em_sI2 (em_hm n m dl I J rv) 67 _ _) ?_
  (repeat (refine em_pure hB kX8_bar rfl ?_))
  exact em_iret kX8_bar rfl rfl rfl rfl
theorem s_mAreBarred (hB : 85 ≤ n) {v w : Int32} {N : Nat} (hx : I 53 1 = nI N) (hN : N ≤ 40) (hk : ∀ b, b < N → ∃ k, k < 8 ∧ I 56 b = nI k) : em_MC Γ 0 mX8_areBarred [.ref 53, .int v, .int w] (em_hm n m dl I J rv) (some (.int (if em_abr I N v w = true then 1 else 0))) (em_hm n m dl I J rv) := by
  refine em_MC_of (Nat.le_refl _) (Nat.le_refl _) (by decide +kernel) rfl (Nat.le_of_ble_eq_true rfl) ?_
  have outer : ∀ d a, a + d = N → (∀ i, i < a → em_ex (em_bp I v w i) N = false) → em_EW Γ 0 mX8_areBarred (em_hm n m dl I J rv) (some (.int (if em_abr I N v w = true then 1 else 0)), em_hm n m dl I J rv) 2 [(0, .ref 53), (1, .int v), (2, .int w), (3, .int (nI a))] [] (em_hm n m dl I J rv) := by
    intro d
    induction d with
    | zero =>
      intro a ha hno
      obtain rfl : a = N := by omega
      (repeat (refine em_pure hB kX8_areBarred rfl ?_))
      refine em_branch kX8_areBarred rfl (fun _ => ?_) (fun z => absurd (by show I 53 1 ≤ nI a; rw [hx]; exact nI_le (Nat.le_refl a) (by omega)) z)
      (repeat (refine em_pure hB kX8_areBarred rfl ?_))
      have e : em_abr I a v w = false := em_ex_no.mpr hno
      exact em_iret kX8_areBarred rfl rfl rfl (by rw [e]; rfl)
    | succ d ih =>
      intro a ha hno
      have inner : ∀ d b, b + d = N → (∀ i, i < b → em_bp I v w a i = false) → em_EW Γ 0 mX8_areBarred (em_hm n m dl I J rv) (some (.int (if em_abr I N v w = true then 1 else 0)), em_hm n m dl I J rv) 13 [(0, .ref 53), (1, .int v), (2, .int w), (3, .int (nI a)), (4, .int (nI b))] [] (em_hm n m dl I J rv) := by
        intro d
        induction d with
        | zero =>
          intro b hb hnb
          obtain rfl : b = N := by omega
          (repeat (refine em_pure hB kX8_areBarred rfl ?_))
          refine em_branch kX8_areBarred rfl (fun _ => ?_) (fun z => absurd (by show I 53 1 ≤ nI b; rw [hx]; exact nI_le (Nat.le_refl b) (by omega)) z)
          (repeat (refine em_pureT 2 hB kX8_areBarred rfl rfl ?_))
          refine em_loc (lc' := [(0, .ref 53), (1, .int v), (2, .int w), (3, .int (nI a + 1))]) rfl ?_
          rw [nI_1]
          refine ih (a + 1) (by omega) (fun i hi => ?_)
          by_cases e : i = a
          · rw [e]; exact em_ex_no.mpr hnb
          · exact hno i (by omega)
        | succ d ih2 =>
          intro b hb hnb
          have next : em_bp I v w a b = false → em_EW Γ 0 mX8_areBarred (em_hm n m dl I J rv) (some (.int (if em_abr I N v w = true then 1 else 0)), em_hm n m dl I J rv) 76 [(0, .ref 53), (1, .int v), (2, .int w), (3, .int (nI a)), (4, .int (nI b))] [] (em_hm n m dl I J rv) := by
            intro hf
            (repeat (refine em_pureT 13 hB kX8_areBarred rfl rfl ?_))
            refine em_loc (lc' := [(0, .ref 53), (1, .int v), (2, .int w), (3, .int (nI a)), (4, .int (nI b + 1))]) rfl ?_
            rw [nI_1]
            refine ih2 (b + 1) (by omega) (fun i hi => ?_)
            by_cases e : i = b
            · rw [e]; exact hf
            · exact hnb i (by omega)
          (repeat (refine em_pure hB kX8_areBarred rfl ?_))
          refine em_branch kX8_areBarred rfl (fun z => absurd z (by show ¬ I 53 1 ≤ nI b; rw [hx]; exact nI_ge (by omega) (by omega))) (fun _ => ?_)
          (repeat (refine em_pure hB kX8_areBarred rfl ?_))
          refine em_branch kX8_areBarred rfl (fun (h1 : nI a = nI b) => next (decide_eq_false (fun z => z.1 ((nI_eq (by omega) (by omega)).mp h1)))) (fun (h1 : ¬ nI a = nI b) => ?_)
          (repeat (refine em_pure hB kX8_areBarred rfl ?_))
          refine em_ia (L := 40) hB kX8_areBarred rfl rfl rfl rfl rfl (show a < 40 by omega) rfl ?_
          (repeat (refine em_pure hB kX8_areBarred rfl ?_))
          refine em_branch kX8_areBarred rfl (fun (h2 : ¬ I 59 a = v) => next (decide_eq_false (fun z => h2 z.2.1))) (fun (h2 : ¬ ¬ I 59 a = v) => ?_)
          (repeat (refine em_pure hB kX8_areBarred rfl ?_))
          refine em_ia (L := 40) hB kX8_areBarred rfl rfl rfl rfl rfl (show b < 40 by omega) rfl ?_
          (repeat (refine em_pure hB kX8_areBarred rfl ?_))
          refine em_branch kX8_areBarred rfl (fun (h3 : ¬ I 59 b = w) => next (decide_eq_false (fun z => h3 z.2.2.1))) (fun (h3 : ¬ ¬ I 59 b = w) => ?_)
          obtain ⟨ka, ka8, kae⟩ := hk a (by omega)
          obtain ⟨kb, kb8, kbe⟩ := hk b (by omega)
          (repeat (refine em_pure hB kX8_areBarred rfl ?_))
          refine em_ia (L := 40) hB kX8_areBarred rfl rfl rfl rfl rfl (show a < 40 by omega) rfl ?_
          (repeat (refine em_pure hB kX8_areBarred rfl ?_))
          refine em_ia (L := 40) hB kX8_areBarred rfl rfl rfl rfl rfl (show b < 40 by omega) rfl ?_
          (repeat (refine em_pure hB kX8_areBarred rfl ?_))
          refine em_za (L := 64) hB kX8_areBarred rfl rfl rfl rfl (show 8 * I 56 a + I 56 b = nI (8 * ka + kb) by rw [kae, kbe, em_w64']) (show 8 * ka + kb < 64 by omega) rfl ?_
          have eb : em_bp I v w a b = decide (¬ a = b ∧ I 59 a = v ∧ I 59 b = w ∧ ¬ I 67 (8 * ka + kb) = 0) := by rw [em_bp, kae, kbe, nI_clamp (by omega), nI_clamp (by omega)]
          refine em_branch kX8_areBarred rfl (fun (h4 : I 67 (8 * ka + kb) = 0) => next (by rw [eb]; exact decide_eq_false (fun z => z.2.2.2 h4))) (fun (h4 : ¬ I 67 (8 * ka + kb) = 0) => ?_)
          (repeat (refine em_pure hB kX8_areBarred rfl ?_))
          have hyes : em_abr I N v w = true := em_ex_yes (j := a) (by omega) (em_ex_yes (j := b) (by omega) (by rw [eb]; exact decide_eq_true ⟨fun z => h1 (by rw [z]), Decidable.not_not.mp h2, Decidable.not_not.mp h3, h4⟩))
          exact em_iret kX8_areBarred rfl rfl rfl (by rw [hyes]; rfl)
      (repeat (refine em_pure hB kX8_areBarred rfl ?_))
      refine em_branch kX8_areBarred rfl (fun z => absurd z (by show ¬ I 53 1 ≤ nI a; rw [hx]; exact nI_ge (by omega) (by omega))) (fun _ => ?_)
      (repeat (refine em_pureT 13 hB kX8_areBarred rfl rfl ?_))
      refine em_loc (lc' := [(0, .ref 53), (1, .int v), (2, .int w), (3, .int (nI a)), (4, .int (nI 0))]) rfl ?_
      exact inner N 0 (by omega) (fun i hi => by omega)
  (repeat (refine em_pureT 2 hB kX8_areBarred rfl rfl ?_))
  refine em_loc (lc' := [(0, .ref 53), (1, .int v), (2, .int w), (3, .int (nI 0))]) rfl ?_
  exact outer N 0 (by omega) (fun i hi => by omega)
def em_mWg (I : Nat → Nat → Int32) (N : Nat) (w x : Int32) : Int32 := if ¬ (0 ≤ w ∧ w ≤ 7) then -1 else if x = 0 then em_mw I w N else if x = 1 then em_mm I w N else if x = 2 then (if em_abr I N w w = true then 0 else 1) else -1
theorem s_mWagon (hB : 85 ≤ n) {w x : Int32} {N : Nat} (hx : I 53 1 = nI N) (hN : N ≤ 40) (hk : ∀ b, b < N → ∃ k, k < 8 ∧ I 56 b = nI k) : em_MC Γ 1 mX8_wagon [.ref 53, .int w, .int x] (em_hm n m dl I J rv) (some (.int (em_mWg I N w x))) (em_hm n m dl I J rv) := by
  refine em_MC_of (Nat.le_refl _) (Nat.le_refl _) (by decide +kernel) rfl (Nat.le_of_ble_eq_true rfl) ?_
  (repeat (refine em_pure hB kX8_wagon rfl ?_))
  refine em_callS (μ' := mX8_in) kX8_wagon rfl lX8_112 tX8_in (s_in Γ _ w 0 7) rfl rfl (by decide) (Nat.le_of_ble_eq_true rfl) (Nat.le_refl _) (Nat.le_refl _) ?_
  refine em_bn kX8_wagon rfl (fun h1 => ?_) (fun h1 => ?_)
  case refine_2 =>
    (repeat (refine em_pure hB kX8_wagon rfl ?_))
    exact em_iret kX8_wagon rfl rfl rfl (by rw [em_mWg, if_pos h1])
  have e1 : em_mWg I N w x = if x = 0 then em_mw I w N else if x = 1 then em_mm I w N else if x = 2 then (if em_abr I N w w = true then 0 else 1) else -1 := by rw [em_mWg, if_neg (fun z => z h1)]
  rw [e1]
  (repeat (refine em_pure hB kX8_wagon rfl ?_))
  refine em_branch kX8_wagon rfl (fun (h2 : ¬ x = 0) => ?_) (fun (h2 : ¬ ¬ x = 0) => ?_)
  case refine_2 =>
    (repeat (refine em_pure hB kX8_wagon rfl ?_))
    refine em_callV (μ' := mX8_weightOf) (c1 := 8) kX8_wagon rfl lX8_119 tX8_weightOf (by decide) rfl (em_ltB hB rfl) (s_mWeightOf hB (w := w) hx hN hk) rfl rfl (by decide) (Nat.le_of_ble_eq_true rfl) (Nat.le_refl _) (Nat.le_refl _) ?_
    (repeat (refine em_pure hB kX8_wagon rfl ?_))
    exact em_iret kX8_wagon rfl rfl rfl (by rw [if_pos (Decidable.not_not.mp h2)])
  rw [if_neg h2]
  (repeat (refine em_pure hB kX8_wagon rfl ?_))
  refine em_branch kX8_wagon rfl (fun (h3 : ¬ x = 1) => ?_) (fun (h3 : ¬ ¬ x = 1) => ?_)
  case refine_2 =>
    (repeat (refine em_pure hB kX8_wagon rfl ?_))
    refine em_callV (μ' := mX8_manyIn) (c1 := 8) kX8_wagon rfl lX8_148 tX8_manyIn (by decide) rfl (em_ltB hB rfl) (s_mManyIn hB (w := w) hx hN) rfl rfl (by decide) (Nat.le_of_ble_eq_true rfl) (Nat.le_refl _) (Nat.le_refl _) ?_
    (repeat (refine em_pure hB kX8_wagon rfl ?_))
    exact em_iret kX8_wagon rfl rfl rfl (by rw [if_pos (Decidable.not_not.mp h3)])
  rw [if_neg h3]
  (repeat (refine em_pure hB kX8_wagon rfl ?_))
  refine em_branch kX8_wagon rfl (fun (h4 : ¬ x = 2) => ?_) (fun (h4 : ¬ ¬ x = 2) => ?_)
  case refine_1 =>
    (repeat (refine em_pure hB kX8_wagon rfl ?_))
    exact em_iret kX8_wagon rfl rfl rfl (by rw [if_neg h4])
  rw [if_pos (Decidable.not_not.mp h4)]
  (repeat (refine em_pure hB kX8_wagon rfl ?_))
  refine em_callV (μ' := mX8_areBarred) (c1 := 8) kX8_wagon rfl lX8_151 tX8_areBarred (by decide) rfl (em_ltB hB rfl) (s_mAreBarred hB (v := w) (w := w) hx hN hk) rfl rfl (by decide) (Nat.le_of_ble_eq_true rfl) (Nat.le_refl _) (Nat.le_refl _) ?_
  refine em_bz kX8_wagon rfl (fun h => ?_) (fun h => ?_)
  · (repeat (refine em_pure hB kX8_wagon rfl ?_))
    exact em_iret kX8_wagon rfl rfl rfl (by rw [if_pos h])
  · (repeat (refine em_pure hB kX8_wagon rfl ?_))
    exact em_iret kX8_wagon rfl rfl rfl (by rw [if_neg h])
end MWagons
