/-! TOWNS, WAYS, FODDER: the class's and the reference's -/
section Towns
variable {Γ : em_Cx} {n m : Nat} {dl : Nat → Nat} {I : Nat → Nat → Int32} {J : Nat → Nat → Int64} {rv : em_Rv}
theorem s_fSize (hB : 85 ≤ n) : em_MC Γ 0 mX1_size [.ref 21] (em_hm n m dl I J rv) (some (.int (I 21 0))) (em_hm n m dl I J rv) := by
  refine em_MC_of (Nat.le_refl _) (Nat.le_refl _) (by decide +kernel) rfl (Nat.le_of_ble_eq_true rfl) ?_
  (repeat (refine em_pure hB kX1_size rfl ?_))
  exact em_iret kX1_size rfl rfl rfl rfl
theorem s_isTown (hB : 85 ≤ n) (t : Int32) : em_MC Γ 1 mX1_isTown [.ref 21, .int t] (em_hm n m dl I J rv) (some (.int (if 0 ≤ t ∧ t ≤ I 21 0 - 1 then 1 else 0))) (em_hm n m dl I J rv) := by
  refine em_MC_of (Nat.le_refl _) (Nat.le_refl _) (by decide +kernel) rfl (Nat.le_of_ble_eq_true rfl) ?_
  (repeat (refine em_pure hB kX1_isTown rfl ?_))
  refine em_callS (μ' := mX7_within) kX1_isTown rfl lX1_43 tX7_within (s_within Γ _ t 0 (I 21 0 - 1)) rfl rfl (by decide) (Nat.le_of_ble_eq_true rfl) (Nat.le_refl _) (Nat.le_refl _) ?_
  (repeat (refine em_pure hB kX1_isTown rfl ?_))
  exact em_iret kX1_isTown rfl rfl em_nb rfl
theorem s_mIsTown (hB : 85 ≤ n) (t : Int32) : em_MC Γ 1 mX8_isTown [.ref 53, .int t] (em_hm n m dl I J rv) (some (.int (if 0 ≤ t ∧ t ≤ I 53 4 - 1 then 1 else 0))) (em_hm n m dl I J rv) := by
  refine em_MC_of (Nat.le_refl _) (Nat.le_refl _) (by decide +kernel) rfl (Nat.le_of_ble_eq_true rfl) ?_
  (repeat (refine em_pure hB kX8_isTown rfl ?_))
  refine em_callS (μ' := mX8_in) kX8_isTown rfl lX8_112 tX8_in (s_in Γ _ t 0 (I 53 4 - 1)) rfl rfl (by decide) (Nat.le_of_ble_eq_true rfl) (Nat.le_refl _) (Nat.le_refl _) ?_
  (repeat (refine em_pure hB kX8_isTown rfl ?_))
  exact em_iret kX8_isTown rfl rfl em_nb rfl
theorem s_addTown_no (hB : 85 ≤ n) {x y z : Int32} (h : ¬ (¬ 8 ≤ I 21 0 ∧ (0 ≤ z ∧ z ≤ 10000) ∧ (0 ≤ x ∧ x ≤ 1000) ∧ (x ≤ y ∧ y ≤ 1000))) : em_MC Γ 1 mX1_addTown [.ref 21, .int x, .int y, .int z] (em_hm n m dl I J rv) (some (.int (-1))) (em_hm n m dl I J rv) := by
  refine em_MC_of (Nat.le_refl _) (Nat.le_refl _) (by decide +kernel) rfl (Nat.le_of_ble_eq_true rfl) ?_
  (repeat (refine em_pure hB kX1_addTown rfl ?_))
  refine em_branch kX1_addTown rfl (fun _ => ?_) (fun (h1 : ¬ 8 ≤ I 21 0) => ?_)
  · (repeat (refine em_pure hB kX1_addTown rfl ?_))
    exact em_iret kX1_addTown rfl rfl rfl rfl
  · (repeat (refine em_pure hB kX1_addTown rfl ?_))
    refine em_callS (μ' := mX7_within) kX1_addTown rfl lX1_43 tX7_within (s_within Γ _ z 0 10000) rfl rfl (by decide) (Nat.le_of_ble_eq_true rfl) (Nat.le_refl _) (Nat.le_refl _) ?_
    refine em_bn kX1_addTown rfl (fun h2 => ?_) (fun h2 => ?_)
    · (repeat (refine em_pure hB kX1_addTown rfl ?_))
      refine em_callS (μ' := mX7_within) kX1_addTown rfl lX1_43 tX7_within (s_within Γ _ x 0 1000) rfl rfl (by decide) (Nat.le_of_ble_eq_true rfl) (Nat.le_refl _) (Nat.le_refl _) ?_
      refine em_bz kX1_addTown rfl (fun h3 => ?_) (fun h3 => ?_)
      · (repeat (refine em_pure hB kX1_addTown rfl ?_))
        refine em_callS (μ' := mX7_within) kX1_addTown rfl lX1_43 tX7_within (s_within Γ _ y x 1000) rfl rfl (by decide) (Nat.le_of_ble_eq_true rfl) (Nat.le_refl _) (Nat.le_refl _) ?_
        refine em_bn kX1_addTown rfl (fun h4 => absurd ⟨h1, h2, h3, h4⟩ h) (fun h4 => ?_)
        (repeat (refine em_pure hB kX1_addTown rfl ?_))
        exact em_iret kX1_addTown rfl rfl rfl rfl
      · (repeat (refine em_pure hB kX1_addTown rfl ?_))
        exact em_iret kX1_addTown rfl rfl rfl rfl
    · (repeat (refine em_pure hB kX1_addTown rfl ?_))
      exact em_iret kX1_addTown rfl rfl rfl rfl
theorem s_addTown_ok (hB : 85 ≤ n) {x y z : Int32} {T : Nat} (ht : I 21 0 = nI T) (hT : T < 8) (h2 : 0 ≤ z ∧ z ≤ 10000) (h3 : 0 ≤ x ∧ x ≤ 1000) (h4 : x ≤ y ∧ y ≤ 1000) : em_MC Γ 1 mX1_addTown [.ref 21, .int x, .int y, .int z] (em_hm n m dl I J rv) (some (.int (nI T))) (em_sI (em_sI (em_sI (em_sI (em_hm n m dl I J rv) 22 (va_up (I 22) T x)) 23 (va_up (I 23) T y)) 24 (va_up (I 24) T z)) 21 (va_up (va_up (I 21) 0 (I 21 0 + 1)) 6 (-1))) := by
  refine em_MC_of (Nat.le_refl _) (Nat.le_refl _) (by decide +kernel) rfl (Nat.le_of_ble_eq_true rfl) ?_
  (repeat (refine em_pure hB kX1_addTown rfl ?_))
  refine em_branch kX1_addTown rfl (fun (h1 : 8 ≤ I 21 0) => absurd h1 (by rw [ht]; exact nI_ge (b := 8) hT (by omega))) (fun _ => ?_)
  (repeat (refine em_pure hB kX1_addTown rfl ?_))
  refine em_callS (μ' := mX7_within) kX1_addTown rfl lX1_43 tX7_within (s_within Γ _ z 0 10000) rfl rfl (by decide) (Nat.le_of_ble_eq_true rfl) (Nat.le_refl _) (Nat.le_refl _) ?_
  refine em_bn kX1_addTown rfl (fun _ => ?_) (fun h => absurd h2 h)
  (repeat (refine em_pure hB kX1_addTown rfl ?_))
  refine em_callS (μ' := mX7_within) kX1_addTown rfl lX1_43 tX7_within (s_within Γ _ x 0 1000) rfl rfl (by decide) (Nat.le_of_ble_eq_true rfl) (Nat.le_refl _) (Nat.le_refl _) ?_
  refine em_bz kX1_addTown rfl (fun _ => ?_) (fun h => absurd h3 h)
  (repeat (refine em_pure hB kX1_addTown rfl ?_))
  refine em_callS (μ' := mX7_within) kX1_addTown rfl lX1_43 tX7_within (s_within Γ _ y x 1000) rfl rfl (by decide) (Nat.le_of_ble_eq_true rfl) (Nat.le_refl _) (Nat.le_refl _) ?_
  refine em_bn kX1_addTown rfl (fun _ => ?_) (fun h => absurd h4 h)
  (repeat (refine em_pure hB kX1_addTown rfl ?_))
  refine em_iw (L := 8) hB kX1_addTown rfl rfl rfl rfl ht hT rfl ?_
  (repeat (refine em_pure hB kX1_addTown rfl ?_))
  refine em_iw (L := 8) hB kX1_addTown rfl rfl rfl rfl ht hT rfl ?_
  (repeat (refine em_pure hB kX1_addTown rfl ?_))
  refine em_iw (L := 8) hB kX1_addTown rfl rfl rfl rfl ht hT rfl ?_
  (repeat (refine em_pure hB kX1_addTown rfl ?_))
  refine em_pi hB kX1_addTown rfl rfl rfl rfl rfl rfl rfl ?_
  (repeat (refine em_pure hB kX1_addTown rfl ?_))
  refine em_pi hB kX1_addTown rfl rfl rfl rfl rfl rfl rfl ?_
  rw [em_sI2, em_I1]
  (repeat (refine em_pure hB kX1_addTown rfl ?_))
  exact em_iret kX1_addTown rfl rfl rfl (Prod.ext (congrArg (fun z => some (Value.int z)) (show nI T = I 21 0 + 1 - 1 by rw [ht, nI_1, nI_pred])) rfl)
theorem s_mTown_no (hB : 85 ≤ n) {x y z : Int32} (h : ¬ (¬ I 53 4 = 8 ∧ (0 ≤ z ∧ z ≤ 10000) ∧ (0 ≤ x ∧ x ≤ 1000) ∧ (x ≤ y ∧ y ≤ 1000))) : em_MC Γ 1 mX8_town [.ref 53, .int x, .int y, .int z] (em_hm n m dl I J rv) (some (.int (-1))) (em_hm n m dl I J rv) := by
  refine em_MC_of (Nat.le_refl _) (Nat.le_refl _) (by decide +kernel) rfl (Nat.le_of_ble_eq_true rfl) ?_
  (repeat (refine em_pure hB kX8_town rfl ?_))
  refine em_branch kX8_town rfl (fun _ => ?_) (fun (h1 : ¬ I 53 4 = 8) => ?_)
  · (repeat (refine em_pure hB kX8_town rfl ?_))
    exact em_iret kX8_town rfl rfl rfl rfl
  · (repeat (refine em_pure hB kX8_town rfl ?_))
    refine em_callS (μ' := mX8_in) kX8_town rfl lX8_112 tX8_in (s_in Γ _ x 0 1000) rfl rfl (by decide) (Nat.le_of_ble_eq_true rfl) (Nat.le_refl _) (Nat.le_refl _) ?_
    refine em_bz kX8_town rfl (fun h3 => ?_) (fun h3 => ?_)
    · (repeat (refine em_pure hB kX8_town rfl ?_))
      refine em_callS (μ' := mX8_in) kX8_town rfl lX8_112 tX8_in (s_in Γ _ y x 1000) rfl rfl (by decide) (Nat.le_of_ble_eq_true rfl) (Nat.le_refl _) (Nat.le_refl _) ?_
      refine em_bz kX8_town rfl (fun h4 => ?_) (fun h4 => ?_)
      · (repeat (refine em_pure hB kX8_town rfl ?_))
        refine em_callS (μ' := mX8_in) kX8_town rfl lX8_112 tX8_in (s_in Γ _ z 0 10000) rfl rfl (by decide) (Nat.le_of_ble_eq_true rfl) (Nat.le_refl _) (Nat.le_refl _) ?_
        refine em_bn kX8_town rfl (fun h2 => absurd ⟨h1, h2, h3, h4⟩ h) (fun h2 => ?_)
        (repeat (refine em_pure hB kX8_town rfl ?_))
        exact em_iret kX8_town rfl rfl rfl rfl
      · (repeat (refine em_pure hB kX8_town rfl ?_))
        exact em_iret kX8_town rfl rfl rfl rfl
    · (repeat (refine em_pure hB kX8_town rfl ?_))
      exact em_iret kX8_town rfl rfl rfl rfl
theorem s_mTown_ok (hB : 85 ≤ n) {x y z : Int32} {T : Nat} (ht : I 53 4 = nI T) (hT : T < 8) (h2 : 0 ≤ z ∧ z ≤ 10000) (h3 : 0 ≤ x ∧ x ≤ 1000) (h4 : x ≤ y ∧ y ≤ 1000) : em_MC Γ 1 mX8_town [.ref 53, .int x, .int y, .int z] (em_hm n m dl I J rv) (some (.int (nI T))) (em_sI (em_sI (em_sI (em_sI (em_hm n m dl I J rv) 71 (va_up (I 71) T x)) 72 (va_up (I 72) T y)) 73 (va_up (I 73) T z)) 53 (va_up (I 53) 4 (I 53 4 + 1))) := by
  refine em_MC_of (Nat.le_refl _) (Nat.le_refl _) (by decide +kernel) rfl (Nat.le_of_ble_eq_true rfl) ?_
  (repeat (refine em_pure hB kX8_town rfl ?_))
  refine em_branch kX8_town rfl (fun (h1 : I 53 4 = 8) => absurd h1 (by rw [ht]; exact fun z => by have := (nI_eq (b := 8) (by omega) (by omega)).mp z; omega)) (fun _ => ?_)
  (repeat (refine em_pure hB kX8_town rfl ?_))
  refine em_callS (μ' := mX8_in) kX8_town rfl lX8_112 tX8_in (s_in Γ _ x 0 1000) rfl rfl (by decide) (Nat.le_of_ble_eq_true rfl) (Nat.le_refl _) (Nat.le_refl _) ?_
  refine em_bz kX8_town rfl (fun _ => ?_) (fun h => absurd h3 h)
  (repeat (refine em_pure hB kX8_town rfl ?_))
  refine em_callS (μ' := mX8_in) kX8_town rfl lX8_112 tX8_in (s_in Γ _ y x 1000) rfl rfl (by decide) (Nat.le_of_ble_eq_true rfl) (Nat.le_refl _) (Nat.le_refl _) ?_
  refine em_bz kX8_town rfl (fun _ => ?_) (fun h => absurd h4 h)
  (repeat (refine em_pure hB kX8_town rfl ?_))
  refine em_callS (μ' := mX8_in) kX8_town rfl lX8_112 tX8_in (s_in Γ _ z 0 10000) rfl rfl (by decide) (Nat.le_of_ble_eq_true rfl) (Nat.le_refl _) (Nat.le_refl _) ?_
  refine em_bn kX8_town rfl (fun _ => ?_) (fun h => absurd h2 h)
  (repeat (refine em_pure hB kX8_town rfl ?_))
  refine em_iw (L := 8) hB kX8_town rfl rfl rfl rfl ht hT rfl ?_
  (repeat (refine em_pure hB kX8_town rfl ?_))
  refine em_iw (L := 8) hB kX8_town rfl rfl rfl rfl ht hT rfl ?_
  (repeat (refine em_pure hB kX8_town rfl ?_))
  refine em_iw (L := 8) hB kX8_town rfl rfl rfl rfl ht hT rfl ?_
  (repeat (refine em_pure hB kX8_town rfl ?_))
  refine em_pi hB kX8_town rfl rfl rfl rfl rfl rfl rfl ?_
  (repeat (refine em_pure hB kX8_town rfl ?_))
  exact em_iret kX8_town rfl rfl rfl (Prod.ext (congrArg (fun z => some (Value.int z)) (show nI T = I 53 4 + 1 - 1 by rw [ht, nI_1, nI_pred])) rfl)
theorem em_w64 {a b : Nat} : nI a * 8 + nI b = nI (8 * a + b) := by
  rw [show (8 : Int32) = nI 8 from rfl, pk_mul, nI_add, Nat.mul_comm]
theorem em_w64' {a b : Nat} : 8 * nI a + nI b = nI (8 * a + b) := by
  rw [show (8 : Int32) = nI 8 from rfl, pk_mul, nI_add]
theorem s_setWay_no (hB : 85 ≤ n) {x y z : Int32} (h : ¬ ((0 ≤ x ∧ x ≤ I 21 0 - 1) ∧ (0 ≤ y ∧ y ≤ I 21 0 - 1) ∧ ¬ x = y ∧ (1 ≤ z ∧ z ≤ 60))) : em_MC Γ 2 mX1_setWay [.ref 21, .int x, .int y, .int z] (em_hm n m dl I J rv) (some (.int 0)) (em_hm n m dl I J rv) := by
  refine em_MC_of (Nat.le_refl _) (Nat.le_refl _) (by decide +kernel) rfl (Nat.le_of_ble_eq_true rfl) ?_
  (repeat (refine em_pure hB kX1_setWay rfl ?_))
  refine em_callV (μ' := mX1_isTown) (c1 := 1) kX1_setWay rfl lX1_47 tX1_isTown (by decide) rfl (em_ltB hB rfl) (s_isTown hB x) rfl rfl (by decide) (Nat.le_of_ble_eq_true rfl) (Nat.le_refl _) (Nat.le_refl _) ?_
  refine em_bz kX1_setWay rfl (fun h1 => ?_) (fun h1 => ?_)
  · (repeat (refine em_pure hB kX1_setWay rfl ?_))
    refine em_callV (μ' := mX1_isTown) (c1 := 1) kX1_setWay rfl lX1_47 tX1_isTown (by decide) rfl (em_ltB hB rfl) (s_isTown hB y) rfl rfl (by decide) (Nat.le_of_ble_eq_true rfl) (Nat.le_refl _) (Nat.le_refl _) ?_
    refine em_bz kX1_setWay rfl (fun h2 => ?_) (fun h2 => ?_)
    · (repeat (refine em_pure hB kX1_setWay rfl ?_))
      refine em_branch kX1_setWay rfl (fun _ => ?_) (fun h3 => ?_)
      · (repeat (refine em_pure hB kX1_setWay rfl ?_))
        exact em_iret kX1_setWay rfl rfl rfl rfl
      · (repeat (refine em_pure hB kX1_setWay rfl ?_))
        refine em_callS (μ' := mX7_within) kX1_setWay rfl lX1_43 tX7_within (s_within Γ _ z 1 60) rfl rfl (by decide) (Nat.le_of_ble_eq_true rfl) (Nat.le_refl _) (Nat.le_refl _) ?_
        refine em_bn kX1_setWay rfl (fun h4 => absurd ⟨h1, h2, h3, h4⟩ h) (fun h4 => ?_)
        (repeat (refine em_pure hB kX1_setWay rfl ?_))
        exact em_iret kX1_setWay rfl rfl rfl rfl
    · (repeat (refine em_pure hB kX1_setWay rfl ?_))
      exact em_iret kX1_setWay rfl rfl rfl rfl
  · (repeat (refine em_pure hB kX1_setWay rfl ?_))
    exact em_iret kX1_setWay rfl rfl rfl rfl
theorem s_setWay_ok (hB : 85 ≤ n) {x y z : Int32} {a b T : Nat} (ht : I 21 0 = nI T) (hT : T ≤ 8) (hx : x = nI a) (ha : a < T) (hy : y = nI b) (hb : b < T) (hab : ¬ a = b) (hz : 1 ≤ z ∧ z ≤ 60) : em_MC Γ 2 mX1_setWay [.ref 21, .int x, .int y, .int z] (em_hm n m dl I J rv) (some (.int 1)) (em_sI (em_sI (em_hm n m dl I J rv) 25 (va_up (va_up (I 25) (8 * a + b) z) (8 * b + a) z)) 21 (va_up (I 21) 6 (-1))) := by
  refine em_MC_of (Nat.le_refl _) (Nat.le_refl _) (by decide +kernel) rfl (Nat.le_of_ble_eq_true rfl) ?_
  (repeat (refine em_pure hB kX1_setWay rfl ?_))
  refine em_callV (μ' := mX1_isTown) (c1 := 1) kX1_setWay rfl lX1_47 tX1_isTown (by decide) rfl (em_ltB hB rfl) (s_isTown hB x) rfl rfl (by decide) (Nat.le_of_ble_eq_true rfl) (Nat.le_refl _) (Nat.le_refl _) ?_
  refine em_bz kX1_setWay rfl (fun _ => ?_) (fun h => absurd (em_inB ht (by omega) hx ha) h)
  (repeat (refine em_pure hB kX1_setWay rfl ?_))
  refine em_callV (μ' := mX1_isTown) (c1 := 1) kX1_setWay rfl lX1_47 tX1_isTown (by decide) rfl (em_ltB hB rfl) (s_isTown hB y) rfl rfl (by decide) (Nat.le_of_ble_eq_true rfl) (Nat.le_refl _) (Nat.le_refl _) ?_
  refine em_bz kX1_setWay rfl (fun _ => ?_) (fun h => absurd (em_inB ht (by omega) hy hb) h)
  (repeat (refine em_pure hB kX1_setWay rfl ?_))
  refine em_branch kX1_setWay rfl (fun (h : x = y) => absurd (by rw [hx, hy] at h; exact (nI_eq (by omega) (by omega)).mp h) hab) (fun _ => ?_)
  (repeat (refine em_pure hB kX1_setWay rfl ?_))
  refine em_callS (μ' := mX7_within) kX1_setWay rfl lX1_43 tX7_within (s_within Γ _ z 1 60) rfl rfl (by decide) (Nat.le_of_ble_eq_true rfl) (Nat.le_refl _) (Nat.le_refl _) ?_
  refine em_bn kX1_setWay rfl (fun _ => ?_) (fun h => absurd hz h)
  (repeat (refine em_pure hB kX1_setWay rfl ?_))
  refine em_iw (L := 64) hB kX1_setWay rfl rfl rfl rfl (show x * 8 + y = nI (8 * a + b) by rw [hx, hy]; exact em_w64) (by omega) rfl ?_
  (repeat (refine em_pure hB kX1_setWay rfl ?_))
  refine em_iw (L := 64) hB kX1_setWay rfl rfl rfl rfl (show y * 8 + x = nI (8 * b + a) by rw [hx, hy]; exact em_w64) (by omega) rfl ?_
  rw [em_sI2, em_I1]
  (repeat (refine em_pure hB kX1_setWay rfl ?_))
  refine em_pi hB kX1_setWay rfl rfl rfl rfl rfl rfl rfl ?_
  (repeat (refine em_pure hB kX1_setWay rfl ?_))
  exact em_iret kX1_setWay rfl rfl rfl rfl
theorem s_mWay_no (hB : 85 ≤ n) {x y z : Int32} (h : ¬ ((0 ≤ x ∧ x ≤ I 53 4 - 1) ∧ (0 ≤ y ∧ y ≤ I 53 4 - 1) ∧ ¬ x = y ∧ (1 ≤ z ∧ z ≤ 60))) : em_MC Γ 2 mX8_way [.ref 53, .int x, .int y, .int z] (em_hm n m dl I J rv) (some (.int 0)) (em_hm n m dl I J rv) := by
  refine em_MC_of (Nat.le_refl _) (Nat.le_refl _) (by decide +kernel) rfl (Nat.le_of_ble_eq_true rfl) ?_
  (repeat (refine em_pure hB kX8_way rfl ?_))
  refine em_callV (μ' := mX8_isTown) (c1 := 8) kX8_way rfl lX8_161 tX8_isTown (by decide) rfl (em_ltB hB rfl) (s_mIsTown hB x) rfl rfl (by decide) (Nat.le_of_ble_eq_true rfl) (Nat.le_refl _) (Nat.le_refl _) ?_
  refine em_bz kX8_way rfl (fun h1 => ?_) (fun h1 => ?_)
  · (repeat (refine em_pure hB kX8_way rfl ?_))
    refine em_callV (μ' := mX8_isTown) (c1 := 8) kX8_way rfl lX8_161 tX8_isTown (by decide) rfl (em_ltB hB rfl) (s_mIsTown hB y) rfl rfl (by decide) (Nat.le_of_ble_eq_true rfl) (Nat.le_refl _) (Nat.le_refl _) ?_
    refine em_bz kX8_way rfl (fun h2 => ?_) (fun h2 => ?_)
    · (repeat (refine em_pure hB kX8_way rfl ?_))
      refine em_branch kX8_way rfl (fun _ => ?_) (fun h3 => ?_)
      · (repeat (refine em_pure hB kX8_way rfl ?_))
        exact em_iret kX8_way rfl rfl rfl rfl
      · (repeat (refine em_pure hB kX8_way rfl ?_))
        refine em_callS (μ' := mX8_in) kX8_way rfl lX8_112 tX8_in (s_in Γ _ z 1 60) rfl rfl (by decide) (Nat.le_of_ble_eq_true rfl) (Nat.le_refl _) (Nat.le_refl _) ?_
        refine em_bn kX8_way rfl (fun h4 => absurd ⟨h1, h2, h3, h4⟩ h) (fun h4 => ?_)
        (repeat (refine em_pure hB kX8_way rfl ?_))
        exact em_iret kX8_way rfl rfl rfl rfl
    · (repeat (refine em_pure hB kX8_way rfl ?_))
      exact em_iret kX8_way rfl rfl rfl rfl
  · (repeat (refine em_pure hB kX8_way rfl ?_))
    exact em_iret kX8_way rfl rfl rfl rfl
theorem s_mWay_ok (hB : 85 ≤ n) {x y z : Int32} {a b T : Nat} (ht : I 53 4 = nI T) (hT : T ≤ 8) (hx : x = nI a) (ha : a < T) (hy : y = nI b) (hb : b < T) (hab : ¬ a = b) (hz : 1 ≤ z ∧ z ≤ 60) : em_MC Γ 2 mX8_way [.ref 53, .int x, .int y, .int z] (em_hm n m dl I J rv) (some (.int 1)) (em_sI (em_hm n m dl I J rv) 74 (va_up (va_up (I 74) (8 * a + b) z) (8 * b + a) z)) := by
  refine em_MC_of (Nat.le_refl _) (Nat.le_refl _) (by decide +kernel) rfl (Nat.le_of_ble_eq_true rfl) ?_
  (repeat (refine em_pure hB kX8_way rfl ?_))
  refine em_callV (μ' := mX8_isTown) (c1 := 8) kX8_way rfl lX8_161 tX8_isTown (by decide) rfl (em_ltB hB rfl) (s_mIsTown hB x) rfl rfl (by decide) (Nat.le_of_ble_eq_true rfl) (Nat.le_refl _) (Nat.le_refl _) ?_
  refine em_bz kX8_way rfl (fun _ => ?_) (fun h => absurd (em_inB ht (by omega) hx ha) h)
  (repeat (refine em_pure hB kX8_way rfl ?_))
  refine em_callV (μ' := mX8_isTown) (c1 := 8) kX8_way rfl lX8_161 tX8_isTown (by decide) rfl (em_ltB hB rfl) (s_mIsTown hB y) rfl rfl (by decide) (Nat.le_of_ble_eq_true rfl) (Nat.le_refl _) (Nat.le_refl _) ?_
  refine em_bz kX8_way rfl (fun _ => ?_) (fun h => absurd (em_inB ht (by omega) hy hb) h)
  (repeat (refine em_pure hB kX8_way rfl ?_))
  refine em_branch kX8_way rfl (fun (h : x = y) => absurd (by rw [hx, hy] at h; exact (nI_eq (by omega) (by omega)).mp h) hab) (fun _ => ?_)
  (repeat (refine em_pure hB kX8_way rfl ?_))
  refine em_callS (μ' := mX8_in) kX8_way rfl lX8_112 tX8_in (s_in Γ _ z 1 60) rfl rfl (by decide) (Nat.le_of_ble_eq_true rfl) (Nat.le_refl _) (Nat.le_refl _) ?_
  refine em_bn kX8_way rfl (fun _ => ?_) (fun h => absurd hz h)
  (repeat (refine em_pure hB kX8_way rfl ?_))
  refine em_iw (L := 64) hB kX8_way rfl rfl rfl rfl (show 8 * x + y = nI (8 * a + b) by rw [hx, hy]; exact em_w64') (by omega) rfl ?_
  (repeat (refine em_pure hB kX8_way rfl ?_))
  refine em_iw (L := 64) hB kX8_way rfl rfl rfl rfl (show 8 * y + x = nI (8 * b + a) by rw [hx, hy]; exact em_w64') (by omega) rfl ?_
  rw [em_sI2, em_I1]
  (repeat (refine em_pure hB kX8_way rfl ?_))
  exact em_iret kX8_way rfl rfl rfl rfl
theorem s_setFodder (hB : 85 ≤ n) {z : Int32} : em_MC Γ 1 mX1_setFodder [.ref 21, .int z] (em_hm n m dl I J rv) (some (.int (if 0 ≤ z ∧ z ≤ 1000 then 1 else 0))) (if 0 ≤ z ∧ z ≤ 1000 then em_sI (em_hm n m dl I J rv) 21 (va_up (va_up (I 21) 5 z) 6 (-1)) else em_hm n m dl I J rv) := by
  by_cases h : 0 ≤ z ∧ z ≤ 1000
  · rw [if_pos h, if_pos h]
    refine em_MC_of (Nat.le_refl _) (Nat.le_refl _) (by decide +kernel) rfl (Nat.le_of_ble_eq_true rfl) ?_
    (repeat (refine em_pure hB kX1_setFodder rfl ?_))
    refine em_callS (μ' := mX7_within) kX1_setFodder rfl lX1_43 tX7_within (s_within Γ _ z 0 1000) rfl rfl (by decide) (Nat.le_of_ble_eq_true rfl) (Nat.le_refl _) (Nat.le_refl _) ?_
    refine em_bn kX1_setFodder rfl (fun _ => ?_) (fun h1 => absurd h h1)
    (repeat (refine em_pure hB kX1_setFodder rfl ?_))
    refine em_pi hB kX1_setFodder rfl rfl rfl rfl rfl rfl rfl ?_
    (repeat (refine em_pure hB kX1_setFodder rfl ?_))
    refine em_pi hB kX1_setFodder rfl rfl rfl rfl rfl rfl rfl ?_
    rw [em_sI2, em_I1]
    (repeat (refine em_pure hB kX1_setFodder rfl ?_))
    exact em_iret kX1_setFodder rfl rfl rfl rfl
  · rw [if_neg h, if_neg h]
    refine em_MC_of (Nat.le_refl _) (Nat.le_refl _) (by decide +kernel) rfl (Nat.le_of_ble_eq_true rfl) ?_
    (repeat (refine em_pure hB kX1_setFodder rfl ?_))
    refine em_callS (μ' := mX7_within) kX1_setFodder rfl lX1_43 tX7_within (s_within Γ _ z 0 1000) rfl rfl (by decide) (Nat.le_of_ble_eq_true rfl) (Nat.le_refl _) (Nat.le_refl _) ?_
    refine em_bn kX1_setFodder rfl (fun h1 => absurd h1 h) (fun _ => ?_)
    (repeat (refine em_pure hB kX1_setFodder rfl ?_))
    exact em_iret kX1_setFodder rfl rfl rfl rfl
theorem s_mFodder (hB : 85 ≤ n) {z : Int32} : em_MC Γ 1 mX8_fodder [.ref 53, .int z] (em_hm n m dl I J rv) (some (.int (if 0 ≤ z ∧ z ≤ 1000 then 1 else 0))) (if 0 ≤ z ∧ z ≤ 1000 then em_sI (em_hm n m dl I J rv) 53 (va_up (I 53) 5 z) else em_hm n m dl I J rv) := by
  by_cases h : 0 ≤ z ∧ z ≤ 1000
  · rw [if_pos h, if_pos h]
    refine em_MC_of (Nat.le_refl _) (Nat.le_refl _) (by decide +kernel) rfl (Nat.le_of_ble_eq_true rfl) ?_
    (repeat (refine em_pure hB kX8_fodder rfl ?_))
    refine em_callS (μ' := mX8_in) kX8_fodder rfl lX8_112 tX8_in (s_in Γ _ z 0 1000) rfl rfl (by decide) (Nat.le_of_ble_eq_true rfl) (Nat.le_refl _) (Nat.le_refl _) ?_
    refine em_bn kX8_fodder rfl (fun _ => ?_) (fun h1 => absurd h h1)
    (repeat (refine em_pure hB kX8_fodder rfl ?_))
    refine em_pi hB kX8_fodder rfl rfl rfl rfl rfl rfl rfl ?_
    (repeat (refine em_pure hB kX8_fodder rfl ?_))
    exact em_iret kX8_fodder rfl rfl rfl rfl
  · rw [if_neg h, if_neg h]
    refine em_MC_of (Nat.le_refl _) (Nat.le_refl _) (by decide +kernel) rfl (Nat.le_of_ble_eq_true rfl) ?_
    (repeat (refine em_pure hB kX8_fodder rfl ?_))
    refine em_callS (μ' := mX8_in) kX8_fodder rfl lX8_112 tX8_in (s_in Γ _ z 0 1000) rfl rfl (by decide) (Nat.le_of_ble_eq_true rfl) (Nat.le_refl _) (Nat.le_refl _) ?_
    refine em_bn kX8_fodder rfl (fun h1 => absurd h1 h) (fun _ => ?_)
    (repeat (refine em_pure hB kX8_fodder rfl ?_))
    exact em_iret kX8_fodder rfl rfl rfl rfl
end Towns
