/-! THE CLASS'S PLAN; THE REFERENCE'S SEARCH -/
section Plan
variable {Γ : em_Cx} {n m : Nat} {dl : Nat → Nat} {I : Nat → Nat → Int32} {J : Nat → Nat → Int64} {rv : em_Rv}
theorem em_w21 {r : Nat → Int32} {j : Nat} {x : Int32} : em_sI (em_hm n m dl (va_up I 21 r) J rv) 21 (va_up (em_I (em_hm n m dl (va_up I 21 r) J rv) 21) j x) = em_hm n m dl (va_up I 21 (va_up r j x)) J rv := by
  show em_hm n m dl (va_up (va_up I 21 r) 21 (va_up (va_up I 21 r 21) j x)) J rv = _
  rw [bx_uu, va_up_self]
abbrev em_p1 (I : Nat → Nat → Int32) (t D : Nat) : Nat → Nat → Int32 := va_up I 21 (va_up (va_up (I 21) 6 (nI t)) 7 (nI D))
def em_pln (I : Nat → Nat → Int32) (T t D : Nat) : Nat → Nat → Int32 := if I 21 6 = nI t ∧ I 21 7 = nI D then I else em_fI (em_p1 I t D) (em_vis (em_p1 I t D) T 8 0 t (nI D) 0 (0, 0, 0, I 26, I 27))
theorem s_plan_no (hB : 85 ≤ n) {x y : Int32} (h : ¬ ((0 ≤ x ∧ x ≤ I 21 0 - 1) ∧ (0 ≤ y ∧ y ≤ 1000))) : em_MC Γ 19 mX1_plan [.ref 21, .int x, .int y] (em_hm n m dl I J rv) (some (.int 0)) (em_hm n m dl I J rv) := by
  refine em_MC_of (Nat.le_refl _) (Nat.le_refl _) (by decide +kernel) rfl (Nat.le_of_ble_eq_true rfl) ?_
  (repeat (refine em_pure hB kX1_plan rfl ?_))
  refine em_callV (μ' := mX1_isTown) (c1 := 1) kX1_plan rfl lX1_47 tX1_isTown (by decide) rfl (em_ltB hB rfl) (s_isTown hB x) rfl rfl (by decide) (Nat.le_of_ble_eq_true rfl) (Nat.le_refl _) (Nat.le_refl _) ?_
  refine em_bz kX1_plan rfl (fun h1 => ?_) (fun _ => ?_)
  · (repeat (refine em_pure hB kX1_plan rfl ?_))
    refine em_callS (μ' := mX7_within) kX1_plan rfl lX1_43 tX7_within (s_within Γ _ y 0 1000) rfl rfl (by decide) (Nat.le_of_ble_eq_true rfl) (Nat.le_refl _) (Nat.le_refl _) ?_
    refine em_bn kX1_plan rfl (fun h2 => absurd ⟨h1, h2⟩ h) (fun _ => ?_)
    (repeat (refine em_pure hB kX1_plan rfl ?_))
    exact em_iret kX1_plan rfl rfl rfl rfl
  · (repeat (refine em_pure hB kX1_plan rfl ?_))
    exact em_iret kX1_plan rfl rfl rfl rfl
theorem s_plan_ok (hB : 85 ≤ n) {t D T : Nat} (hT : I 21 0 = nI T) (hT8 : T ≤ 8) (ht : t < T) (hD : D ≤ 1000) : em_MC Γ 19 mX1_plan [.ref 21, .int (nI t), .int (nI D)] (em_hm n m dl I J rv) (some (.int 1)) (em_hm n m dl (em_pln I T t D) J rv) := by
  refine em_MC_of (Nat.le_refl _) (Nat.le_refl _) (by decide +kernel) rfl (Nat.le_of_ble_eq_true rfl) ?_
  have go : ¬ (I 21 6 = nI t ∧ I 21 7 = nI D) → em_EW Γ 19 mX1_plan (em_hm n m dl I J rv) (some (.int 1), em_hm n m dl (em_pln I T t D) J rv) 37 [(0, .ref 21), (1, .int (nI t)), (2, .int (nI D))] [] (em_hm n m dl I J rv) := by
    intro h
    rw [em_pln, if_neg h]
    (repeat (refine em_pure hB kX1_plan rfl ?_))
    refine em_pi hB kX1_plan rfl rfl rfl rfl rfl rfl rfl ?_
    refine em_hpE (hp' := em_hm n m dl (va_up I 21 (va_up (I 21) 6 (nI t))) J rv) rfl ?_
    (repeat (refine em_pure hB kX1_plan rfl ?_))
    refine em_pi hB kX1_plan rfl rfl rfl rfl rfl rfl rfl ?_
    refine em_hpE em_w21 ?_
    (repeat (refine em_pure hB kX1_plan rfl ?_))
    refine em_pi hB kX1_plan rfl rfl rfl rfl rfl rfl rfl ?_
    refine em_hpE em_w21 ?_
    (repeat (refine em_pure hB kX1_plan rfl ?_))
    refine em_pi hB kX1_plan rfl rfl rfl rfl rfl rfl rfl ?_
    refine em_hpE em_w21 ?_
    (repeat (refine em_pure hB kX1_plan rfl ?_))
    refine em_pi hB kX1_plan rfl rfl rfl rfl rfl rfl rfl ?_
    refine em_hpE em_w21 ?_
    refine em_hpE (hp' := em_fr n m dl (em_p1 I t D) J rv (0, 0, 0, I 26, I 27)) ?_ ?_
    · show em_hm n m dl (va_up I 21 (va_up (va_up (va_up (va_up (va_up (I 21) 6 (nI t)) 7 (nI D)) 9 0) 10 0) 12 0)) J rv = em_hm n m dl (va_up (va_up (va_up (va_up I 21 (va_up (va_up (I 21) 6 (nI t)) 7 (nI D))) 21 (va_up (va_up (va_up (va_up (va_up (I 21) 6 (nI t)) 7 (nI D)) 9 0) 10 0) 12 0)) 26 (va_up (va_up I 21 (va_up (va_up (I 21) 6 (nI t)) 7 (nI D))) 21 (va_up (va_up (va_up (va_up (va_up (I 21) 6 (nI t)) 7 (nI D)) 9 0) 10 0) 12 0) 26)) 27 (va_up (va_up I 21 (va_up (va_up (I 21) 6 (nI t)) 7 (nI D))) 21 (va_up (va_up (va_up (va_up (va_up (I 21) 6 (nI t)) 7 (nI D)) 9 0) 10 0) 12 0) 27)) J rv
      rw [em_va_id, em_va_id, bx_uu]
    (repeat (refine em_pure hB kX1_plan rfl ?_))
    refine em_callV (μ' := mX1_visit) (c1 := 1) kX1_plan rfl lX1_70 tX1_visit (by decide) rfl (em_ltB hB rfl) (s_visit hB (I := em_p1 I t D) (T := T) hT hT8 8 0 t (nI D) 0 (0, 0, 0, I 26, I 27) rfl ht) rfl rfl (by decide) (Nat.le_of_ble_eq_true rfl) (Nat.le_refl _) (Nat.le_refl _) ?_
    (repeat (refine em_pure hB kX1_plan rfl ?_))
    exact em_iret kX1_plan rfl rfl rfl rfl
  (repeat (refine em_pure hB kX1_plan rfl ?_))
  refine em_callV (μ' := mX1_isTown) (c1 := 1) kX1_plan rfl lX1_47 tX1_isTown (by decide) rfl (em_ltB hB rfl) (s_isTown hB (nI t)) rfl rfl (by decide) (Nat.le_of_ble_eq_true rfl) (Nat.le_refl _) (Nat.le_refl _) ?_
  refine em_bz kX1_plan rfl (fun _ => ?_) (fun h => absurd (em_inB hT (by omega) rfl ht) h)
  (repeat (refine em_pure hB kX1_plan rfl ?_))
  refine em_callS (μ' := mX7_within) kX1_plan rfl lX1_43 tX7_within (s_within Γ _ (nI D) 0 1000) rfl rfl (by decide) (Nat.le_of_ble_eq_true rfl) (Nat.le_refl _) (Nat.le_refl _) ?_
  refine em_bn kX1_plan rfl (fun _ => ?_) (fun h => absurd ⟨nI_pos' (by omega), nI_le (b := 1000) hD (by omega)⟩ h)
  (repeat (refine em_pure hB kX1_plan rfl ?_))
  refine em_branch kX1_plan rfl (fun (h : ¬ nI t = I 21 6) => em_loc rfl (go (fun z => h z.1.symm))) (fun (h : ¬ ¬ nI t = I 21 6) => ?_)
  (repeat (refine em_pure hB kX1_plan rfl ?_))
  refine em_branch kX1_plan rfl (fun (h2 : nI D = I 21 7) => ?_) (fun (h2 : ¬ nI D = I 21 7) => em_loc rfl (go (fun z => h2 z.2.symm)))
  rw [em_pln, if_pos ⟨(Decidable.not_not.mp h).symm, h2.symm⟩]
  (repeat (refine em_pure hB kX1_plan rfl ?_))
  exact em_iret kX1_plan rfl rfl rfl rfl
theorem s_bestBrings_no (hB : 85 ≤ n) {x y : Int32} (h : ¬ ((0 ≤ x ∧ x ≤ I 21 0 - 1) ∧ (0 ≤ y ∧ y ≤ 1000))) : em_MC Γ 20 mX1_bestBrings [.ref 21, .int x, .int y] (em_hm n m dl I J rv) (some (.int (-1))) (em_hm n m dl I J rv) := by
  refine em_MC_of (Nat.le_refl _) (Nat.le_refl _) (by decide +kernel) rfl (Nat.le_of_ble_eq_true rfl) ?_
  (repeat (refine em_pure hB kX1_bestBrings rfl ?_))
  refine em_callV (μ' := mX1_plan) (c1 := 1) kX1_bestBrings rfl lX1_54 tX1_plan (by decide) rfl (em_ltB hB rfl) (s_plan_no hB h) rfl rfl (by decide) (Nat.le_of_ble_eq_true rfl) (Nat.le_refl _) (Nat.le_refl _) ?_
  refine em_bz (P := False) kX1_bestBrings rfl (fun h => h.elim) (fun _ => ?_)
  (repeat (refine em_pure hB kX1_bestBrings rfl ?_))
  exact em_iret kX1_bestBrings rfl rfl rfl rfl
theorem s_bestBrings_ok (hB : 85 ≤ n) {t D T : Nat} (hT : I 21 0 = nI T) (hT8 : T ≤ 8) (ht : t < T) (hD : D ≤ 1000) : em_MC Γ 20 mX1_bestBrings [.ref 21, .int (nI t), .int (nI D)] (em_hm n m dl I J rv) (some (.int (em_pln I T t D 21 10))) (em_hm n m dl (em_pln I T t D) J rv) := by
  refine em_MC_of (Nat.le_refl _) (Nat.le_refl _) (by decide +kernel) rfl (Nat.le_of_ble_eq_true rfl) ?_
  (repeat (refine em_pure hB kX1_bestBrings rfl ?_))
  refine em_callV (μ' := mX1_plan) (c1 := 1) kX1_bestBrings rfl lX1_54 tX1_plan (by decide) rfl (em_ltB hB rfl) (s_plan_ok hB hT hT8 ht hD) rfl rfl (by decide) (Nat.le_of_ble_eq_true rfl) (Nat.le_refl _) (Nat.le_refl _) ?_
  refine em_bz (P := True) kX1_bestBrings rfl (fun _ => ?_) (fun h => (h trivial).elim)
  (repeat (refine em_pure hB kX1_bestBrings rfl ?_))
  exact em_iret kX1_bestBrings rfl rfl rfl rfl
theorem s_bestStop_no (hB : 85 ≤ n) {x y i : Int32} (h : ¬ ((0 ≤ x ∧ x ≤ I 21 0 - 1) ∧ (0 ≤ y ∧ y ≤ 1000))) : em_MC Γ 20 mX1_bestStop [.ref 21, .int x, .int y, .int i] (em_hm n m dl I J rv) (some (.int (-1))) (em_hm n m dl I J rv) := by
  refine em_MC_of (Nat.le_refl _) (Nat.le_refl _) (by decide +kernel) rfl (Nat.le_of_ble_eq_true rfl) ?_
  (repeat (refine em_pure hB kX1_bestStop rfl ?_))
  refine em_callV (μ' := mX1_plan) (c1 := 1) kX1_bestStop rfl lX1_54 tX1_plan (by decide) rfl (em_ltB hB rfl) (s_plan_no hB h) rfl rfl (by decide) (Nat.le_of_ble_eq_true rfl) (Nat.le_refl _) (Nat.le_refl _) ?_
  refine em_bz (P := False) kX1_bestStop rfl (fun h => h.elim) (fun _ => ?_)
  (repeat (refine em_pure hB kX1_bestStop rfl ?_))
  exact em_iret kX1_bestStop rfl rfl rfl rfl
theorem s_bestStop_ok (hB : 85 ≤ n) {t D T c : Nat} {i : Int32} (hT : I 21 0 = nI T) (hT8 : T ≤ 8) (ht : t < T) (hD : D ≤ 1000) (hc : em_pln I T t D 21 9 = nI c) (hc8 : c ≤ 8) : em_MC Γ 20 mX1_bestStop [.ref 21, .int (nI t), .int (nI D), .int i] (em_hm n m dl I J rv) (some (.int (if 0 ≤ i ∧ i ≤ nI c - 1 then em_pln I T t D 26 i.toNatClampNeg else -1))) (em_hm n m dl (em_pln I T t D) J rv) := by
  refine em_MC_of (Nat.le_refl _) (Nat.le_refl _) (by decide +kernel) rfl (Nat.le_of_ble_eq_true rfl) ?_
  (repeat (refine em_pure hB kX1_bestStop rfl ?_))
  refine em_callV (μ' := mX1_plan) (c1 := 1) kX1_bestStop rfl lX1_54 tX1_plan (by decide) rfl (em_ltB hB rfl) (s_plan_ok hB hT hT8 ht hD) rfl rfl (by decide) (Nat.le_of_ble_eq_true rfl) (Nat.le_refl _) (Nat.le_refl _) ?_
  refine em_bz (P := True) kX1_bestStop rfl (fun _ => ?_) (fun h => (h trivial).elim)
  (repeat (refine em_pure hB kX1_bestStop rfl ?_))
  refine em_callS (μ' := mX7_within) kX1_bestStop rfl lX1_43 tX7_within (s_within Γ _ i 0 (em_pln I T t D 21 9 - 1)) rfl rfl (by decide) (Nat.le_of_ble_eq_true rfl) (Nat.le_refl _) (Nat.le_refl _) ?_
  refine em_bz kX1_bestStop rfl (fun h => ?_) (fun h => ?_)
  · rw [← hc, if_pos h]
    rw [hc] at h
    obtain ⟨j, hj, rfl⟩ := em_inB2 rfl (show c ≤ 40 by omega) h
    (repeat (refine em_pure hB kX1_bestStop rfl ?_))
    refine em_ia (L := 8) hB kX1_bestStop rfl rfl rfl rfl rfl (show j < 8 by omega) rfl ?_
    (repeat (refine em_pure hB kX1_bestStop rfl ?_))
    exact em_iret kX1_bestStop rfl rfl rfl (by rw [nI_clamp (by omega)])
  · rw [← hc, if_neg h]
    (repeat (refine em_pure hB kX1_bestStop rfl ?_))
    exact em_iret kX1_bestStop rfl rfl rfl rfl
end Plan
