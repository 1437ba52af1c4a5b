/-! THE REFERENCE'S TOUR AND STOP -/
section MTour3
variable {Γ : em_Cx} {n m : Nat} {dl : Nat → Nat} {I : Nat → Nat → Int32} {J : Nat → Nat → Int64} {rv : em_Rv}
theorem em_w53 {r : Nat → Int32} {j : Nat} {x : Int32} : em_sI (em_hm n m dl (va_up I 53 r) J rv) 53 (va_up (em_I (em_hm n m dl (va_up I 53 r) J rv) 53) j x) = em_hm n m dl (va_up I 53 (va_up r j x)) J rv := by
  show em_hm n m dl (va_up (va_up I 53 r) 53 (va_up (va_up I 53 r 53) j x)) J rv = _
  rw [bx_uu, va_up_self]
abbrev em_q1 (I : Nat → Nat → Int32) (D : Nat) : Nat → Nat → Int32 := va_up I 53 (va_up (I 53) 33 (nI D))
abbrev em_q2 (I : Nat → Nat → Int32) (T t D : Nat) : em_GS := em_gon (em_q1 I D) T 8 0 t (nI D) 0 (1 <<< (nI t &&& 31)) (0, 0, I 76, I 75)
abbrev em_mtr (I : Nat → Nat → Int32) (T t D : Nat) : Nat → Nat → Int32 := em_mI (em_q1 I D) (em_q2 I T t D)
theorem em_un_one {t T : Nat} (ht : t < T) (hT : T ≤ 8) : em_un (1 <<< (nI t &&& 31)) T < 8 := by
  have h := em_un_or 0 (k := t) (by omega) (em_hs_0 (by omega)) T hT
  rw [Int32.zero_or, if_pos ht] at h
  have := em_un_le 0 T
  omega
theorem s_findTour (hB : 85 ≤ n) {t D T : Nat} (hT : I 53 4 = nI T) (hT8 : T ≤ 8) (ht : t < T) : em_MC Γ 10 mX8_findTour [.ref 53, .int (nI t), .int (nI D)] (em_hm n m dl I J rv) none (em_hm n m dl (em_mtr I T t D) J rv) := by
  refine em_MC_of (Nat.le_refl _) (Nat.le_refl _) (by decide +kernel) rfl (Nat.le_of_ble_eq_true rfl) ?_
  (repeat (refine em_pure hB kX8_findTour rfl ?_))
  refine em_pi hB kX8_findTour rfl rfl rfl rfl rfl rfl rfl ?_
  refine em_hpE (hp' := em_hm n m dl (va_up I 53 (va_up (I 53) 31 0)) J rv) rfl ?_
  (repeat (refine em_pure hB kX8_findTour rfl ?_))
  refine em_pi hB kX8_findTour rfl rfl rfl rfl rfl rfl rfl ?_
  refine em_hpE em_w53 ?_
  (repeat (refine em_pure hB kX8_findTour rfl ?_))
  refine em_pi hB kX8_findTour rfl rfl rfl rfl rfl rfl rfl ?_
  refine em_hpE em_w53 ?_
  refine em_hpE (hp' := em_mgr n m dl (em_q1 I D) J rv (0, 0, I 76, I 75)) ?_ ?_
  · show em_hm n m dl (va_up I 53 (va_up (va_up (va_up (I 53) 31 0) 32 0) 33 (nI D))) J rv = em_hm n m dl (va_up (va_up (va_up (va_up I 53 (va_up (I 53) 33 (nI D))) 53 (va_up (va_up (va_up (I 53) 33 (nI D)) 31 0) 32 0)) 76 (va_up (va_up I 53 (va_up (I 53) 33 (nI D))) 53 (va_up (va_up (va_up (I 53) 33 (nI D)) 31 0) 32 0) 76)) 75 (va_up (va_up I 53 (va_up (I 53) 33 (nI D))) 53 (va_up (va_up (va_up (I 53) 33 (nI D)) 31 0) 32 0) 75)) J rv
    rw [em_va_id, em_va_id, bx_uu]
    rw [em_upc _ _ _ (show ¬ 32 = 33 by decide), em_upc _ _ _ (show ¬ 31 = 33 by decide)]
  (repeat (refine em_pure hB kX8_findTour rfl ?_))
  refine em_callV (μ' := mX8_goOn) (c1 := 8) kX8_findTour rfl lX8_184 tX8_goOn (by decide) rfl (em_ltB hB rfl) (s_mGoOn hB (I := em_q1 I D) (T := T) hT hT8 8 0 t (nI D) 0 (1 <<< (nI t &&& 31)) (0, 0, I 76, I 75) (em_un_one ht hT8) (by omega) ht) rfl rfl (by decide) (Nat.le_of_ble_eq_true rfl) (Nat.le_refl _) (Nat.le_refl _) ?_
  exact em_vret kX8_findTour rfl rfl rfl
theorem s_mTour_no (hB : 85 ≤ n) {x y : Int32} (h : ¬ ((0 ≤ x ∧ x ≤ I 53 4 - 1) ∧ (0 ≤ y ∧ y ≤ 1000))) : em_MC Γ 11 mX8_tour [.ref 53, .int x, .int y] (em_hm n m dl I J rv) (some (.int (-1))) (em_hm n m dl I J rv) := by
  refine em_MC_of (Nat.le_refl _) (Nat.le_refl _) (by decide +kernel) rfl (Nat.le_of_ble_eq_true rfl) ?_
  (repeat (refine em_pure hB kX8_tour rfl ?_))
  refine em_callV (μ' := mX8_isTown) (c1 := 8) kX8_tour rfl lX8_161 tX8_isTown (by decide) rfl (em_ltB hB rfl) (s_mIsTown hB x) rfl rfl (by decide) (Nat.le_of_ble_eq_true rfl) (Nat.le_refl _) (Nat.le_refl _) ?_
  refine em_bz kX8_tour rfl (fun h1 => ?_) (fun _ => ?_)
  · (repeat (refine em_pure hB kX8_tour rfl ?_))
    refine em_callS (μ' := mX8_in) kX8_tour rfl lX8_112 tX8_in (s_in Γ _ y 0 1000) rfl rfl (by decide) (Nat.le_of_ble_eq_true rfl) (Nat.le_refl _) (Nat.le_refl _) ?_
    refine em_bn kX8_tour rfl (fun h2 => absurd ⟨h1, h2⟩ h) (fun _ => ?_)
    (repeat (refine em_pure hB kX8_tour rfl ?_))
    exact em_iret kX8_tour rfl rfl rfl rfl
  · (repeat (refine em_pure hB kX8_tour rfl ?_))
    exact em_iret kX8_tour rfl rfl rfl rfl
theorem s_mTour_ok (hB : 85 ≤ n) {t D T : Nat} (hT : I 53 4 = nI T) (hT8 : T ≤ 8) (ht : t < T) (hD : D ≤ 1000) : em_MC Γ 11 mX8_tour [.ref 53, .int (nI t), .int (nI D)] (em_hm n m dl I J rv) (some (.int (em_q2 I T t D).2.1)) (em_hm n m dl (em_mtr I T t D) J rv) := by
  refine em_MC_of (Nat.le_refl _) (Nat.le_refl _) (by decide +kernel) rfl (Nat.le_of_ble_eq_true rfl) ?_
  (repeat (refine em_pure hB kX8_tour rfl ?_))
  refine em_callV (μ' := mX8_isTown) (c1 := 8) kX8_tour rfl lX8_161 tX8_isTown (by decide) rfl (em_ltB hB rfl) (s_mIsTown hB (nI t)) rfl rfl (by decide) (Nat.le_of_ble_eq_true rfl) (Nat.le_refl _) (Nat.le_refl _) ?_
  refine em_bz kX8_tour rfl (fun _ => ?_) (fun h => absurd (em_inB hT (by omega) rfl ht) h)
  (repeat (refine em_pure hB kX8_tour rfl ?_))
  refine em_callS (μ' := mX8_in) kX8_tour rfl lX8_112 tX8_in (s_in Γ _ (nI D) 0 1000) rfl rfl (by decide) (Nat.le_of_ble_eq_true rfl) (Nat.le_refl _) (Nat.le_refl _) ?_
  refine em_bn kX8_tour rfl (fun _ => ?_) (fun h => absurd ⟨nI_pos' (by omega), nI_le (b := 1000) hD (by omega)⟩ h)
  (repeat (refine em_pure hB kX8_tour rfl ?_))
  refine em_callV (μ' := mX8_findTour) (c1 := 8) kX8_tour rfl lX8_188 tX8_findTour (by decide) rfl (em_ltB hB rfl) (s_findTour hB hT hT8 ht) rfl rfl (by decide) (Nat.le_of_ble_eq_true rfl) (Nat.le_refl _) (Nat.le_refl _) ?_
  unfold em_mtr
  generalize em_q2 I T t D = q
  (repeat (refine em_pure hB kX8_tour rfl ?_))
  exact em_iret kX8_tour rfl rfl rfl rfl
theorem s_mStop_no (hB : 85 ≤ n) {x y i : Int32} (h : ¬ ((0 ≤ x ∧ x ≤ I 53 4 - 1) ∧ (0 ≤ y ∧ y ≤ 1000))) : em_MC Γ 11 mX8_stop [.ref 53, .int x, .int y, .int i] (em_hm n m dl I J rv) (some (.int (-1))) (em_hm n m dl I J rv) := by
  refine em_MC_of (Nat.le_refl _) (Nat.le_refl _) (by decide +kernel) rfl (Nat.le_of_ble_eq_true rfl) ?_
  (repeat (refine em_pure hB kX8_stop rfl ?_))
  refine em_callV (μ' := mX8_isTown) (c1 := 8) kX8_stop rfl lX8_161 tX8_isTown (by decide) rfl (em_ltB hB rfl) (s_mIsTown hB x) rfl rfl (by decide) (Nat.le_of_ble_eq_true rfl) (Nat.le_refl _) (Nat.le_refl _) ?_
  refine em_bz kX8_stop rfl (fun h1 => ?_) (fun _ => ?_)
  · (repeat (refine em_pure hB kX8_stop rfl ?_))
    refine em_callS (μ' := mX8_in) kX8_stop rfl lX8_112 tX8_in (s_in Γ _ y 0 1000) rfl rfl (by decide) (Nat.le_of_ble_eq_true rfl) (Nat.le_refl _) (Nat.le_refl _) ?_
    refine em_bn kX8_stop rfl (fun h2 => absurd ⟨h1, h2⟩ h) (fun _ => ?_)
    (repeat (refine em_pure hB kX8_stop rfl ?_))
    exact em_iret kX8_stop rfl rfl rfl rfl
  · (repeat (refine em_pure hB kX8_stop rfl ?_))
    exact em_iret kX8_stop rfl rfl rfl rfl
theorem s_mStop_ok (hB : 85 ≤ n) {t D T c : Nat} {i : Int32} (hT : I 53 4 = nI T) (hT8 : T ≤ 8) (ht : t < T) (hD : D ≤ 1000) (hc : (em_q2 I T t D).1 = nI c) (hc8 : c ≤ 8) : em_MC Γ 11 mX8_stop [.ref 53, .int (nI t), .int (nI D), .int i] (em_hm n m dl I J rv) (some (.int (if 0 ≤ i ∧ i ≤ nI c - 1 then (em_q2 I T t D).2.2.1 i.toNatClampNeg else -1))) (em_hm n m dl (em_mtr I T t D) J rv) := by
  refine em_MC_of (Nat.le_refl _) (Nat.le_refl _) (by decide +kernel) rfl (Nat.le_of_ble_eq_true rfl) ?_
  (repeat (refine em_pure hB kX8_stop rfl ?_))
  refine em_callV (μ' := mX8_isTown) (c1 := 8) kX8_stop rfl lX8_161 tX8_isTown (by decide) rfl (em_ltB hB rfl) (s_mIsTown hB (nI t)) rfl rfl (by decide) (Nat.le_of_ble_eq_true rfl) (Nat.le_refl _) (Nat.le_refl _) ?_
  refine em_bz kX8_stop rfl (fun _ => ?_) (fun h => absurd (em_inB hT (by omega) rfl ht) h)
  (repeat (refine em_pure hB kX8_stop rfl ?_))
  refine em_callS (μ' := mX8_in) kX8_stop rfl lX8_112 tX8_in (s_in Γ _ (nI D) 0 1000) rfl rfl (by decide) (Nat.le_of_ble_eq_true rfl) (Nat.le_refl _) (Nat.le_refl _) ?_
  refine em_bn kX8_stop rfl (fun _ => ?_) (fun h => absurd ⟨nI_pos' (by omega), nI_le (b := 1000) hD (by omega)⟩ h)
  (repeat (refine em_pure hB kX8_stop rfl ?_))
  refine em_callV (μ' := mX8_findTour) (c1 := 8) kX8_stop rfl lX8_188 tX8_findTour (by decide) rfl (em_ltB hB rfl) (s_findTour hB hT hT8 ht) rfl rfl (by decide) (Nat.le_of_ble_eq_true rfl) (Nat.le_refl _) (Nat.le_refl _) ?_
  unfold em_mtr
  generalize em_q2 I T t D = q at *
  (repeat (refine em_pure hB kX8_stop rfl ?_))
  refine em_callS (μ' := mX8_in) kX8_stop rfl lX8_112 tX8_in (s_in Γ _ i 0 (q.1 - 1)) rfl rfl (by decide) (Nat.le_of_ble_eq_true rfl) (Nat.le_refl _) (Nat.le_refl _) ?_
  refine em_bz kX8_stop rfl (fun h => ?_) (fun h => ?_)
  · rw [← hc, if_pos h]
    rw [hc] at h
    obtain ⟨j, hj, rfl⟩ := em_inB2 rfl (show c ≤ 40 by omega) h
    (repeat (refine em_pure hB kX8_stop rfl ?_))
    refine em_ia (L := 8) hB kX8_stop rfl rfl rfl rfl rfl (show j < 8 by omega) rfl ?_
    (repeat (refine em_pure hB kX8_stop rfl ?_))
    exact em_iret kX8_stop rfl rfl rfl (by rw [nI_clamp (by omega)] <;> rfl)
  · rw [← hc, if_neg h]
    (repeat (refine em_pure hB kX8_stop rfl ?_))
    exact em_iret kX8_stop rfl rfl rfl rfl
end MTour3
