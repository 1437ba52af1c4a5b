/-! THE REFERENCE'S FIELD -/
abbrev em_mb (rv : em_Rv) : Nat := bif rv.2.2.2.2 then 84 else 83
abbrev em_mo (rv : em_Rv) : Nat := bif rv.2.2.2.2 then 83 else 84
theorem em_mb1 (rv : em_Rv) : em_k (em_mb rv) = 10 := by unfold em_mb; cases rv.2.2.2.2 <;> rfl
theorem em_mb2 (rv : em_Rv) : Nat.blt (em_mb rv) 85 = true := by unfold em_mb; cases rv.2.2.2.2 <;> rfl
theorem em_mb3 (rv : em_Rv) : em_lS (em_mb rv) = 64 := by unfold em_mb; cases rv.2.2.2.2 <;> rfl
theorem em_fil_at {α : Type} (f g : Nat → α) (v w : α) (j n : Nat) (h : ∀ q, n ≤ q → g q = f q) (hg : ∀ q, q < n → g q = if q = j then w else v) : ∀ q, g q = if q < n then (if q = j then w else v) else f q := by
  intro q
  by_cases hq : q < n
  · rw [if_pos hq]; exact hg q hq
  · rw [if_neg hq]; exact h q (by omega)
/-- the row of one 1 and else 0, up to n -/
def em_one (f : Nat → Int64) (x : Int32) (n : Nat) : Nat → Int64 := fun q => if q < n then (if nI q = x then 1 else 0) else f q
theorem em_one_s (f : Nat → Int64) (x : Int32) (n : Nat) : va_up (em_one f x n) n (if nI n = x then 1 else 0) = em_one f x (n + 1) := by
  funext q
  by_cases h : q = n
  · subst h; simp [va_up, em_one]
  · by_cases h2 : q < n
    · simp [va_up, em_one, h, h2, Nat.lt_succ_of_lt h2]
    · have h3 : ¬ q < n + 1 := by omega
      simp [va_up, em_one, h, h2, h3]
section MField
variable {Γ : em_Cx} {n m : Nat} {dl : Nat → Nat} {I : Nat → Nat → Int32} {J : Nat → Nat → Int64} {rv : em_Rv}
theorem s_mWall_no (hB : 85 ≤ n) {x v : Int32} (h : ¬ (I 53 6 = -1 ∧ (0 ≤ x ∧ x ≤ 63) ∧ ¬ I 82 x.toNatClampNeg = v)) : em_MC Γ 2 mX8_wall [.ref 53, .int x, .int v] (em_hm n m dl I J rv) (some (.int 0)) (em_hm n m dl I J rv) := by
  refine em_MC_of (Nat.le_refl _) (Nat.le_refl _) (by decide +kernel) rfl (Nat.le_of_ble_eq_true rfl) ?_
  (repeat (refine em_pure hB kX8_wall rfl ?_))
  refine em_callS (μ' := mX8_in) kX8_wall rfl lX8_112 tX8_in (s_in Γ _ x 0 63) rfl rfl (by decide) (Nat.le_of_ble_eq_true rfl) (Nat.le_refl _) (Nat.le_refl _) ?_
  refine em_bz kX8_wall rfl (fun h2 => ?_) (fun h2 => ?_)
  · (repeat (refine em_pure hB kX8_wall rfl ?_))
    obtain ⟨j, hj, rfl⟩ := em_inC h2
    refine em_za (L := 64) hB kX8_wall rfl rfl rfl rfl rfl hj rfl ?_
    (repeat (refine em_pure hB kX8_wall rfl ?_))
    refine em_branch kX8_wall rfl (fun _ => ?_) (fun (h3 : ¬ I 82 j = v) => ?_)
    · (repeat (refine em_pure hB kX8_wall rfl ?_))
      exact em_iret kX8_wall rfl rfl rfl rfl
    · (repeat (refine em_pure hB kX8_wall rfl ?_))
      refine em_branch kX8_wall rfl (fun (h4 : I 53 6 = -1) => ?_) (fun _ => ?_)
      · exact absurd ⟨h4, h2, by rw [nI_clamp (by omega)]; exact h3⟩ h
      · (repeat (refine em_pure hB kX8_wall rfl ?_))
        exact em_iret kX8_wall rfl rfl rfl rfl
  · (repeat (refine em_pure hB kX8_wall rfl ?_))
    exact em_iret kX8_wall rfl rfl rfl rfl
theorem s_mWall_ok (hB : 85 ≤ n) {x v : Int32} {j : Nat} (h1 : I 53 6 = -1) (hj : j < 64) (hx : x = nI j) (h3 : ¬ I 82 j = v) (hv : v = 0 ∨ v = 1) : em_MC Γ 2 mX8_wall [.ref 53, .int x, .int v] (em_hm n m dl I J rv) (some (.int 1)) (em_sI (em_hm n m dl I J rv) 82 (va_up (I 82) j v)) := by
  refine em_MC_of (Nat.le_refl _) (Nat.le_refl _) (by decide +kernel) rfl (Nat.le_of_ble_eq_true rfl) ?_
  (repeat (refine em_pure hB kX8_wall rfl ?_))
  refine em_callS (μ' := mX8_in) kX8_wall rfl lX8_112 tX8_in (s_in Γ _ x 0 63) rfl rfl (by decide) (Nat.le_of_ble_eq_true rfl) (Nat.le_refl _) (Nat.le_refl _) ?_
  refine em_bz kX8_wall rfl (fun _ => ?_) (fun h2 => absurd (by rw [hx]; exact ⟨nI_pos' (by omega), nI_le (b := 63) (by omega) (by omega)⟩) h2)
  (repeat (refine em_pure hB kX8_wall rfl ?_))
  refine em_za (L := 64) hB kX8_wall rfl rfl rfl rfl hx hj rfl ?_
  (repeat (refine em_pure hB kX8_wall rfl ?_))
  refine em_branch kX8_wall rfl (fun h => absurd h h3) (fun _ => ?_)
  (repeat (refine em_pure hB kX8_wall rfl ?_))
  refine em_branch kX8_wall rfl (fun _ => ?_) (fun h => absurd h1 h)
  (repeat (refine em_pure hB kX8_wall rfl ?_))
  refine em_zw (L := 64) hB kX8_wall rfl rfl rfl rfl hx hj rfl hv ?_
  (repeat (refine em_pure hB kX8_wall rfl ?_))
  exact em_iret kX8_wall rfl rfl rfl rfl
theorem s_mAway_no (hB : 85 ≤ n) {b x : Int32} (h : ¬ ((0 ≤ b ∧ b ≤ I 53 1 - 1) ∧ I 53 6 = -1 ∧ (0 ≤ x ∧ x ≤ 63) ∧ I 82 x.toNatClampNeg = 0)) : em_MC Γ 2 mX8_away [.ref 53, .int b, .int x] (em_hm n m dl I J rv) (some (.int 0)) (em_hm n m dl I J rv) := by
  refine em_MC_of (Nat.le_refl _) (Nat.le_refl _) (by decide +kernel) rfl (Nat.le_of_ble_eq_true rfl) ?_
  (repeat (refine em_pure hB kX8_away rfl ?_))
  refine em_callV (μ' := mX8_isBeast) (c1 := 8) kX8_away rfl lX8_127 tX8_isBeast (by decide) rfl (em_ltB hB rfl) (s_mIsBeast hB b) rfl rfl (by decide) (Nat.le_of_ble_eq_true rfl) (Nat.le_refl _) (Nat.le_refl _) ?_
  refine em_bz kX8_away rfl (fun h1 => ?_) (fun h1 => ?_)
  · (repeat (refine em_pure hB kX8_away rfl ?_))
    refine em_callS (μ' := mX8_in) kX8_away rfl lX8_112 tX8_in (s_in Γ _ x 0 63) rfl rfl (by decide) (Nat.le_of_ble_eq_true rfl) (Nat.le_refl _) (Nat.le_refl _) ?_
    refine em_bz kX8_away rfl (fun h2 => ?_) (fun h2 => ?_)
    · (repeat (refine em_pure hB kX8_away rfl ?_))
      obtain ⟨j, hj, rfl⟩ := em_inC h2
      refine em_za (L := 64) hB kX8_away rfl rfl rfl rfl rfl hj rfl ?_
      (repeat (refine em_pure hB kX8_away rfl ?_))
      refine em_branch kX8_away rfl (fun _ => ?_) (fun (h3 : ¬ ¬ I 82 j = 0) => ?_)
      · (repeat (refine em_pure hB kX8_away rfl ?_))
        exact em_iret kX8_away rfl rfl rfl rfl
      · (repeat (refine em_pure hB kX8_away rfl ?_))
        refine em_branch kX8_away rfl (fun (h4 : I 53 6 = -1) => ?_) (fun _ => ?_)
        · exact absurd ⟨h1, h4, h2, by rw [nI_clamp (by omega)]; exact Decidable.not_not.mp h3⟩ h
        · (repeat (refine em_pure hB kX8_away rfl ?_))
          exact em_iret kX8_away rfl rfl rfl rfl
    · (repeat (refine em_pure hB kX8_away rfl ?_))
      exact em_iret kX8_away rfl rfl rfl rfl
  · (repeat (refine em_pure hB kX8_away rfl ?_))
    exact em_iret kX8_away rfl rfl rfl rfl
theorem s_mAway_ok (hB : 85 ≤ n) {b x : Int32} {j : Nat} (hb : 0 ≤ b ∧ b ≤ I 53 1 - 1) (h1 : I 53 6 = -1) (hj : j < 64) (hx : x = nI j) (h3 : I 82 j = 0) : em_MC Γ 2 mX8_away [.ref 53, .int b, .int x] (em_hm n m dl I J rv) (some (.int 1)) (em_hm n m dl (va_up I 53 (va_up (va_up (I 53) 6 b) 7 0)) (va_up J (em_mb rv) (em_one (J (em_mb rv)) x 64)) rv) := by
  refine em_MC_of (Nat.le_refl _) (Nat.le_refl _) (by decide +kernel) rfl (Nat.le_of_ble_eq_true rfl) ?_
  (repeat (refine em_pure hB kX8_away rfl ?_))
  refine em_callV (μ' := mX8_isBeast) (c1 := 8) kX8_away rfl lX8_127 tX8_isBeast (by decide) rfl (em_ltB hB rfl) (s_mIsBeast hB b) rfl rfl (by decide) (Nat.le_of_ble_eq_true rfl) (Nat.le_refl _) (Nat.le_refl _) ?_
  refine em_bz kX8_away rfl (fun _ => ?_) (fun h => absurd hb h)
  (repeat (refine em_pure hB kX8_away rfl ?_))
  refine em_callS (μ' := mX8_in) kX8_away rfl lX8_112 tX8_in (s_in Γ _ x 0 63) rfl rfl (by decide) (Nat.le_of_ble_eq_true rfl) (Nat.le_refl _) (Nat.le_refl _) ?_
  refine em_bz kX8_away rfl (fun _ => ?_) (fun h2 => absurd (by rw [hx]; exact ⟨nI_pos' (by omega), nI_le (b := 63) (by omega) (by omega)⟩) h2)
  (repeat (refine em_pure hB kX8_away rfl ?_))
  refine em_za (L := 64) hB kX8_away rfl rfl rfl rfl hx hj rfl ?_
  (repeat (refine em_pure hB kX8_away rfl ?_))
  refine em_branch kX8_away rfl (fun h => absurd h3 h) (fun _ => ?_)
  (repeat (refine em_pure hB kX8_away rfl ?_))
  refine em_branch kX8_away rfl (fun _ => ?_) (fun h => absurd h1 h)
  (repeat (refine em_pure hB kX8_away rfl ?_))
  refine em_pi hB kX8_away rfl rfl rfl rfl rfl rfl rfl ?_
  (repeat (refine em_pure hB kX8_away rfl ?_))
  refine em_pi hB kX8_away rfl rfl rfl rfl rfl rfl rfl ?_
  rw [em_sI2, em_I1]
  have loop : ∀ e c, c + e = 64 → em_EW Γ 2 mX8_away (em_hm n m dl I J rv) (some (.int 1), em_hm n m dl (va_up I 53 (va_up (va_up (I 53) 6 b) 7 0)) (va_up J (em_mb rv) (em_one (J (em_mb rv)) x 64)) rv) 49 [(0, .ref 53), (1, .int b), (2, .int x), (3, .int (nI c))] [] (em_sJ (em_hm n m dl (va_up I 53 (va_up (va_up (I 53) 6 b) 7 0)) J rv) (em_mb rv) (em_one (J (em_mb rv)) x c)) := by
    intro e
    induction e with
    | zero =>
      intro c hc
      obtain rfl : c = 64 := by omega
      (repeat (refine em_pure hB kX8_away rfl ?_))
      refine em_branch kX8_away rfl (fun _ => ?_) (fun h1 => absurd (by decide) h1)
      (repeat (refine em_pure hB kX8_away rfl ?_))
      exact em_iret kX8_away rfl rfl rfl rfl
    | succ e ih =>
      intro c hc
      have next : ∀ z : Int64, z = (if nI c = x then 1 else 0) → em_EW Γ 2 mX8_away (em_hm n m dl I J rv) (some (.int 1), em_hm n m dl (va_up I 53 (va_up (va_up (I 53) 6 b) 7 0)) (va_up J (em_mb rv) (em_one (J (em_mb rv)) x 64)) rv) 70 [(0, .ref 53), (1, .int b), (2, .int x), (3, .int (nI c))] [.long z, .int (nI c), .ref (em_mb rv)] (em_sJ (em_hm n m dl (va_up I 53 (va_up (va_up (I 53) 6 b) 7 0)) J rv) (em_mb rv) (em_one (J (em_mb rv)) x c)) := by
        intro z hz
        refine em_jw (L := 64) hB kX8_away rfl (em_mb1 rv) (em_mb2 rv) (em_mb3 rv) rfl (by omega) rfl ?_
        rw [em_sJ2, em_J1, hz, em_one_s]
        (repeat (refine em_pureT 49 hB kX8_away rfl rfl ?_))
        refine em_loc (lc' := [(0, .ref 53), (1, .int b), (2, .int x), (3, .int (nI c + 1))]) rfl ?_
        rw [nI_1]
        exact ih (c + 1) (by omega)
      (repeat (refine em_pure hB kX8_away rfl ?_))
      refine em_branch kX8_away rfl (fun (h1 : (64 : Int32) ≤ nI c) => absurd h1 (nI_ge (b := 64) (by omega) (by omega))) (fun _ => ?_)
      (repeat (refine em_pure hB kX8_away rfl ?_))
      refine em_branch kX8_away rfl (fun (h2 : ¬ nI c = x) => ?_) (fun (h2 : ¬ ¬ nI c = x) => ?_)
      · (repeat (refine em_pureT 70 hB kX8_away rfl rfl ?_))
        exact next 0 (by rw [if_neg h2])
      · (repeat (refine em_pureT 70 hB kX8_away rfl rfl ?_))
        exact next 1 (by rw [if_pos (Decidable.not_not.mp h2)])
  (repeat (refine em_pureT 49 hB kX8_away rfl rfl ?_))
  refine em_loc (lc' := [(0, .ref 53), (1, .int b), (2, .int x), (3, .int (nI 0))]) rfl ?_
  have h0 := loop 64 0 (by omega)
  have e0 : em_one (J (em_mb rv)) x 0 = J (em_mb rv) := by funext q; simp [em_one]
  rw [e0] at h0
  exact em_hpE (em_sJ_id (em_hm n m dl (va_up I 53 (va_up (va_up (I 53) 6 b) 7 0)) J rv) (em_mb rv)).symm h0
theorem s_mAll (hB : 85 ≤ n) : em_MC Γ 0 mX8_all [.ref 53] (em_hm n m dl I J rv) (some (.long (em_sL (J (em_mb rv)) 64))) (em_hm n m dl I J rv) := by
  refine em_MC_of (Nat.le_refl _) (Nat.le_refl _) (by decide +kernel) rfl (Nat.le_of_ble_eq_true rfl) ?_
  have loop : ∀ e j, j + e = 64 → em_EW Γ 0 mX8_all (em_hm n m dl I J rv) (some (.long (em_sL (J (em_mb rv)) 64)), em_hm n m dl I J rv) 4 [(0, .ref 53), (1, .long (em_sL (J (em_mb rv)) j)), (3, .int (nI j))] [] (em_hm n m dl I J rv) := by
    intro e
    induction e with
    | zero =>
      intro j hj
      obtain rfl : j = 64 := by omega
      (repeat (refine em_pure hB kX8_all rfl ?_))
      refine em_branch kX8_all rfl (fun _ => ?_) (fun h1 => absurd (by decide) h1)
      (repeat (refine em_pure hB kX8_all rfl ?_))
      exact em_lret kX8_all rfl rfl rfl
    | succ e ih =>
      intro j hj
      (repeat (refine em_pure hB kX8_all rfl ?_))
      refine em_branch kX8_all rfl (fun (h1 : (64 : Int32) ≤ nI j) => absurd h1 (nI_ge (b := 64) (by omega) (by omega))) (fun _ => ?_)
      (repeat (refine em_pure hB kX8_all rfl ?_))
      refine em_ja (L := 64) hB kX8_all rfl (em_mb1 rv) (em_mb2 rv) (em_mb3 rv) rfl (by omega) rfl ?_
      (repeat (refine em_pureT 4 hB kX8_all rfl rfl ?_))
      refine em_loc (lc' := [(0, .ref 53), (1, .long (em_sL (J (em_mb rv)) (j + 1))), (3, .int (nI j + 1))]) rfl ?_
      rw [nI_1]
      exact ih (j + 1) (by omega)
  (repeat (refine em_pureT 4 hB kX8_all rfl rfl ?_))
  refine em_loc (lc' := [(0, .ref 53), (1, .long 0), (3, .int (nI 0))]) rfl ?_
  exact loop 64 0 (by omega)
theorem s_mWhere (hB : 85 ≤ n) : em_MC Γ 0 mX8_where [.ref 53] (em_hm n m dl I J rv) (some (.int (if I 53 6 = -1 then -1 else nI (em_mx (J (em_mb rv)) 64)))) (em_hm n m dl I J rv) := by
  refine em_MC_of (Nat.le_refl _) (Nat.le_refl _) (by decide +kernel) rfl (Nat.le_of_ble_eq_true rfl) ?_
  (repeat (refine em_pure hB kX8_where rfl ?_))
  refine em_branch kX8_where rfl (fun (h1 : ¬ I 53 6 = -1) => ?_) (fun (h1 : ¬ ¬ I 53 6 = -1) => ?_)
  case refine_2 =>
    (repeat (refine em_pure hB kX8_where rfl ?_))
    exact em_iret kX8_where rfl rfl rfl (by rw [if_pos (Decidable.not_not.mp h1)])
  have loop : ∀ e j, j + e = 64 → 1 ≤ j → em_EW Γ 0 mX8_where (em_hm n m dl I J rv) (some (.int (if I 53 6 = -1 then -1 else nI (em_mx (J (em_mb rv)) 64))), em_hm n m dl I J rv) 14 [(0, .ref 53), (1, .int (nI (em_mx (J (em_mb rv)) j))), (2, .int (nI j))] [] (em_hm n m dl I J rv) := by
    intro e
    induction e with
    | zero =>
      intro j hj _
      obtain rfl : j = 64 := by omega
      (repeat (refine em_pure hB kX8_where rfl ?_))
      refine em_branch kX8_where rfl (fun _ => ?_) (fun h1 => absurd (by decide) h1)
      (repeat (refine em_pure hB kX8_where rfl ?_))
      exact em_iret kX8_where rfl rfl rfl (by rw [if_neg h1])
    | succ e ih =>
      intro j hj hj1
      have hm : em_mx (J (em_mb rv)) j < 64 := by
        obtain ⟨i, rfl⟩ : ∃ i, j = i + 1 := ⟨j - 1, by omega⟩
        have := em_mx_lt (J (em_mb rv)) i
        omega
      (repeat (refine em_pure hB kX8_where rfl ?_))
      refine em_branch kX8_where rfl (fun (h1 : (64 : Int32) ≤ nI j) => absurd h1 (nI_ge (b := 64) (by omega) (by omega))) (fun _ => ?_)
      (repeat (refine em_pure hB kX8_where rfl ?_))
      refine em_ja (L := 64) hB kX8_where rfl (em_mb1 rv) (em_mb2 rv) (em_mb3 rv) rfl (by omega) rfl ?_
      (repeat (refine em_pure hB kX8_where rfl ?_))
      refine em_ja (L := 64) hB kX8_where rfl (em_mb1 rv) (em_mb2 rv) (em_mb3 rv) rfl hm rfl ?_
      (repeat (refine em_pure hB kX8_where rfl ?_))
      refine em_branch kX8_where rfl (fun h2 => ?_) (fun h2 => ?_)
      · have h3 : ¬ J (em_mb rv) (em_mx (J (em_mb rv)) j) < J (em_mb rv) j := Int64.not_lt.mpr ((lg_cmp_le _ _).mp h2)
        (repeat (refine em_pureT 14 hB kX8_where rfl rfl ?_))
        refine em_loc (lc' := [(0, .ref 53), (1, .int (nI (em_mx (J (em_mb rv)) j))), (2, .int (nI j + 1))]) rfl ?_
        have e1 : em_mx (J (em_mb rv)) (j + 1) = em_mx (J (em_mb rv)) j := by rw [em_mx, if_neg h3]
        have h4 := ih (j + 1) (by omega) (by omega)
        rw [e1] at h4
        rw [nI_1]
        exact h4
      · have h3 : J (em_mb rv) (em_mx (J (em_mb rv)) j) < J (em_mb rv) j := Int64.not_le.mp (fun z => h2 ((lg_cmp_le _ _).mpr z))
        (repeat (refine em_pureT 14 hB kX8_where rfl rfl ?_))
        refine em_loc (lc' := [(0, .ref 53), (1, .int (nI j)), (2, .int (nI j + 1))]) rfl ?_
        have e1 : em_mx (J (em_mb rv)) (j + 1) = j := by rw [em_mx, if_pos h3]
        have h4 := ih (j + 1) (by omega) (by omega)
        rw [e1] at h4
        rw [nI_1]
        exact h4
  (repeat (refine em_pureT 14 hB kX8_where rfl rfl ?_))
  refine em_loc (lc' := [(0, .ref 53), (1, .int (nI 0)), (2, .int (nI 1))]) rfl ?_
  have h0 := loop 63 1 (by omega) (by omega)
  rw [show em_mx (J (em_mb rv)) 1 = 0 by simp [em_mx]] at h0
  exact h0
theorem s_mMaybe (hB : 85 ≤ n) {x : Int32} : em_MC Γ 1 mX8_maybe [.ref 53, .int x] (em_hm n m dl I J rv) (some (.long (if ¬ I 53 6 = -1 ∧ (0 ≤ x ∧ x ≤ 63) then J (em_mb rv) x.toNatClampNeg else -1))) (em_hm n m dl I J rv) := by
  refine em_MC_of (Nat.le_refl _) (Nat.le_refl _) (by decide +kernel) rfl (Nat.le_of_ble_eq_true rfl) ?_
  (repeat (refine em_pure hB kX8_maybe rfl ?_))
  refine em_branch kX8_maybe rfl (fun (h1 : I 53 6 = -1) => ?_) (fun (h1 : ¬ I 53 6 = -1) => ?_)
  · (repeat (refine em_pure hB kX8_maybe rfl ?_))
    exact em_lret kX8_maybe rfl rfl (by rw [if_neg (fun z => z.1 h1)])
  · (repeat (refine em_pure hB kX8_maybe rfl ?_))
    refine em_callS (μ' := mX8_in) kX8_maybe rfl lX8_112 tX8_in (s_in Γ _ x 0 63) rfl rfl (by decide) (Nat.le_of_ble_eq_true rfl) (Nat.le_refl _) (Nat.le_refl _) ?_
    refine em_bn kX8_maybe rfl (fun h2 => ?_) (fun h2 => ?_)
    · (repeat (refine em_pure hB kX8_maybe rfl ?_))
      obtain ⟨j, hj, rfl⟩ := em_inC h2
      refine em_ja (L := 64) hB kX8_maybe rfl (em_mb1 rv) (em_mb2 rv) (em_mb3 rv) rfl hj rfl ?_
      (repeat (refine em_pure hB kX8_maybe rfl ?_))
      exact em_lret kX8_maybe rfl rfl (by rw [if_pos ⟨h1, h2⟩, nI_clamp (by omega)])
    · (repeat (refine em_pure hB kX8_maybe rfl ?_))
      exact em_lret kX8_maybe rfl rfl (by rw [if_neg (fun z => h2 z.2)])
theorem s_mLook (hB : 85 ≤ n) {x : Int32} {r : Int32} {I' : Nat → Nat → Int32} {J' : Nat → Nat → Int64}
    (h : (¬ (¬ I 53 6 = -1 ∧ (0 ≤ x ∧ x ≤ 63)) ∧ r = -1 ∧ I' = I ∧ J' = J) ∨ ((¬ I 53 6 = -1 ∧ (0 ≤ x ∧ x ≤ 63)) ∧ ((J (em_mb rv) x.toNatClampNeg = 0 ∧ r = 0 ∧ I' = I ∧ J' = J) ∨ (¬ J (em_mb rv) x.toNatClampNeg = 0 ∧ ((J (em_mb rv) x.toNatClampNeg = em_sL (J (em_mb rv)) 64 ∧ r = 2 ∧ I' = va_up I 53 (va_up (I 53) 6 (-1)) ∧ J' = J) ∨ (¬ J (em_mb rv) x.toNatClampNeg = em_sL (J (em_mb rv)) 64 ∧ r = 1 ∧ I' = I ∧ J' = va_up J (em_mb rv) (va_up (J (em_mb rv)) x.toNatClampNeg 0))))))) : em_MC Γ 1 mX8_look [.ref 53, .int x] (em_hm n m dl I J rv) (some (.int r)) (em_hm n m dl I' J' rv) := by
  refine em_MC_of (Nat.le_refl _) (Nat.le_refl _) (by decide +kernel) rfl (Nat.le_of_ble_eq_true rfl) ?_
  (repeat (refine em_pure hB kX8_look rfl ?_))
  rcases h with ⟨h, rfl, rfl, rfl⟩ | ⟨h, h2⟩
  · refine em_branch kX8_look rfl (fun _ => ?_) (fun (h1 : ¬ I' 53 6 = -1) => ?_)
    · (repeat (refine em_pure hB kX8_look rfl ?_))
      exact em_iret kX8_look rfl rfl rfl rfl
    · (repeat (refine em_pure hB kX8_look rfl ?_))
      refine em_callS (μ' := mX8_in) kX8_look rfl lX8_112 tX8_in (s_in Γ _ x 0 63) rfl rfl (by decide) (Nat.le_of_ble_eq_true rfl) (Nat.le_refl _) (Nat.le_refl _) ?_
      refine em_bn kX8_look rfl (fun h2 => absurd ⟨h1, h2⟩ h) (fun _ => ?_)
      (repeat (refine em_pure hB kX8_look rfl ?_))
      exact em_iret kX8_look rfl rfl rfl rfl
  refine em_branch kX8_look rfl (fun (h1 : I 53 6 = -1) => absurd h1 h.1) (fun _ => ?_)
  (repeat (refine em_pure hB kX8_look rfl ?_))
  refine em_callS (μ' := mX8_in) kX8_look rfl lX8_112 tX8_in (s_in Γ _ x 0 63) rfl rfl (by decide) (Nat.le_of_ble_eq_true rfl) (Nat.le_refl _) (Nat.le_refl _) ?_
  refine em_bn kX8_look rfl (fun _ => ?_) (fun h1 => absurd h.2 h1)
  obtain ⟨j, hj, rfl⟩ := em_inC h.2
  rw [nI_clamp (by omega)] at h2
  (repeat (refine em_pure hB kX8_look rfl ?_))
  refine em_ja (L := 64) hB kX8_look rfl (em_mb1 rv) (em_mb2 rv) (em_mb3 rv) rfl hj rfl ?_
  (repeat (refine em_pure hB kX8_look rfl ?_))
  rcases h2 with ⟨h2, rfl, rfl, rfl⟩ | ⟨h2, h3⟩
  · refine em_branch kX8_look rfl (fun h4 => absurd ((lg_cmp_eq _ _).mpr h2) h4) (fun _ => ?_)
    (repeat (refine em_pure hB kX8_look rfl ?_))
    exact em_iret kX8_look rfl rfl rfl rfl
  refine em_branch kX8_look rfl (fun _ => ?_) (fun h4 => absurd (fun z => h2 ((lg_cmp_eq _ _).mp z)) h4)
  (repeat (refine em_pure hB kX8_look rfl ?_))
  refine em_ja (L := 64) hB kX8_look rfl (em_mb1 rv) (em_mb2 rv) (em_mb3 rv) rfl hj rfl ?_
  (repeat (refine em_pure hB kX8_look rfl ?_))
  refine em_callV (μ' := mX8_all) (c1 := 8) kX8_look rfl lX8_249 tX8_all (by decide) rfl (em_ltB hB rfl) (s_mAll hB) rfl rfl (by decide) (Nat.le_of_ble_eq_true rfl) (Nat.le_refl _) (Nat.le_refl _) ?_
  (repeat (refine em_pure hB kX8_look rfl ?_))
  rcases h3 with ⟨h3, rfl, rfl, rfl⟩ | ⟨h3, rfl, rfl, rfl⟩
  · refine em_branch kX8_look rfl (fun h4 => absurd ((lg_cmp_eq _ _).mpr h3) h4) (fun _ => ?_)
    (repeat (refine em_pure hB kX8_look rfl ?_))
    refine em_pi hB kX8_look rfl rfl rfl rfl rfl rfl rfl ?_
    (repeat (refine em_pure hB kX8_look rfl ?_))
    exact em_iret kX8_look rfl rfl rfl rfl
  · refine em_branch kX8_look rfl (fun _ => ?_) (fun h4 => absurd (fun z => h3 ((lg_cmp_eq _ _).mp z)) h4)
    (repeat (refine em_pure hB kX8_look rfl ?_))
    refine em_jw (L := 64) hB kX8_look rfl (em_mb1 rv) (em_mb2 rv) (em_mb3 rv) rfl hj rfl ?_
    (repeat (refine em_pure hB kX8_look rfl ?_))
    exact em_iret kX8_look rfl rfl rfl rfl
theorem s_mChance_no (hB : 85 ≤ n) {x w : Int32} (h : ¬ ((¬ I 53 6 = -1 ∧ (0 ≤ x ∧ x ≤ 63)) ∧ (0 ≤ w ∧ w ≤ 1))) : em_MC Γ 1 mX8_chance [.ref 53, .int x, .int w] (em_hm n m dl I J rv) (some (.long (-1))) (em_hm n m dl I J rv) := by
  refine em_MC_of (Nat.le_refl _) (Nat.le_refl _) (by decide +kernel) rfl (Nat.le_of_ble_eq_true rfl) ?_
  (repeat (refine em_pure hB kX8_chance rfl ?_))
  refine em_branch kX8_chance rfl (fun _ => ?_) (fun (h1 : ¬ I 53 6 = -1) => ?_)
  · (repeat (refine em_pure hB kX8_chance rfl ?_))
    exact em_lret kX8_chance rfl rfl rfl
  · (repeat (refine em_pure hB kX8_chance rfl ?_))
    refine em_callS (μ' := mX8_in) kX8_chance rfl lX8_112 tX8_in (s_in Γ _ x 0 63) rfl rfl (by decide) (Nat.le_of_ble_eq_true rfl) (Nat.le_refl _) (Nat.le_refl _) ?_
    refine em_bz kX8_chance rfl (fun h2 => ?_) (fun h2 => ?_)
    · (repeat (refine em_pure hB kX8_chance rfl ?_))
      refine em_callS (μ' := mX8_in) kX8_chance rfl lX8_112 tX8_in (s_in Γ _ w 0 1) rfl rfl (by decide) (Nat.le_of_ble_eq_true rfl) (Nat.le_refl _) (Nat.le_refl _) ?_
      refine em_bn kX8_chance rfl (fun h3 => absurd ⟨⟨h1, h2⟩, h3⟩ h) (fun _ => ?_)
      (repeat (refine em_pure hB kX8_chance rfl ?_))
      exact em_lret kX8_chance rfl rfl rfl
    · (repeat (refine em_pure hB kX8_chance rfl ?_))
      exact em_lret kX8_chance rfl rfl rfl
theorem s_mChance_ok (hB : 85 ≤ n) {x w : Int32} {a b : Nat} (h : ¬ I 53 6 = -1 ∧ (0 ≤ x ∧ x ≤ 63)) (hw : 0 ≤ w ∧ w ≤ 1) (ha : J (em_mb rv) x.toNatClampNeg = lN a) (hb : em_sL (J (em_mb rv)) 64 = lN b) (ha2 : a < 2 ^ 63) (hb1 : 0 < b) (hb2 : b < 2 ^ 63) : em_MC Γ 1 mX8_chance [.ref 53, .int x, .int w] (em_hm n m dl I J rv) (some (.long ((if w = 0 then lN a else lN b) / lN (Nat.gcd a b)))) (em_hm n m dl I J rv) := by
  refine em_MC_of (Nat.le_refl _) (Nat.le_refl _) (by decide +kernel) rfl (Nat.le_of_ble_eq_true rfl) ?_
  (repeat (refine em_pure hB kX8_chance rfl ?_))
  refine em_branch kX8_chance rfl (fun h1 => absurd h1 h.1) (fun _ => ?_)
  (repeat (refine em_pure hB kX8_chance rfl ?_))
  refine em_callS (μ' := mX8_in) kX8_chance rfl lX8_112 tX8_in (s_in Γ _ x 0 63) rfl rfl (by decide) (Nat.le_of_ble_eq_true rfl) (Nat.le_refl _) (Nat.le_refl _) ?_
  refine em_bz kX8_chance rfl (fun _ => ?_) (fun h1 => absurd h.2 h1)
  (repeat (refine em_pure hB kX8_chance rfl ?_))
  refine em_callS (μ' := mX8_in) kX8_chance rfl lX8_112 tX8_in (s_in Γ _ w 0 1) rfl rfl (by decide) (Nat.le_of_ble_eq_true rfl) (Nat.le_refl _) (Nat.le_refl _) ?_
  refine em_bn kX8_chance rfl (fun _ => ?_) (fun h1 => absurd hw h1)
  obtain ⟨j, hj, rfl⟩ := em_inC h.2
  rw [nI_clamp (by omega)] at ha
  (repeat (refine em_pure hB kX8_chance rfl ?_))
  refine em_ja (L := 64) hB kX8_chance rfl (em_mb1 rv) (em_mb2 rv) (em_mb3 rv) rfl hj rfl ?_
  rw [show em_J (em_hm n m dl I J rv) (em_mb rv) j = lN a from ha]
  (repeat (refine em_pure hB kX8_chance rfl ?_))
  refine em_callV (μ' := mX8_all) (c1 := 8) kX8_chance rfl lX8_249 tX8_all (by decide) rfl (em_ltB hB rfl) (s_mAll hB) rfl rfl (by decide) (Nat.le_of_ble_eq_true rfl) (Nat.le_refl _) (Nat.le_refl _) ?_
  rw [hb]
  have loop : ∀ (f p q : Nat), q ≤ f → p < 2 ^ 63 → q < 2 ^ 63 → Nat.gcd p q = Nat.gcd a b → em_EW Γ 1 mX8_chance (em_hm n m dl I J rv) (some (.long ((if w = 0 then lN a else lN b) / lN (Nat.gcd a b))), em_hm n m dl I J rv) 51 [(2, .int w), (3, .long (lN a)), (5, .long (lN b)), (7, .long (lN p)), (9, .long (lN q))] [] (em_hm n m dl I J rv) := by
    intro f
    induction f with
    | zero =>
      intro p q hq hp2 hq2 hgcd
      obtain rfl : q = 0 := by omega
      rw [Nat.gcd_zero_right] at hgcd
      have hg0 : ¬ lN p = 0 := by
        intro z
        have h7 : Nat.gcd a b ≠ 0 := fun y => by have := Nat.gcd_eq_zero_iff.mp y; omega
        exact h7 (by rw [← hgcd]; exact (pk_lEQ (b := 0) hp2 (by omega)).mp z)
      (repeat (refine em_pure hB kX8_chance rfl ?_))
      refine em_branch kX8_chance rfl (fun _ => ?_) (fun h4 => absurd ((lg_cmp_eq _ _).mpr rfl) h4)
      (repeat (refine em_pure hB kX8_chance rfl ?_))
      refine em_branch kX8_chance rfl (fun (h5 : ¬ w = 0) => ?_) (fun (h5 : ¬ ¬ w = 0) => ?_)
      · (repeat (refine em_pure hB kX8_chance rfl ?_))
        refine em_ldiv kX8_chance rfl hg0 ?_
        (repeat (refine em_pure hB kX8_chance rfl ?_))
        exact em_lret kX8_chance rfl rfl (by rw [if_neg h5, hgcd])
      · (repeat (refine em_pure hB kX8_chance rfl ?_))
        refine em_ldiv kX8_chance rfl hg0 ?_
        (repeat (refine em_pure hB kX8_chance rfl ?_))
        exact em_lret kX8_chance rfl rfl (by rw [if_pos (Decidable.not_not.mp h5), hgcd])
    | succ f ih =>
      intro p q hq hp2 hq2 hgcd
      rcases Nat.eq_zero_or_pos q with rfl | hq0
      · exact ih p 0 (by omega) hp2 hq2 hgcd
      have hq1 : ¬ lN q = 0 := fun z => by have := (pk_lEQ (b := 0) hq2 (by omega)).mp z; omega
      (repeat (refine em_pure hB kX8_chance rfl ?_))
      refine em_branch kX8_chance rfl (fun h4 => absurd ((lg_cmp_eq _ _).mp h4) hq1) (fun _ => ?_)
      (repeat (refine em_pure hB kX8_chance rfl ?_))
      refine em_lrem kX8_chance rfl hq1 ?_
      rw [pk_lRem hp2 hq0 hq2]
      have hlt := Nat.mod_lt p hq0
      (repeat (refine em_pureT 51 hB kX8_chance rfl rfl ?_))
      refine em_loc (lc' := [(2, .int w), (3, .long (lN a)), (5, .long (lN b)), (7, .long (lN q)), (9, .long (lN (p % q)))]) rfl ?_
      exact ih q (p % q) (by omega) hq2 (by omega) (by rw [← hgcd, Nat.gcd_comm p q, Nat.gcd_rec q p, Nat.gcd_comm])
  (repeat (refine em_pureT 51 hB kX8_chance rfl rfl ?_))
  refine em_loc (lc' := [(2, .int w), (3, .long (lN a)), (5, .long (lN b)), (7, .long (lN a)), (9, .long (lN b))]) rfl ?_
  exact loop b a b (Nat.le_refl _) ha2 hb2 rfl
end MField
/-- Euclid's steps: 2 s + 1 are enough below 2 ^ s -/
theorem em_gcd_ok : ∀ (s f a b : Nat), 2 * s + 1 ≤ f → a < 2 ^ 63 → b < 2 ^ 63 → b < 2 ^ s → em_gcd f (lN a) (lN b) = lN (Nat.gcd a b)
  | 0, f, a, b, hf, ha, hb, hs => by
    obtain rfl : b = 0 := by omega
    obtain ⟨g, rfl⟩ : ∃ g, f = g + 1 := ⟨f - 1, by omega⟩
    rw [em_gcd, if_pos (by rfl), Nat.gcd_zero_right]
  | s + 1, f, a, b, hf, ha, hb, hs => by
    obtain ⟨g, rfl⟩ : ∃ g, f = g + 2 := ⟨f - 2, by omega⟩
    rcases Nat.eq_zero_or_pos b with rfl | h0
    · rw [em_gcd, if_pos (by rfl), Nat.gcd_zero_right]
    have h1 : ¬ lN b = 0 := fun z => by have := (pk_lEQ (b := 0) hb (by omega)).mp z; omega
    rw [em_gcd, if_neg h1, pk_lRem ha h0 hb]
    have hr := Nat.mod_lt a h0
    have e1 : Nat.gcd a b = Nat.gcd b (a % b) := by rw [Nat.gcd_comm a b, Nat.gcd_rec b a, Nat.gcd_comm]
    rcases Nat.eq_zero_or_pos (a % b) with hz | h2
    · rw [hz, em_gcd, if_pos (by rfl), e1, hz, Nat.gcd_zero_right]
    have h3 : ¬ lN (a % b) = 0 := fun z => by have := (pk_lEQ (b := 0) (by omega) (by omega)).mp z; omega
    rw [em_gcd, if_neg h3, pk_lRem hb h2 (by omega)]
    have hr2 := Nat.mod_lt b h2
    have hs2 : 2 ^ (s + 1) = 2 * 2 ^ s := by rw [Nat.pow_succ, Nat.mul_comm]
    have hdm := Nat.div_add_mod b (a % b)
    have hq : 1 ≤ b / (a % b) := Nat.div_pos (Nat.le_of_lt hr) h2
    have hmul : (a % b) * 1 ≤ (a % b) * (b / (a % b)) := Nat.mul_le_mul_left _ hq
    rw [em_gcd_ok s g (a % b) (b % (a % b)) (by omega) (by omega) (by omega) (by omega), e1, Nat.gcd_comm b (a % b), Nat.gcd_rec (a % b) b, Nat.gcd_comm]
