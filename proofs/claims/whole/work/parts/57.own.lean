/-! THE CLASS'S OWN METHODS -/
section Own
variable {Γ : em_Cx} {n m : Nat} {dl : Nat → Nat} {I : Nat → Nat → Int32} {J : Nat → Nat → Int64} {rv : em_Rv}
theorem s_kind_no (hB : 85 ≤ n) {x f w : Int32} {N : Nat} (hx : I 1 2 = nI N) (hN : N ≤ 40) (hk : ∀ b, b < N → ∃ k, k < 8 ∧ I 4 b = nI k) (h : ¬ ((0 ≤ x ∧ x ≤ 7) ∧ (0 ≤ f ∧ f ≤ 100) ∧ (1 ≤ w ∧ w ≤ 1000) ∧ em_ex (em_wb I x w N) 8 = false)) : em_MC Γ 5 mX7_kind [.ref 0, .int x, .int f, .int w] (em_hm n m dl I J rv) (some (.int 0)) (em_hm n m dl I J rv) := by
  refine em_MC_of (Nat.le_refl _) (Nat.le_refl _) (by decide +kernel) rfl (Nat.le_of_ble_eq_true rfl) ?_
  (repeat (refine em_pure hB kX7_kind rfl ?_))
  refine em_callS (μ' := mX7_isKind) kX7_kind rfl lX7_64 tX7_isKind (s_isKind Γ _ x) rfl rfl (by decide) (Nat.le_of_ble_eq_true rfl) (Nat.le_refl _) (Nat.le_refl _) ?_
  refine em_bz kX7_kind rfl (fun h1 => ?_) (fun _ => ?_)
  case refine_2 =>
    (repeat (refine em_pure hB kX7_kind rfl ?_))
    exact em_iret kX7_kind rfl rfl rfl rfl
  (repeat (refine em_pure hB kX7_kind rfl ?_))
  refine em_callS (μ' := mX7_within) kX7_kind rfl lX7_68 tX7_within (s_within Γ _ f 0 100) rfl rfl (by decide) (Nat.le_of_ble_eq_true rfl) (Nat.le_refl _) (Nat.le_refl _) ?_
  refine em_bz kX7_kind rfl (fun h2 => ?_) (fun _ => ?_)
  case refine_2 =>
    (repeat (refine em_pure hB kX7_kind rfl ?_))
    exact em_iret kX7_kind rfl rfl rfl rfl
  (repeat (refine em_pure hB kX7_kind rfl ?_))
  refine em_callS (μ' := mX7_within) kX7_kind rfl lX7_68 tX7_within (s_within Γ _ w 1 1000) rfl rfl (by decide) (Nat.le_of_ble_eq_true rfl) (Nat.le_refl _) (Nat.le_refl _) ?_
  refine em_bn kX7_kind rfl (fun h3 => ?_) (fun _ => ?_)
  case refine_2 =>
    (repeat (refine em_pure hB kX7_kind rfl ?_))
    exact em_iret kX7_kind rfl rfl rfl rfl
  (repeat (refine em_pure hB kX7_kind rfl ?_))
  refine em_callV (μ' := mX6_wouldBear) (c1 := 6) kX7_kind rfl lX7_72 tX6_wouldBear (by decide) rfl (em_ltB hB rfl) (s_wouldBear hB hx hN hk) rfl rfl (by decide) (Nat.le_of_ble_eq_true rfl) (Nat.le_refl _) (Nat.le_refl _) ?_
  refine em_bn kX7_kind rfl (fun h4 => absurd ⟨h1, h2, h3, h4⟩ h) (fun _ => ?_)
  (repeat (refine em_pure hB kX7_kind rfl ?_))
  exact em_iret kX7_kind rfl rfl rfl rfl
theorem s_kind_ok (hB : 85 ≤ n) {f w : Int32} {N j : Nat} (hx : I 1 2 = nI N) (hN : N ≤ 40) (hk : ∀ b, b < N → ∃ k, k < 8 ∧ I 4 b = nI k) (hj : j < 8) (h2 : 0 ≤ f ∧ f ≤ 100) (h3 : 1 ≤ w ∧ w ≤ 1000) (h4 : em_ex (em_wb I (nI j) w N) 8 = false) : em_MC Γ 5 mX7_kind [.ref 0, .int (nI j), .int f, .int w] (em_hm n m dl I J rv) (some (.int 1)) (em_sI (em_sI (em_hm n m dl I J rv) 2 (va_up (I 2) j f)) 3 (va_up (I 3) j w)) := by
  refine em_MC_of (Nat.le_refl _) (Nat.le_refl _) (by decide +kernel) rfl (Nat.le_of_ble_eq_true rfl) ?_
  (repeat (refine em_pure hB kX7_kind rfl ?_))
  refine em_callS (μ' := mX7_isKind) kX7_kind rfl lX7_64 tX7_isKind (s_isKind Γ _ (nI j)) rfl rfl (by decide) (Nat.le_of_ble_eq_true rfl) (Nat.le_refl _) (Nat.le_refl _) ?_
  refine em_bz kX7_kind rfl (fun _ => ?_) (fun h => absurd ⟨nI_pos' (by omega), nI_le (b := 7) (by omega) (by omega)⟩ h)
  (repeat (refine em_pure hB kX7_kind rfl ?_))
  refine em_callS (μ' := mX7_within) kX7_kind rfl lX7_68 tX7_within (s_within Γ _ f 0 100) rfl rfl (by decide) (Nat.le_of_ble_eq_true rfl) (Nat.le_refl _) (Nat.le_refl _) ?_
  refine em_bz kX7_kind rfl (fun _ => ?_) (fun h => absurd h2 h)
  (repeat (refine em_pure hB kX7_kind rfl ?_))
  refine em_callS (μ' := mX7_within) kX7_kind rfl lX7_68 tX7_within (s_within Γ _ w 1 1000) rfl rfl (by decide) (Nat.le_of_ble_eq_true rfl) (Nat.le_refl _) (Nat.le_refl _) ?_
  refine em_bn kX7_kind rfl (fun _ => ?_) (fun h => absurd h3 h)
  (repeat (refine em_pure hB kX7_kind rfl ?_))
  refine em_callV (μ' := mX6_wouldBear) (c1 := 6) kX7_kind rfl lX7_72 tX6_wouldBear (by decide) rfl (em_ltB hB rfl) (s_wouldBear hB hx hN hk) rfl rfl (by decide) (Nat.le_of_ble_eq_true rfl) (Nat.le_refl _) (Nat.le_refl _) ?_
  refine em_bn kX7_kind rfl (fun _ => ?_) (fun h => absurd h4 h)
  (repeat (refine em_pure hB kX7_kind rfl ?_))
  refine em_callV (μ' := mX3_setKind) (c1 := 3) kX7_kind rfl lX7_76 tX3_setKind (by decide) rfl (em_ltB hB rfl) (s_setKind hB rfl hj) rfl rfl (by decide) (Nat.le_of_ble_eq_true rfl) (Nat.le_refl _) (Nat.le_refl _) ?_
  (repeat (refine em_pure hB kX7_kind rfl ?_))
  exact em_iret kX7_kind rfl rfl rfl rfl
theorem s_day_max (hB : 85 ≤ n) (h : ¬ I 1 10 < 400) : em_MC Γ 5 mX7_day [.ref 0] (em_hm n m dl I J rv) (some (.int (-1))) (em_hm n m dl I J rv) := by
  refine em_MC_of (Nat.le_refl _) (Nat.le_refl _) (by decide +kernel) rfl (Nat.le_of_ble_eq_true rfl) ?_
  (repeat (refine em_pure hB kX7_day rfl ?_))
  refine em_callV (μ' := mX3_today) (c1 := 3) kX7_day rfl lX7_93 tX3_today (by decide) rfl (em_ltB hB rfl) (s_today hB) rfl rfl (by decide) (Nat.le_of_ble_eq_true rfl) (Nat.le_refl _) (Nat.le_refl _) ?_
  (repeat (refine em_pure hB kX7_day rfl ?_))
  refine em_branch kX7_day rfl (fun h1 => absurd h1 h) (fun _ => ?_)
  (repeat (refine em_pure hB kX7_day rfl ?_))
  exact em_iret kX7_day rfl rfl rfl rfl
theorem s_day_go (hB : 85 ≤ n) {n2 m2 : Nat} {dl2 : Nat → Nat} {I1 I2 : Nat → Nat → Int32} {rv2 : em_Rv} {v : Int32} (h : I 1 10 < 400) (hr : em_MC Γ 2 mX3_rationsToToday [.ref 1] (em_hm n m dl I J rv) (some (.ref 11)) (em_hm n m dl I1 J rv)) (hc : em_MC Γ 4 mX0_closeDay [.ref 12, .int (I 1 10), .ref 11] (em_hm n m dl I1 J rv) (some (.int v)) (em_hm n2 m2 dl2 I2 J rv2)) : em_MC Γ 5 mX7_day [.ref 0] (em_hm n m dl I J rv) (some (.int v)) (if v = -1 then em_hm n2 m2 dl2 I2 J rv2 else em_sI (em_hm n2 m2 dl2 I2 J rv2) 1 (va_up (I2 1) 10 (I2 1 10 + 1))) := by
  have hn : n ≤ n2 := hc.1
  have hm : m ≤ m2 := hc.2.1
  have e1 : em_n (if v = -1 then em_hm n2 m2 dl2 I2 J rv2 else em_sI (em_hm n2 m2 dl2 I2 J rv2) 1 (va_up (I2 1) 10 (I2 1 10 + 1))) = n2 := by split <;> rfl
  have e2 : em_m (if v = -1 then em_hm n2 m2 dl2 I2 J rv2 else em_sI (em_hm n2 m2 dl2 I2 J rv2) 1 (va_up (I2 1) 10 (I2 1 10 + 1))) = m2 := by split <;> rfl
  refine em_MC_of (by rw [e1]; exact hn) (by rw [e2]; exact hm) (by decide +kernel) rfl (Nat.le_of_ble_eq_true rfl) ?_
  have hf : ∀ fin : em_Hp, em_n fin = n2 → em_m fin = m2 → (v = -1 → fin = em_hm n2 m2 dl2 I2 J rv2) → (¬ v = -1 → fin = em_sI (em_hm n2 m2 dl2 I2 J rv2) 1 (va_up (I2 1) 10 (I2 1 10 + 1))) → em_EW Γ 5 mX7_day (em_hm n m dl I J rv) (some (.int v), fin) 0 [(0, .ref 0)] [] (em_hm n m dl I J rv) := by
    intro fin e1 e2 h1 h2
    have f1 : n ≤ em_n fin := by rw [e1]; exact hn
    have f2 : m ≤ em_m fin := by rw [e2]; exact hm
    (repeat (refine em_pure hB kX7_day rfl ?_))
    refine em_callV (μ' := mX3_today) (c1 := 3) kX7_day rfl lX7_93 tX3_today (by decide) rfl (em_ltB hB rfl) (s_today hB) rfl rfl (by decide) (Nat.le_of_ble_eq_true rfl) f1 f2 ?_
    (repeat (refine em_pure hB kX7_day rfl ?_))
    refine em_branch kX7_day rfl (fun _ => ?_) (fun h1 => absurd h h1)
    (repeat (refine em_pure hB kX7_day rfl ?_))
    refine em_callV (μ' := mX3_today) (c1 := 3) kX7_day rfl lX7_93 tX3_today (by decide) rfl (em_ltB hB rfl) (s_today hB) rfl rfl (by decide) (Nat.le_of_ble_eq_true rfl) f1 f2 ?_
    (repeat (refine em_pure hB kX7_day rfl ?_))
    refine em_callV (μ' := mX3_rationsToToday) (c1 := 3) kX7_day rfl lX7_97 tX3_rationsToToday (by decide) rfl (em_ltB hB rfl) hr rfl rfl (by decide) (Nat.le_of_ble_eq_true rfl) f1 f2 ?_
    refine em_callV (μ' := mX0_closeDay) (c1 := 0) kX7_day rfl lX7_101 tX0_closeDay (by decide) rfl (em_ltB hB rfl) hc rfl rfl (by decide) (Nat.le_of_ble_eq_true rfl) (by rw [e1]; exact Nat.le_refl _) (by rw [e2]; exact Nat.le_refl _) ?_
    have hB : 85 ≤ n2 := by omega
    (repeat (refine em_pure hB kX7_day rfl ?_))
    refine em_branch kX7_day rfl (fun (h3 : v = -1) => ?_) (fun (h3 : ¬ v = -1) => ?_)
    · (repeat (refine em_pure hB kX7_day rfl ?_))
      exact em_iret kX7_day rfl rfl rfl (by rw [h1 h3])
    · have h2 := h2 h3
      subst h2
      (repeat (refine em_pure hB kX7_day rfl ?_))
      refine em_callV (μ' := mX3_nextDay) (c1 := 3) kX7_day rfl lX7_105 tX3_nextDay (by decide) rfl (em_ltB hB rfl) (s_nextDay hB) rfl rfl (by decide) (Nat.le_of_ble_eq_true rfl) (Nat.le_refl _) (Nat.le_refl _) ?_
      (repeat (refine em_pure hB kX7_day rfl ?_))
      exact em_iret kX7_day rfl rfl rfl rfl
  exact hf _ e1 e2 (fun h => by rw [if_pos h]) (fun h => by rw [if_neg h])
theorem s_away_no (hB : 85 ≤ n) {x y : Int32} (h : ¬ ((0 ≤ x ∧ x ≤ I 1 2 - 1) ∧ (I 49 3 = -1 ∧ (0 ≤ y ∧ y ≤ 63) ∧ I 50 y.toNatClampNeg = 0))) : em_MC Γ 3 mX7_away [.ref 0, .int x, .int y] (em_hm n m dl I J rv) (some (.int 0)) (em_hm n m dl I J rv) := by
  refine em_MC_of (Nat.le_refl _) (Nat.le_refl _) (by decide +kernel) rfl (Nat.le_of_ble_eq_true rfl) ?_
  (repeat (refine em_pure hB kX7_away rfl ?_))
  refine em_callV (μ' := mX3_isBeast) (c1 := 3) kX7_away rfl lX7_193 tX3_isBeast (by decide) rfl (em_ltB hB rfl) (s_isBeast hB x) rfl rfl (by decide) (Nat.le_of_ble_eq_true rfl) (Nat.le_refl _) (Nat.le_refl _) ?_
  refine em_bz kX7_away rfl (fun h1 => ?_) (fun _ => ?_)
  case refine_2 =>
    (repeat (refine em_pure hB kX7_away rfl ?_))
    exact em_iret kX7_away rfl rfl rfl rfl
  (repeat (refine em_pure hB kX7_away rfl ?_))
  refine em_callV (μ' := mX2_lose) (c1 := 2) kX7_away rfl lX7_196 tX2_lose (by decide) rfl (em_ltB hB rfl) (s_lose_no hB (fun h2 => h ⟨h1, h2⟩)) rfl rfl (by decide) (Nat.le_of_ble_eq_true rfl) (Nat.le_refl _) (Nat.le_refl _) ?_
  refine em_bz (P := False) kX7_away rfl (fun h => h.elim) (fun _ => ?_)
  (repeat (refine em_pure hB kX7_away rfl ?_))
  exact em_iret kX7_away rfl rfl rfl rfl
theorem s_away_ok (hB : 85 ≤ n) {x y : Int32} {j : Nat} (h0 : 0 ≤ x ∧ x ≤ I 1 2 - 1) (h1 : I 49 3 = -1) (hj : j < 64) (hx : y = nI j) (h3 : I 50 j = 0) : em_MC Γ 3 mX7_away [.ref 0, .int x, .int y] (em_hm n m dl I J rv) (some (.int 1)) (em_hm n m dl (va_up I 49 (va_up (va_up (I 49) 3 x) 4 0)) (va_up J 51 (va_up (em_fil (J 51) 0 64) j 1)) rv) := by
  refine em_MC_of (Nat.le_refl _) (Nat.le_refl _) (by decide +kernel) rfl (Nat.le_of_ble_eq_true rfl) ?_
  (repeat (refine em_pure hB kX7_away rfl ?_))
  refine em_callV (μ' := mX3_isBeast) (c1 := 3) kX7_away rfl lX7_193 tX3_isBeast (by decide) rfl (em_ltB hB rfl) (s_isBeast hB x) rfl rfl (by decide) (Nat.le_of_ble_eq_true rfl) (Nat.le_refl _) (Nat.le_refl _) ?_
  refine em_bz kX7_away rfl (fun _ => ?_) (fun h => absurd h0 h)
  (repeat (refine em_pure hB kX7_away rfl ?_))
  refine em_callV (μ' := mX2_lose) (c1 := 2) kX7_away rfl lX7_196 tX2_lose (by decide) rfl (em_ltB hB rfl) (s_lose_ok hB h1 hj hx h3) rfl rfl (by decide) (Nat.le_of_ble_eq_true rfl) (Nat.le_refl _) (Nat.le_refl _) ?_
  refine em_bz (P := True) kX7_away rfl (fun _ => ?_) (fun h => (h trivial).elim)
  (repeat (refine em_pure hB kX7_away rfl ?_))
  exact em_iret kX7_away rfl rfl rfl rfl
def em_cWg (I : Nat → Nat → Int32) (N : Nat) (w x : Int32) : Int32 := if 0 ≤ w ∧ w ≤ 7 then (if x = 0 then em_ww I w (-1) 0 N else if x = 1 then em_wm I w N else if x = 2 then (if em_ex (em_us I w) N = false then 1 else 0) else -1) else -1
theorem s_wagon (hB : 85 ≤ n) {w x : Int32} {N : Nat} (hx : I 1 2 = nI N) (hN : N ≤ 40) (hk : ∀ b, b < N → ∃ k, k < 8 ∧ I 4 b = nI k) : em_MC Γ 5 mX7_wagon [.ref 0, .int w, .int x] (em_hm n m dl I J rv) (some (.int (em_cWg I N w x))) (em_hm n m dl I J rv) := by
  refine em_MC_of (Nat.le_refl _) (Nat.le_refl _) (by decide +kernel) rfl (Nat.le_of_ble_eq_true rfl) ?_
  have hdec : decode (em_c mX7_wagon) 13 = .ok (.tableswitch 62 0 2 #[27, 36, 45], 27) := by decide +kernel
  rw [em_cWg]
  (repeat (refine em_pure hB kX7_wagon rfl ?_))
  refine em_callS (μ' := mX7_within) kX7_wagon rfl lX7_68 tX7_within (s_within Γ _ w 0 7) rfl rfl (by decide) (Nat.le_of_ble_eq_true rfl) (Nat.le_refl _) (Nat.le_refl _) ?_
  refine em_bn kX7_wagon rfl (fun h => ?_) (fun h => ?_)
  case refine_2 =>
    rw [if_neg h]
    (repeat (refine em_pure hB kX7_wagon rfl ?_))
    exact em_iret kX7_wagon rfl rfl rfl rfl
  rw [if_pos h]
  (repeat (refine em_pure hB kX7_wagon rfl ?_))
  by_cases hin : 0 ≤ x ∧ x ≤ 2
  case neg =>
    have hne : ∀ k : Nat, k ≤ 2 → ¬ x = nI k := fun k hk z => hin (by rw [z]; exact ⟨nI_pos' (by omega), nI_le (b := 2) hk (by omega)⟩)
    rw [if_neg (show ¬ x = 0 from hne 0 (by omega)), if_neg (show ¬ x = 1 from hne 1 (by omega)), if_neg (show ¬ x = 2 from hne 2 (by omega))]
    refine em_tsOut hdec ?_ rfl ?_
    · by_cases h0 : x < 0
      · exact Or.inl (Int32.lt_iff_toInt_lt.mp h0)
      · right
        have h9 : 2 < x := Int32.not_le.mp (fun z => hin ⟨Int32.not_lt.mp h0, z⟩)
        exact Int32.lt_iff_toInt_lt.mp h9
    · (repeat (refine em_pure hB kX7_wagon rfl ?_))
      exact em_iret kX7_wagon rfl rfl rfl rfl
  obtain ⟨k, hk2, rfl⟩ := nI_of2 (M := 2) (n := 2) rfl (Int32.not_lt.mpr hin.1) hin.2
  rcases (show k = 0 ∨ k = 1 ∨ k = 2 by omega) with rfl | rfl | rfl
  all_goals refine em_tsIn hdec (by decide) (by decide) rfl rfl ?_
  · (repeat (refine em_pure hB kX7_wagon rfl ?_))
    refine em_callV (μ' := mX6_weightIn) (c1 := 6) kX7_wagon rfl lX7_122 tX6_weightIn (by decide) rfl (em_ltB hB rfl) (s_weightIn hB hx hN hk) rfl rfl (by decide) (Nat.le_of_ble_eq_true rfl) (Nat.le_refl _) (Nat.le_refl _) ?_
    exact em_iret kX7_wagon rfl rfl rfl rfl
  · (repeat (refine em_pure hB kX7_wagon rfl ?_))
    refine em_callV (μ' := mX6_beastsIn) (c1 := 6) kX7_wagon rfl lX7_125 tX6_beastsIn (by decide) rfl (em_ltB hB rfl) (s_beastsIn hB hx hN) rfl rfl (by decide) (Nat.le_of_ble_eq_true rfl) (Nat.le_refl _) (Nat.le_refl _) ?_
    exact em_iret kX7_wagon rfl rfl rfl rfl
  · (repeat (refine em_pure hB kX7_wagon rfl ?_))
    refine em_callV (μ' := mX6_isSound) (c1 := 6) kX7_wagon rfl lX7_128 tX6_isSound (by decide) rfl (em_ltB hB rfl) (s_isSound hB hx hN hk) rfl rfl (by decide) (Nat.le_of_ble_eq_true rfl) (Nat.le_refl _) (Nat.le_refl _) ?_
    refine em_bz kX7_wagon rfl (fun h => ?_) (fun h => ?_)
    · (repeat (refine em_pure hB kX7_wagon rfl ?_))
      refine em_iret kX7_wagon rfl rfl rfl ?_
      rw [if_neg (show ¬ nI 2 = 0 by decide), if_neg (show ¬ nI 2 = 1 by decide), if_pos (show nI 2 = 2 by decide), if_pos h]
    · (repeat (refine em_pure hB kX7_wagon rfl ?_))
      refine em_iret kX7_wagon rfl rfl rfl ?_
      rw [if_neg (show ¬ nI 2 = 0 by decide), if_neg (show ¬ nI 2 = 1 by decide), if_pos (show nI 2 = 2 by decide), if_neg h]
def em_cCn (I : Nat → Nat → Int32) (G N : Nat) (x : Int32) : Int32 :=
  if x = 0 then I 1 10 else if x = 1 then I 1 2 else if x = 2 then em_hn I (em_gf I G (I 1 10)) (I 1 10) N else if x = 3 then I 12 3 else if x = 4 then I 12 1 else if x = 5 then I 21 0 else if x = 6 then I 28 1 else if x = 7 then I 49 3 else if x = 8 then I 49 4 else if x = 9 then I 1 2 - em_wm I (-1) N else -1
theorem s_count_2 (hB : 85 ≤ n) {N G : Nat} (hx : I 1 2 = nI N) (hN : N ≤ 40) (hg : I 1 6 = nI G) (hG : G ≤ 200) (hgb : ∀ i, i < G → ∃ b, b < 40 ∧ I 7 i = nI b) : em_MC Γ 3 mX7_count [.ref 0, .int 2] (em_hm n m dl I J rv) (some (.int (em_hn I (em_gf I G (I 1 10)) (I 1 10) N))) (em_sI (em_hm n m dl I J rv) 10 (em_gf I G (I 1 10))) := by
  refine em_MC_of (Nat.le_refl _) (Nat.le_refl _) (by decide +kernel) rfl (Nat.le_of_ble_eq_true rfl) ?_
  have hdec : decode (em_c mX7_count) 1 = .ok (.tableswitch 135 0 9 #[55, 63, 71, 79, 87, 95, 103, 111, 119, 127], 55) := by decide +kernel
  (repeat (refine em_pure hB kX7_count rfl ?_))
  refine em_tsIn (x := 2) hdec (by decide) (by decide) rfl rfl ?_
  (repeat (refine em_pure hB kX7_count rfl ?_))
  refine em_callV (μ' := mX3_beastsHereToday) (c1 := 3) kX7_count rfl lX7_180 tX3_beastsHereToday (by decide) rfl (em_ltB hB rfl) (s_beastsHere hB hx hN hg hG hgb) rfl rfl (by decide) (Nat.le_of_ble_eq_true rfl) (Nat.le_refl _) (Nat.le_refl _) ?_
  exact em_iret kX7_count rfl rfl rfl rfl
theorem s_count (hB : 85 ≤ n) {x : Int32} {N G : Nat} (hx : I 1 2 = nI N) (hN : N ≤ 40) (h2 : ¬ x = 2) : em_MC Γ 3 mX7_count [.ref 0, .int x] (em_hm n m dl I J rv) (some (.int (em_cCn I G N x))) (em_hm n m dl I J rv) := by
  refine em_MC_of (Nat.le_refl _) (Nat.le_refl _) (by decide +kernel) rfl (Nat.le_of_ble_eq_true rfl) ?_
  have hdec : decode (em_c mX7_count) 1 = .ok (.tableswitch 135 0 9 #[55, 63, 71, 79, 87, 95, 103, 111, 119, 127], 55) := by decide +kernel
  (repeat (refine em_pure hB kX7_count rfl ?_))
  by_cases hin : 0 ≤ x ∧ x ≤ 9
  case neg =>
    have e : em_cCn I G N x = -1 := by
      have hne : ∀ k : Nat, k ≤ 9 → ¬ x = nI k := fun k hk z => hin (by rw [z]; exact ⟨nI_pos' (by omega), nI_le (b := 9) hk (by omega)⟩)
      rw [em_cCn, if_neg (show ¬ x = 0 from hne 0 (by omega)), if_neg (show ¬ x = 1 from hne 1 (by omega)), if_neg (show ¬ x = 2 from hne 2 (by omega)), if_neg (show ¬ x = 3 from hne 3 (by omega)), if_neg (show ¬ x = 4 from hne 4 (by omega)), if_neg (show ¬ x = 5 from hne 5 (by omega)), if_neg (show ¬ x = 6 from hne 6 (by omega)), if_neg (show ¬ x = 7 from hne 7 (by omega)), if_neg (show ¬ x = 8 from hne 8 (by omega)), if_neg (show ¬ x = 9 from hne 9 (by omega))]
    rw [e]
    refine em_tsOut hdec ?_ rfl ?_
    · by_cases h0 : x < 0
      · exact Or.inl (Int32.lt_iff_toInt_lt.mp h0)
      · right
        have h9 : 9 < x := Int32.not_le.mp (fun z => hin ⟨Int32.not_lt.mp h0, z⟩)
        exact Int32.lt_iff_toInt_lt.mp h9
    · (repeat (refine em_pure hB kX7_count rfl ?_))
      exact em_iret kX7_count rfl rfl rfl rfl
  obtain ⟨k, hk, rfl⟩ := nI_of2 (M := 9) (n := 9) rfl (Int32.not_lt.mpr hin.1) hin.2
  rcases (show k = 0 ∨ k = 1 ∨ k = 2 ∨ k = 3 ∨ k = 4 ∨ k = 5 ∨ k = 6 ∨ k = 7 ∨ k = 8 ∨ k = 9 by omega) with rfl | rfl | rfl | rfl | rfl | rfl | rfl | rfl | rfl | rfl
  case inr.inr.inl => exact absurd rfl h2
  all_goals refine em_tsIn hdec (by decide) (by decide) rfl rfl ?_
  · (repeat (refine em_pure hB kX7_count rfl ?_))
    refine em_callV (μ' := mX3_today) (c1 := 3) kX7_count rfl lX7_93 tX3_today (by decide) rfl (em_ltB hB rfl) (s_today hB) rfl rfl (by decide) (Nat.le_of_ble_eq_true rfl) (Nat.le_refl _) (Nat.le_refl _) ?_
    exact em_iret kX7_count rfl rfl rfl rfl
  · (repeat (refine em_pure hB kX7_count rfl ?_))
    refine em_callV (μ' := mX3_size) (c1 := 3) kX7_count rfl lX7_216 tX3_size (by decide) rfl (em_ltB hB rfl) (s_size hB) rfl rfl (by decide) (Nat.le_of_ble_eq_true rfl) (Nat.le_refl _) (Nat.le_refl _) ?_
    exact em_iret kX7_count rfl rfl rfl rfl
  · (repeat (refine em_pure hB kX7_count rfl ?_))
    refine em_callV (μ' := mX0_size) (c1 := 0) kX7_count rfl lX7_217 tX0_size (by decide) rfl (em_ltB hB rfl) (s_bSize hB) rfl rfl (by decide) (Nat.le_of_ble_eq_true rfl) (Nat.le_refl _) (Nat.le_refl _) ?_
    exact em_iret kX7_count rfl rfl rfl rfl
  · (repeat (refine em_pure hB kX7_count rfl ?_))
    refine em_callV (μ' := mX0_unitsInAll) (c1 := 0) kX7_count rfl lX7_218 tX0_unitsInAll (by decide) rfl (em_ltB hB rfl) (s_unitsInAll hB) rfl rfl (by decide) (Nat.le_of_ble_eq_true rfl) (Nat.le_refl _) (Nat.le_refl _) ?_
    exact em_iret kX7_count rfl rfl rfl rfl
  · (repeat (refine em_pure hB kX7_count rfl ?_))
    refine em_callV (μ' := mX1_size) (c1 := 1) kX7_count rfl lX7_221 tX1_size (by decide) rfl (em_ltB hB rfl) (s_fSize hB) rfl rfl (by decide) (Nat.le_of_ble_eq_true rfl) (Nat.le_refl _) (Nat.le_refl _) ?_
    exact em_iret kX7_count rfl rfl rfl rfl
  · (repeat (refine em_pure hB kX7_count rfl ?_))
    refine em_callV (μ' := mX5_size) (c1 := 5) kX7_count rfl lX7_160 tX5_size (by decide) rfl (em_ltB hB rfl) (s_tSize hB) rfl rfl (by decide) (Nat.le_of_ble_eq_true rfl) (Nat.le_refl _) (Nat.le_refl _) ?_
    exact em_iret kX7_count rfl rfl rfl rfl
  · (repeat (refine em_pure hB kX7_count rfl ?_))
    refine em_callV (μ' := mX2_beastAway) (c1 := 2) kX7_count rfl lX7_222 tX2_beastAway (by decide) rfl (em_ltB hB rfl) (s_beastAway hB) rfl rfl (by decide) (Nat.le_of_ble_eq_true rfl) (Nat.le_refl _) (Nat.le_refl _) ?_
    exact em_iret kX7_count rfl rfl rfl rfl
  · (repeat (refine em_pure hB kX7_count rfl ?_))
    refine em_callV (μ' := mX2_hoursGone) (c1 := 2) kX7_count rfl lX7_225 tX2_hoursGone (by decide) rfl (em_ltB hB rfl) (s_hoursGone hB) rfl rfl (by decide) (Nat.le_of_ble_eq_true rfl) (Nat.le_refl _) (Nat.le_refl _) ?_
    exact em_iret kX7_count rfl rfl rfl rfl
  · (repeat (refine em_pure hB kX7_count rfl ?_))
    refine em_callV (μ' := mX6_beastsInAll) (c1 := 6) kX7_count rfl lX7_228 tX6_beastsInAll (by decide) rfl (em_ltB hB rfl) (s_beastsInAll hB hx hN) rfl rfl (by decide) (Nat.le_of_ble_eq_true rfl) (Nat.le_refl _) (Nat.le_refl _) ?_
    exact em_iret kX7_count rfl rfl rfl rfl
end Own
