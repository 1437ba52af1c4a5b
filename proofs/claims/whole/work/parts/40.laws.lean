/-! THE TOWNS' LAWS -/
abbrev em_lc (t a b : Nat) : Prop := (t = 0 ∧ a = 31 ∧ b = 32) ∨ (t = 1 ∧ a = 33 ∧ b = 34) ∨ (t = 2 ∧ a = 35 ∧ b = 36) ∨ (t = 3 ∧ a = 37 ∧ b = 38) ∨ (t = 4 ∧ a = 39 ∧ b = 40) ∨ (t = 5 ∧ a = 41 ∧ b = 42) ∨ (t = 6 ∧ a = 43 ∧ b = 44) ∨ (t = 7 ∧ a = 45 ∧ b = 46)
def em_vd (F : Int32) (N : Nat → Int32) (ks hw h : Int32) : Int32 := if ¬ ks &&& F = 0 then 1 else if ¬ N 1 = -1 ∧ N 1 < hw then 2 else if h < N 4 ∨ (¬ N 5 = -1 ∧ N 5 < h) then 3 else 0
def em_nz (x : Int32) : Int32 := if x < 0 then 0 else x
def em_pr (N : Nat → Int32) (hw : Int32) : Int32 := em_nz (N 2) + em_nz (N 3) * hw
theorem em_aa {Γ : em_Cx} {K : Nat} {μ : em_Me} {hp0 : em_Hp} {fin : Option Value × em_Hp} {pc nx : Nat} {lc : List (Nat × Value)} {st t : List Value} {hp : em_Hp} {i : Int32} {j : Nat} (hB : 85 ≤ em_n hp) (hok : em_ok μ) (h : em_as 65 μ pc st = some (i, 30, nx, t)) (e : i = nI j) (hj : j < 8) (kk : em_EW Γ K μ hp0 fin nx lc (em_rf (em_R hp 30 j) :: t) hp) : em_EW Γ K μ hp0 fin pc lc st hp := by
  refine em_aald hok h rfl (em_ltB hB rfl) ?_ ?_
  · rw [em_lnB rfl, e]
    exact nI_in (N := 8) hj (by omega)
  · rw [e, nI_clamp (by omega)]
    exact kk
section Laws
variable {Γ : em_Cx} {n m : Nat} {dl : Nat → Nat} {I : Nat → Nat → Int32} {J : Nat → Nat → Int64} {rv : em_Rv}
theorem s_isAbove (hB : 85 ≤ n) {t a b s : Nat} (hab : em_lc t a b) (hs : s < 6) {x : Int32} : em_MC Γ 0 mX4_isAbove [.ref a, .int x, .int (nI s)] (em_hm n m dl I J rv) (some (.int (if ¬ I b s = -1 ∧ I b s < x then 1 else 0))) (em_hm n m dl I J rv) := by
  rcases hab with ⟨-, rfl, rfl⟩ | ⟨-, rfl, rfl⟩ | ⟨-, rfl, rfl⟩ | ⟨-, rfl, rfl⟩ | ⟨-, rfl, rfl⟩ | ⟨-, rfl, rfl⟩ | ⟨-, rfl, rfl⟩ | ⟨-, rfl, rfl⟩
  all_goals
    refine em_MC_of (Nat.le_refl _) (Nat.le_refl _) (by decide +kernel) rfl (Nat.le_of_ble_eq_true rfl) ?_
    (repeat (refine em_pure hB kX4_isAbove rfl ?_))
    refine em_ia (L := 6) hB kX4_isAbove rfl rfl rfl rfl rfl hs rfl ?_
    (repeat (refine em_pure hB kX4_isAbove rfl ?_))
    refine em_branch kX4_isAbove rfl (fun h => ?_) (fun h => ?_)
    · (repeat (refine em_pure hB kX4_isAbove rfl ?_))
      exact em_iret kX4_isAbove rfl rfl rfl (by rw [if_neg (fun z => z.1 h)])
    (repeat (refine em_pure hB kX4_isAbove rfl ?_))
    refine em_ia (L := 6) hB kX4_isAbove rfl rfl rfl rfl rfl hs rfl ?_
    refine em_branch kX4_isAbove rfl (fun h2 => ?_) (fun h2 => ?_)
    · (repeat (refine em_pure hB kX4_isAbove rfl ?_))
      exact em_iret kX4_isAbove rfl rfl rfl (by rw [if_neg (fun z => absurd z.2 (Int32.not_lt.mpr h2))])
    · (repeat (refine em_pure hB kX4_isAbove rfl ?_))
      exact em_iret kX4_isAbove rfl rfl rfl (by rw [if_pos ⟨h, Int32.not_le.mp h2⟩])
theorem s_numberOrZero (hB : 85 ≤ n) {t a b s : Nat} (hab : em_lc t a b) (hs : s < 6) : em_MC Γ 1 mX4_numberOrZero [.ref a, .int (nI s)] (em_hm n m dl I J rv) (some (.int (em_nz (I b s)))) (em_hm n m dl I J rv) := by
  rcases hab with ⟨-, rfl, rfl⟩ | ⟨-, rfl, rfl⟩ | ⟨-, rfl, rfl⟩ | ⟨-, rfl, rfl⟩ | ⟨-, rfl, rfl⟩ | ⟨-, rfl, rfl⟩ | ⟨-, rfl, rfl⟩ | ⟨-, rfl, rfl⟩
  all_goals
    refine em_MC_of (Nat.le_refl _) (Nat.le_refl _) (by decide +kernel) rfl (Nat.le_of_ble_eq_true rfl) ?_
    (repeat (refine em_pure hB kX4_numberOrZero rfl ?_))
    refine em_ia (L := 6) hB kX4_numberOrZero rfl rfl rfl rfl rfl hs rfl ?_
    (repeat (refine em_pure hB kX4_numberOrZero rfl ?_))
    refine em_mmax (y := 0) kX4_numberOrZero rfl lM4 rfl (by decide) (Nat.le_of_ble_eq_true rfl) (Nat.le_refl _) (Nat.le_refl _) ?_
    exact em_iret kX4_numberOrZero rfl rfl rfl rfl
theorem s_price (hB : 85 ≤ n) {t a b : Nat} (hab : em_lc t a b) {x : Int32} : em_MC Γ 2 mX4_price [.ref a, .int x] (em_hm n m dl I J rv) (some (.int (em_pr (I b) x))) (em_hm n m dl I J rv) := by
  have n2 := s_numberOrZero (Γ := Γ) (n := n) (m := m) (dl := dl) (I := I) (J := J) (rv := rv) hB hab (s := 2) (by omega)
  have n3 := s_numberOrZero (Γ := Γ) (n := n) (m := m) (dl := dl) (I := I) (J := J) (rv := rv) hB hab (s := 3) (by omega)
  rcases hab with ⟨-, rfl, rfl⟩ | ⟨-, rfl, rfl⟩ | ⟨-, rfl, rfl⟩ | ⟨-, rfl, rfl⟩ | ⟨-, rfl, rfl⟩ | ⟨-, rfl, rfl⟩ | ⟨-, rfl, rfl⟩ | ⟨-, rfl, rfl⟩
  all_goals
    refine em_MC_of (Nat.le_refl _) (Nat.le_refl _) (by decide +kernel) rfl (Nat.le_of_ble_eq_true rfl) ?_
    (repeat (refine em_pure hB kX4_price rfl ?_))
    refine em_callV (μ' := mX4_numberOrZero) (c1 := 4) kX4_price rfl lX4_43 tX4_numberOrZero (by decide) rfl (em_ltB hB rfl) n2 rfl rfl (by decide) (Nat.le_of_ble_eq_true rfl) (Nat.le_refl _) (Nat.le_refl _) ?_
    (repeat (refine em_pure hB kX4_price rfl ?_))
    refine em_callV (μ' := mX4_numberOrZero) (c1 := 4) kX4_price rfl lX4_43 tX4_numberOrZero (by decide) rfl (em_ltB hB rfl) n3 rfl rfl (by decide) (Nat.le_of_ble_eq_true rfl) (Nat.le_refl _) (Nat.le_refl _) ?_
    (repeat (refine em_pure hB kX4_price rfl ?_))
    exact em_iret kX4_price rfl rfl rfl rfl
theorem s_verdict (hB : 85 ≤ n) {t a b : Nat} (hab : em_lc t a b) {x y z : Int32} : em_MC Γ 1 mX4_verdict [.ref a, .int x, .int y, .int z] (em_hm n m dl I J rv) (some (.int (em_vd (I a 0) (I b) x y z))) (em_hm n m dl I J rv) := by
  have n1 := s_isAbove (Γ := Γ) (n := n) (m := m) (dl := dl) (I := I) (J := J) (rv := rv) hB hab (s := 1) (x := y) (by omega)
  have n5 := s_isAbove (Γ := Γ) (n := n) (m := m) (dl := dl) (I := I) (J := J) (rv := rv) hB hab (s := 5) (x := z) (by omega)
  rcases hab with ⟨-, rfl, rfl⟩ | ⟨-, rfl, rfl⟩ | ⟨-, rfl, rfl⟩ | ⟨-, rfl, rfl⟩ | ⟨-, rfl, rfl⟩ | ⟨-, rfl, rfl⟩ | ⟨-, rfl, rfl⟩ | ⟨-, rfl, rfl⟩
  all_goals
    refine em_MC_of (Nat.le_refl _) (Nat.le_refl _) (by decide +kernel) rfl (Nat.le_of_ble_eq_true rfl) ?_
    (repeat (refine em_pure hB kX4_verdict rfl ?_))
    refine em_branch kX4_verdict rfl (fun h => ?_) (fun h => ?_)
    case refine_2 =>
      (repeat (refine em_pure hB kX4_verdict rfl ?_))
      exact em_iret kX4_verdict rfl rfl rfl (by rw [em_vd, if_pos h])
    (repeat (refine em_pure hB kX4_verdict rfl ?_))
    refine em_callV (μ' := mX4_isAbove) (c1 := 4) kX4_verdict rfl lX4_39 tX4_isAbove (by decide) rfl (em_ltB hB rfl) n1 rfl rfl (by decide) (Nat.le_of_ble_eq_true rfl) (Nat.le_refl _) (Nat.le_refl _) ?_
    refine em_bz kX4_verdict rfl (fun h2 => ?_) (fun h2 => ?_)
    · (repeat (refine em_pure hB kX4_verdict rfl ?_))
      exact em_iret kX4_verdict rfl rfl rfl (by rw [em_vd, if_neg (fun w => w h), if_pos h2])
    (repeat (refine em_pure hB kX4_verdict rfl ?_))
    refine em_ia (L := 6) (j := 4) hB kX4_verdict rfl rfl rfl rfl rfl (by decide) rfl ?_
    refine em_branch kX4_verdict rfl (fun h3 => ?_) (fun h3 => ?_)
    · (repeat (refine em_pure hB kX4_verdict rfl ?_))
      exact em_iret kX4_verdict rfl rfl rfl (by rw [em_vd, if_neg (fun w => w h), if_neg h2, if_pos (Or.inl h3)])
    (repeat (refine em_pure hB kX4_verdict rfl ?_))
    refine em_callV (μ' := mX4_isAbove) (c1 := 4) kX4_verdict rfl lX4_39 tX4_isAbove (by decide) rfl (em_ltB hB rfl) n5 rfl rfl (by decide) (Nat.le_of_ble_eq_true rfl) (Nat.le_refl _) (Nat.le_refl _) ?_
    refine em_bz kX4_verdict rfl (fun h4 => ?_) (fun h4 => ?_)
    · (repeat (refine em_pure hB kX4_verdict rfl ?_))
      exact em_iret kX4_verdict rfl rfl rfl (by rw [em_vd, if_neg (fun w => w h), if_neg h2, if_pos (Or.inr h4)])
    · (repeat (refine em_pure hB kX4_verdict rfl ?_))
      exact em_iret kX4_verdict rfl rfl rfl (by rw [em_vd, if_neg (fun w => w h), if_neg h2, if_neg (fun w => w.elim h3 h4)])
theorem s_copyFrom (hB : 85 ≤ n) {t a b : Nat} (hab : em_lc t a b) : em_MC Γ 2 mX4_copyFrom [.ref a, .ref 47] (em_hm n m dl I J rv) none (em_hm n m dl (va_up (va_up I a (va_up (I a) 0 (I 47 0))) b (va_cpy (I 48) (I b) 0 0 6)) J rv) := by
  rcases hab with ⟨-, rfl, rfl⟩ | ⟨-, rfl, rfl⟩ | ⟨-, rfl, rfl⟩ | ⟨-, rfl, rfl⟩ | ⟨-, rfl, rfl⟩ | ⟨-, rfl, rfl⟩ | ⟨-, rfl, rfl⟩ | ⟨-, rfl, rfl⟩
  all_goals
    refine em_MC_of (Nat.le_refl _) (Nat.le_refl _) (by decide +kernel) rfl (Nat.le_of_ble_eq_true rfl) ?_
    (repeat (refine em_pure hB kX4_copyFrom rfl ?_))
    refine em_pi hB kX4_copyFrom rfl rfl rfl rfl rfl rfl rfl ?_
    (repeat (refine em_pure hB kX4_copyFrom rfl ?_))
    refine em_copyI kX4_copyFrom rfl lX4_25 rfl rfl (em_ltB hB rfl) (em_ltB hB rfl) (by decide) (by decide) (by decide) (Nat.le_of_ble_eq_true rfl) (Nat.le_of_ble_eq_true rfl) (by decide) (Nat.le_of_ble_eq_true rfl) ?_
    exact em_vret kX4_copyFrom rfl rfl rfl
theorem s_fault (hB : 85 ≤ n) {r : Int32} {hp' : em_Hp} (hn : n ≤ em_n hp') (hm : m ≤ em_m hp') (hM : em_MC Γ 7 mX5_readInto [.ref 28, .ref 47] (em_hm n m dl I J rv) (some (.int r)) hp') : em_MC Γ 8 mX7_fault [.ref 0] (em_hm n m dl I J rv) (some (.int r)) hp' := by
  refine em_MC_of hn hm (by decide +kernel) rfl (Nat.le_of_ble_eq_true rfl) ?_
  (repeat (refine em_pure hB kX7_fault rfl ?_))
  refine em_callV (μ' := mX5_readInto) (c1 := 5) kX7_fault rfl lX7_166 tX5_readInto (by decide) rfl (em_ltB hB rfl) hM rfl rfl (by decide) (Nat.le_of_ble_eq_true rfl) (Nat.le_refl _) (Nat.le_refl _) ?_
  exact em_iret kX7_fault rfl rfl rfl rfl
theorem s_law_nt (hB : 85 ≤ n) {x : Int32} (h : ¬ (0 ≤ x ∧ x ≤ I 21 0 - 1)) : em_MC Γ 8 mX7_law [.ref 0, .int x] (em_hm n m dl I J rv) (some (.int 0)) (em_hm n m dl I J rv) := by
  refine em_MC_of (Nat.le_refl _) (Nat.le_refl _) (by decide +kernel) rfl (Nat.le_of_ble_eq_true rfl) ?_
  (repeat (refine em_pure hB kX7_law rfl ?_))
  refine em_callV (μ' := mX1_isTown) (c1 := 1) kX7_law rfl lX7_170 tX1_isTown (by decide) rfl (em_ltB hB rfl) (s_isTown hB x) rfl rfl (by decide) (Nat.le_of_ble_eq_true rfl) (Nat.le_refl _) (Nat.le_refl _) ?_
  refine em_bz kX7_law rfl (fun h1 => absurd h1 h) (fun _ => ?_)
  (repeat (refine em_pure hB kX7_law rfl ?_))
  exact em_iret kX7_law rfl rfl rfl rfl
theorem s_law_no (hB : 85 ≤ n) {x : Int32} (h : 0 ≤ x ∧ x ≤ I 21 0 - 1) {r F : Int32} {N : Nat → Int32} (hr : ¬ r = -1) (hM : em_MC Γ 7 mX5_readInto [.ref 28, .ref 47] (em_hm n m dl I J rv) (some (.int r)) (em_lw n m dl I J rv F N)) : em_MC Γ 8 mX7_law [.ref 0, .int x] (em_hm n m dl I J rv) (some (.int 0)) (em_lw n m dl I J rv F N) := by
  refine em_MC_of (Nat.le_refl _) (Nat.le_refl _) (by decide +kernel) rfl (Nat.le_of_ble_eq_true rfl) ?_
  (repeat (refine em_pure hB kX7_law rfl ?_))
  refine em_callV (μ' := mX1_isTown) (c1 := 1) kX7_law rfl lX7_170 tX1_isTown (by decide) rfl (em_ltB hB rfl) (s_isTown hB x) rfl rfl (by decide) (Nat.le_of_ble_eq_true rfl) (Nat.le_refl _) (Nat.le_refl _) ?_
  refine em_bz kX7_law rfl (fun _ => ?_) (fun h1 => absurd h h1)
  (repeat (refine em_pure hB kX7_law rfl ?_))
  refine em_callV (μ' := mX5_readInto) (c1 := 5) kX7_law rfl lX7_166 tX5_readInto (by decide) rfl (em_ltB hB rfl) hM rfl rfl (by decide) (Nat.le_of_ble_eq_true rfl) (Nat.le_refl _) (Nat.le_refl _) ?_
  (repeat (refine em_pure hB kX7_law rfl ?_))
  refine em_branch kX7_law rfl (fun h1 => absurd h1 hr) (fun _ => ?_)
  (repeat (refine em_pure hB kX7_law rfl ?_))
  exact em_iret kX7_law rfl rfl rfl rfl
abbrev em_lwC (I : Nat → Nat → Int32) (a b : Nat) (F : Int32) (N : Nat → Int32) : Nat → Nat → Int32 := va_up (va_up (va_up (va_up (va_up I 47 (va_up (I 47) 0 F)) 48 N) a (va_up (I a) 0 F)) b (va_cpy N (I b) 0 0 6)) 28 (va_up (I 28) 1 0)
theorem s_law_ok (hB : 85 ≤ n) {t a b S : Nat} (hab : em_lc t a b) (h : 0 ≤ nI t ∧ nI t ≤ I 21 0 - 1) (hS : I 28 1 = nI S) (hS2 : S ≤ 200) {F : Int32} {N : Nat → Int32} (hM : em_MC Γ 7 mX5_readInto [.ref 28, .ref 47] (em_hm n m dl I J rv) (some (.int (-1))) (em_lw n m dl I J rv F N)) : em_MC Γ 8 mX7_law [.ref 0, .int (nI t)] (em_hm n m dl I J rv) (some (.int 1)) (em_hm n m dl (em_lwC I a b F N) J rv) := by
  have cp := s_copyFrom (Γ := Γ) (n := n) (m := m) (dl := dl) (I := va_up (va_up I 47 (va_up (I 47) 0 F)) 48 N) (J := J) (rv := rv) hB hab
  have hcut : ∀ I' : Nat → Nat → Int32, I' 28 = I 28 → em_MC Γ 1 mX5_cutTo [.ref 28, .int 0] (em_hm n m dl I' J rv) (some (.int 1)) (em_hm n m dl (va_up I' 28 (va_up (I 28) 1 0)) J rv) := by
    intro I' hI
    have h0 : (0 : Int32) ≤ 0 ∧ (0 : Int32) ≤ I' 28 1 := ⟨by decide, by rw [hI, hS]; exact nI_pos' (by omega)⟩
    have hc := s_cutTo (Γ := Γ) (n := n) (m := m) (dl := dl) (I := I') (J := J) (rv := rv) hB (x := 0)
    rw [if_pos h0, if_pos h0, hI] at hc
    exact hc
  rcases hab with ⟨rfl, rfl, rfl⟩ | ⟨rfl, rfl, rfl⟩ | ⟨rfl, rfl, rfl⟩ | ⟨rfl, rfl, rfl⟩ | ⟨rfl, rfl, rfl⟩ | ⟨rfl, rfl, rfl⟩ | ⟨rfl, rfl, rfl⟩ | ⟨rfl, rfl, rfl⟩
  all_goals
    refine em_MC_of (Nat.le_refl _) (Nat.le_refl _) (by decide +kernel) rfl (Nat.le_of_ble_eq_true rfl) ?_
    (repeat (refine em_pure hB kX7_law rfl ?_))
    refine em_callV (μ' := mX1_isTown) (c1 := 1) kX7_law rfl lX7_170 tX1_isTown (by decide) rfl (em_ltB hB rfl) (s_isTown hB _) rfl rfl (by decide) (Nat.le_of_ble_eq_true rfl) (Nat.le_refl _) (Nat.le_refl _) ?_
    refine em_bz kX7_law rfl (fun _ => ?_) (fun h1 => absurd h h1)
    (repeat (refine em_pure hB kX7_law rfl ?_))
    refine em_callV (μ' := mX5_readInto) (c1 := 5) kX7_law rfl lX7_166 tX5_readInto (by decide) rfl (em_ltB hB rfl) hM rfl rfl (by decide) (Nat.le_of_ble_eq_true rfl) (Nat.le_refl _) (Nat.le_refl _) ?_
    (repeat (refine em_pure hB kX7_law rfl ?_))
    refine em_branch kX7_law rfl (fun _ => ?_) (fun h1 => absurd rfl h1)
    (repeat (refine em_pure hB kX7_law rfl ?_))
    refine em_aa hB kX7_law rfl rfl (by decide) ?_
    (repeat (refine em_pure hB kX7_law rfl ?_))
    refine em_callV (μ' := mX4_copyFrom) (c1 := 4) kX7_law rfl lX7_173 tX4_copyFrom (by decide) rfl (em_ltB hB rfl) cp rfl rfl (by decide) (Nat.le_of_ble_eq_true rfl) (Nat.le_refl _) (Nat.le_refl _) ?_
    (repeat (refine em_pure hB kX7_law rfl ?_))
    refine em_callV (μ' := mX5_cutTo) (c1 := 5) kX7_law rfl lX7_163 tX5_cutTo (by decide) rfl (em_ltB hB rfl) (hcut _ rfl) rfl rfl (by decide) (Nat.le_of_ble_eq_true rfl) (Nat.le_refl _) (Nat.le_refl _) ?_
    exact em_iret kX7_law rfl rfl rfl rfl
theorem s_may_no (hB : 85 ≤ n) {x y : Int32} (h : ¬ ((0 ≤ x ∧ x ≤ I 21 0 - 1) ∧ (0 ≤ y ∧ y ≤ 23))) : em_MC Γ 3 mX7_may [.ref 0, .int x, .int y] (em_hm n m dl I J rv) (some (.int (-1))) (em_hm n m dl I J rv) := by
  refine em_MC_of (Nat.le_refl _) (Nat.le_refl _) (by decide +kernel) rfl (Nat.le_of_ble_eq_true rfl) ?_
  (repeat (refine em_pure hB kX7_may rfl ?_))
  refine em_callV (μ' := mX1_isTown) (c1 := 1) kX7_may rfl lX7_170 tX1_isTown (by decide) rfl (em_ltB hB rfl) (s_isTown hB x) rfl rfl (by decide) (Nat.le_of_ble_eq_true rfl) (Nat.le_refl _) (Nat.le_refl _) ?_
  refine em_bz kX7_may rfl (fun h1 => ?_) (fun _ => ?_)
  · (repeat (refine em_pure hB kX7_may rfl ?_))
    refine em_callS (μ' := mX7_within) kX7_may rfl lX7_68 tX7_within (s_within Γ _ y 0 23) rfl rfl (by decide) (Nat.le_of_ble_eq_true rfl) (Nat.le_refl _) (Nat.le_refl _) ?_
    refine em_bn kX7_may rfl (fun h2 => absurd ⟨h1, h2⟩ h) (fun _ => ?_)
    (repeat (refine em_pure hB kX7_may rfl ?_))
    exact em_iret kX7_may rfl rfl rfl rfl
  · (repeat (refine em_pure hB kX7_may rfl ?_))
    exact em_iret kX7_may rfl rfl rfl rfl
theorem em_rec_10 (I : Nat → Nat → Int32) (f : Nat → Int32) (q : Int32) : ∀ d i g, em_rec (va_up I 10 f) q d i g = em_rec I q d i g
  | 0, _, _ => rfl
  | d + 1, i, g => by
    rw [em_rec, em_rec, em_rec_10 I f q d]
    rfl
theorem s_may_ok (hB : 85 ≤ n) {t a b N G : Nat} (hab : em_lc t a b) {y : Int32} (h : 0 ≤ nI t ∧ nI t ≤ I 21 0 - 1) (h2 : 0 ≤ y ∧ y ≤ 23) (hx : I 1 2 = nI N) (hN : N ≤ 40) (hg : I 1 6 = nI G) (hG : G ≤ 200) (hgb : ∀ i, i < G → ∃ b, b < 40 ∧ I 7 i = nI b) : em_MC Γ 3 mX7_may [.ref 0, .int (nI t), .int y] (em_hm n m dl I J rv) (some (.int (em_vd (I a 0) (I b) (em_ks I (em_gf I G (I 1 10)) (I 1 10) N) (em_hn I (em_gf (va_up I 10 (em_gf I G (I 1 10))) G (I 1 10)) (I 1 10) N) y))) (em_sI (em_sI (em_hm n m dl I J rv) 10 (em_gf I G (I 1 10))) 10 (em_gf (va_up I 10 (em_gf I G (I 1 10))) G (I 1 10))) := by
  have vd : ∀ (I' : Nat → Nat → Int32) (ks hw : Int32), em_MC Γ 1 mX4_verdict [.ref a, .int ks, .int hw, .int y] (em_hm n m dl I' J rv) (some (.int (em_vd (I' a 0) (I' b) ks hw y))) (em_hm n m dl I' J rv) := fun I' ks hw => s_verdict hB hab
  have bh := s_beastsHere (Γ := Γ) (n := n) (m := m) (dl := dl) (I := va_up I 10 (em_gf I G (I 1 10))) (J := J) (rv := rv) hB hx hN hg hG hgb
  have bh : em_MC Γ 2 mX3_beastsHereToday [.ref 1] (em_sI (em_hm n m dl I J rv) 10 (em_gf I G (I 1 10))) (some (.int (em_hn I (em_gf (va_up I 10 (em_gf I G (I 1 10))) G (I 1 10)) (I 1 10) N))) (em_sI (em_sI (em_hm n m dl I J rv) 10 (em_gf I G (I 1 10))) 10 (em_gf (va_up I 10 (em_gf I G (I 1 10))) G (I 1 10))) := bh
  have kh := s_kindsHere (Γ := Γ) (n := n) (m := m) (dl := dl) (I := I) (J := J) (rv := rv) hB hx hN hg hG hgb
  generalize em_gf (va_up I 10 (em_gf I G (I 1 10))) G (I 1 10) = g2 at *
  generalize em_gf I G (I 1 10) = g1 at *
  rcases hab with ⟨rfl, rfl, rfl⟩ | ⟨rfl, rfl, rfl⟩ | ⟨rfl, rfl, rfl⟩ | ⟨rfl, rfl, rfl⟩ | ⟨rfl, rfl, rfl⟩ | ⟨rfl, rfl, rfl⟩ | ⟨rfl, rfl, rfl⟩ | ⟨rfl, rfl, rfl⟩
  all_goals
    refine em_MC_of (Nat.le_refl _) (Nat.le_refl _) (by decide +kernel) rfl (Nat.le_of_ble_eq_true rfl) ?_
    (repeat (refine em_pure hB kX7_may rfl ?_))
    refine em_callV (μ' := mX1_isTown) (c1 := 1) kX7_may rfl lX7_170 tX1_isTown (by decide) rfl (em_ltB hB rfl) (s_isTown hB _) rfl rfl (by decide) (Nat.le_of_ble_eq_true rfl) (Nat.le_refl _) (Nat.le_refl _) ?_
    refine em_bz kX7_may rfl (fun _ => ?_) (fun h1 => absurd h h1)
    (repeat (refine em_pure hB kX7_may rfl ?_))
    refine em_callS (μ' := mX7_within) kX7_may rfl lX7_68 tX7_within (s_within Γ _ y 0 23) rfl rfl (by decide) (Nat.le_of_ble_eq_true rfl) (Nat.le_refl _) (Nat.le_refl _) ?_
    refine em_bn kX7_may rfl (fun _ => ?_) (fun h1 => absurd h2 h1)
    (repeat (refine em_pure hB kX7_may rfl ?_))
    refine em_aa hB kX7_may rfl rfl (by decide) ?_
    (repeat (refine em_pure hB kX7_may rfl ?_))
    refine em_callV (μ' := mX3_kindsHereToday) (c1 := 3) kX7_may rfl lX7_177 tX3_kindsHereToday (by decide) rfl (em_ltB hB rfl) kh rfl rfl (by decide) (Nat.le_of_ble_eq_true rfl) (Nat.le_refl _) (Nat.le_refl _) ?_
    (repeat (refine em_pure hB kX7_may rfl ?_))
    refine em_callV (μ' := mX3_beastsHereToday) (c1 := 3) kX7_may rfl lX7_180 tX3_beastsHereToday (by decide) rfl (em_ltB hB rfl) bh rfl rfl (by decide) (Nat.le_of_ble_eq_true rfl) (Nat.le_refl _) (Nat.le_refl _) ?_
    (repeat (refine em_pure hB kX7_may rfl ?_))
    refine em_callV (μ' := mX4_verdict) (c1 := 4) kX7_may rfl lX7_183 tX4_verdict (by decide) rfl (em_ltB hB rfl) (vd (va_up (va_up I 10 g1) 10 g2) _ _) rfl rfl (by decide) (Nat.le_of_ble_eq_true rfl) (Nat.le_refl _) (Nat.le_refl _) ?_
    exact em_iret kX7_may rfl rfl rfl rfl
theorem s_fee_no (hB : 85 ≤ n) {x : Int32} (h : ¬ (0 ≤ x ∧ x ≤ I 21 0 - 1)) : em_MC Γ 3 mX7_fee [.ref 0, .int x] (em_hm n m dl I J rv) (some (.int (-1))) (em_hm n m dl I J rv) := by
  refine em_MC_of (Nat.le_refl _) (Nat.le_refl _) (by decide +kernel) rfl (Nat.le_of_ble_eq_true rfl) ?_
  (repeat (refine em_pure hB kX7_fee rfl ?_))
  refine em_callV (μ' := mX1_isTown) (c1 := 1) kX7_fee rfl lX7_170 tX1_isTown (by decide) rfl (em_ltB hB rfl) (s_isTown hB x) rfl rfl (by decide) (Nat.le_of_ble_eq_true rfl) (Nat.le_refl _) (Nat.le_refl _) ?_
  refine em_bz kX7_fee rfl (fun h1 => absurd h1 h) (fun _ => ?_)
  (repeat (refine em_pure hB kX7_fee rfl ?_))
  exact em_iret kX7_fee rfl rfl rfl rfl
theorem s_fee_ok (hB : 85 ≤ n) {t a b N G : Nat} (hab : em_lc t a b) (h : 0 ≤ nI t ∧ nI t ≤ I 21 0 - 1) (hx : I 1 2 = nI N) (hN : N ≤ 40) (hg : I 1 6 = nI G) (hG : G ≤ 200) (hgb : ∀ i, i < G → ∃ b, b < 40 ∧ I 7 i = nI b) : em_MC Γ 3 mX7_fee [.ref 0, .int (nI t)] (em_hm n m dl I J rv) (some (.int (em_pr (I b) (em_hn I (em_gf I G (I 1 10)) (I 1 10) N)))) (em_sI (em_hm n m dl I J rv) 10 (em_gf I G (I 1 10))) := by
  have pr : ∀ (I' : Nat → Nat → Int32) (hw : Int32), em_MC Γ 2 mX4_price [.ref a, .int hw] (em_hm n m dl I' J rv) (some (.int (em_pr (I' b) hw))) (em_hm n m dl I' J rv) := fun I' hw => s_price hB hab
  have bh := s_beastsHere (Γ := Γ) (n := n) (m := m) (dl := dl) (I := I) (J := J) (rv := rv) hB hx hN hg hG hgb
  generalize em_gf I G (I 1 10) = g1 at *
  rcases hab with ⟨rfl, rfl, rfl⟩ | ⟨rfl, rfl, rfl⟩ | ⟨rfl, rfl, rfl⟩ | ⟨rfl, rfl, rfl⟩ | ⟨rfl, rfl, rfl⟩ | ⟨rfl, rfl, rfl⟩ | ⟨rfl, rfl, rfl⟩ | ⟨rfl, rfl, rfl⟩
  all_goals
    refine em_MC_of (Nat.le_refl _) (Nat.le_refl _) (by decide +kernel) rfl (Nat.le_of_ble_eq_true rfl) ?_
    (repeat (refine em_pure hB kX7_fee rfl ?_))
    refine em_callV (μ' := mX1_isTown) (c1 := 1) kX7_fee rfl lX7_170 tX1_isTown (by decide) rfl (em_ltB hB rfl) (s_isTown hB _) rfl rfl (by decide) (Nat.le_of_ble_eq_true rfl) (Nat.le_refl _) (Nat.le_refl _) ?_
    refine em_bz kX7_fee rfl (fun _ => ?_) (fun h1 => absurd h h1)
    (repeat (refine em_pure hB kX7_fee rfl ?_))
    refine em_aa hB kX7_fee rfl rfl (by decide) ?_
    (repeat (refine em_pure hB kX7_fee rfl ?_))
    refine em_callV (μ' := mX3_beastsHereToday) (c1 := 3) kX7_fee rfl lX7_180 tX3_beastsHereToday (by decide) rfl (em_ltB hB rfl) bh rfl rfl (by decide) (Nat.le_of_ble_eq_true rfl) (Nat.le_refl _) (Nat.le_refl _) ?_
    refine em_callV (μ' := mX4_price) (c1 := 4) kX7_fee rfl lX7_186 tX4_price (by decide) rfl (em_ltB hB rfl) (pr (va_up I 10 g1) _) rfl rfl (by decide) (Nat.le_of_ble_eq_true rfl) (Nat.le_refl _) (Nat.le_refl _) ?_
    (repeat (refine em_pure hB kX7_fee rfl ?_))
    exact em_iret kX7_fee rfl rfl rfl rfl
end Laws
