/-! THE HERD TODAY -/
theorem em_upc {α : Type} (f : Nat → α) {a b : Nat} (x y : α) (h : ¬ a = b) : va_up (va_up f a x) b y = va_up (va_up f b y) a x := by
  funext q
  by_cases h1 : q = a
  · subst h1
    rw [va_up_ne _ _ h, va_up_self, va_up_self]
  · by_cases h2 : q = b
    · subst h2
      rw [va_up_self, va_up_ne _ _ h1, va_up_self]
    · rw [va_up_ne _ _ h2, va_up_ne _ _ h1, va_up_ne _ _ h1, va_up_ne _ _ h2]
theorem em_rec_11 (I : Nat → Nat → Int32) (f : Nat → Int32) (q : Int32) : ∀ d i g, em_rec (va_up I 11 f) q d i g = em_rec I q d i g
  | 0, _, _ => rfl
  | d + 1, i, g => by
    rw [em_rec, em_rec, em_rec_11 I f q d]
    rfl
abbrev em_hn (I : Nat → Nat → Int32) (g : Nat → Int32) (d : Int32) (N : Nat) : Int32 := bx_sum (fun b => if em_std I g b d d then 1 else 0) N
def em_ks (I : Nat → Nat → Int32) (g : Nat → Int32) (d : Int32) : Nat → Int32
  | 0 => 0
  | b + 1 => if em_std I g b d d then em_ks I g d b ||| (1 <<< (I 4 b &&& 31)) else em_ks I g d b
/-- what changes on a day, by the first beasts -/
def em_dif (I : Nat → Nat → Int32) (g f : Nat → Int32) : Nat → Nat → Int32
  | 0 => f
  | b + 1 => if g b = -1 then va_up (em_dif I g f b) (I 5 b).toNatClampNeg (em_dif I g f b (I 5 b).toNatClampNeg + I 2 (I 4 b).toNatClampNeg)
    else va_up (va_up (em_dif I g f b) (I 5 b).toNatClampNeg (em_dif I g f b (I 5 b).toNatClampNeg + I 2 (I 4 b).toNatClampNeg)) (g b).toNatClampNeg (va_up (em_dif I g f b) (I 5 b).toNatClampNeg (em_dif I g f b (I 5 b).toNatClampNeg + I 2 (I 4 b).toNatClampNeg) (g b).toNatClampNeg - I 2 (I 4 b).toNatClampNeg)
def em_acc (f : Nat → Int32) : Nat → Nat → Int32
  | 0 => f
  | k + 1 => va_up (em_acc f k) (k + 1) (em_acc f k (k + 1) + em_acc f k k)
section Today
variable {Γ : em_Cx} {n m : Nat} {dl : Nat → Nat} {I : Nat → Nat → Int32} {J : Nat → Nat → Int64} {rv : em_Rv}
theorem s_beastsHere (hB : 85 ≤ n) {N G : Nat} (hx : I 1 2 = nI N) (hN : N ≤ 40) (hg : I 1 6 = nI G) (hG : G ≤ 200) (hgb : ∀ i, i < G → ∃ b, b < 40 ∧ I 7 i = nI b) : em_MC Γ 2 mX3_beastsHereToday [.ref 1] (em_hm n m dl I J rv) (some (.int (em_hn I (em_gf I G (I 1 10)) (I 1 10) N))) (em_sI (em_hm n m dl I J rv) 10 (em_gf I G (I 1 10))) := by
  refine em_MC_of (Nat.le_refl _) (Nat.le_refl _) (by decide +kernel) rfl (Nat.le_of_ble_eq_true rfl) ?_
  (repeat (refine em_pure hB kX3_beastsHereToday rfl ?_))
  refine em_callV (μ' := mX3_recall) (c1 := 3) kX3_beastsHereToday rfl lX3_72 tX3_recall (by decide) rfl (em_ltB hB rfl) (s_recall hB (q := I 1 10) hg hG hgb) rfl rfl (by decide) (Nat.le_of_ble_eq_true rfl) (Nat.le_refl _) (Nat.le_refl _) ?_
  refine em_hpE (hp' := em_sI (em_hm n m dl I J rv) 10 (em_gf I G (I 1 10))) rfl ?_
  generalize em_gf I G (I 1 10) = g
  have loop : ∀ e j, j + e = N → em_EW Γ 2 mX3_beastsHereToday (em_hm n m dl I J rv) (some (.int (em_hn I g (I 1 10) N)), em_sI (em_hm n m dl I J rv) 10 g) 12 [(0, .ref 1), (1, .int (em_hn I g (I 1 10) j)), (2, .int (nI j))] [] (em_sI (em_hm n m dl I J rv) 10 g) := by
    intro e
    induction e with
    | zero =>
      intro j hj
      obtain rfl : j = N := by omega
      (repeat (refine em_pure hB kX3_beastsHereToday rfl ?_))
      refine em_branch kX3_beastsHereToday rfl (fun _ => ?_) (fun h1 => absurd (by show I 1 2 ≤ nI j; rw [hx]; exact nI_le (Nat.le_refl j) (by omega)) h1)
      (repeat (refine em_pure hB kX3_beastsHereToday rfl ?_))
      exact em_iret kX3_beastsHereToday rfl rfl rfl rfl
    | succ e ih =>
      intro j hj
      have tail : em_EW Γ 2 mX3_beastsHereToday (em_hm n m dl I J rv) (some (.int (em_hn I g (I 1 10) N)), em_sI (em_hm n m dl I J rv) 10 g) 39 [(0, .ref 1), (1, .int (em_hn I g (I 1 10) (j + 1))), (2, .int (nI j))] [] (em_sI (em_hm n m dl I J rv) 10 g) := by
        (repeat (refine em_pureT 12 hB kX3_beastsHereToday rfl rfl ?_))
        refine em_loc (lc' := [(0, .ref 1), (1, .int (em_hn I g (I 1 10) (j + 1))), (2, .int (nI j + 1))]) rfl ?_
        rw [nI_1]
        exact ih (j + 1) (by omega)
      (repeat (refine em_pure hB kX3_beastsHereToday rfl ?_))
      refine em_branch kX3_beastsHereToday rfl (fun h1 => absurd h1 (by show ¬ I 1 2 ≤ nI j; rw [hx]; exact nI_ge (by omega) (by omega))) (fun _ => ?_)
      (repeat (refine em_pure hB kX3_beastsHereToday rfl ?_))
      refine em_callV (μ' := mX3_stands) (c1 := 3) kX3_beastsHereToday rfl lX3_76 tX3_stands (by decide) rfl (em_ltB hB rfl) (s_stands (I := va_up I 10 g) hB (d := I 1 10) (q := I 1 10) (j := j) rfl (by omega)) rfl rfl (by decide) (Nat.le_of_ble_eq_true rfl) (Nat.le_refl _) (Nat.le_refl _) ?_
      refine em_bz kX3_beastsHereToday rfl (fun (h : em_std I g j (I 1 10) (I 1 10)) => ?_) (fun (h : ¬ em_std I g j (I 1 10) (I 1 10)) => ?_)
      · (repeat (refine em_pureT 39 hB kX3_beastsHereToday rfl rfl ?_))
        refine em_loc (lc' := [(0, .ref 1), (1, .int (em_hn I g (I 1 10) j + 1)), (2, .int (nI j))]) rfl ?_
        have e1 : em_hn I g (I 1 10) (j + 1) = em_hn I g (I 1 10) j + 1 := by
          show bx_sum _ j + (if em_std I g j (I 1 10) (I 1 10) then 1 else 0) = _
          rw [if_pos h]
        rw [← e1]
        exact tail
      · have e1 : em_hn I g (I 1 10) (j + 1) = em_hn I g (I 1 10) j := by
          show bx_sum _ j + (if em_std I g j (I 1 10) (I 1 10) then 1 else 0) = _
          rw [if_neg h, Int32.add_zero]
        rw [e1] at tail
        exact tail
  (repeat (refine em_pureT 12 hB kX3_beastsHereToday rfl rfl ?_))
  refine em_loc (lc' := [(0, .ref 1), (1, .int 0), (2, .int (nI 0))]) rfl ?_
  exact loop N 0 (by omega)
theorem s_kindsHere (hB : 85 ≤ n) {N G : Nat} (hx : I 1 2 = nI N) (hN : N ≤ 40) (hg : I 1 6 = nI G) (hG : G ≤ 200) (hgb : ∀ i, i < G → ∃ b, b < 40 ∧ I 7 i = nI b) : em_MC Γ 2 mX3_kindsHereToday [.ref 1] (em_hm n m dl I J rv) (some (.int (em_ks I (em_gf I G (I 1 10)) (I 1 10) N))) (em_sI (em_hm n m dl I J rv) 10 (em_gf I G (I 1 10))) := by
  refine em_MC_of (Nat.le_refl _) (Nat.le_refl _) (by decide +kernel) rfl (Nat.le_of_ble_eq_true rfl) ?_
  (repeat (refine em_pure hB kX3_kindsHereToday rfl ?_))
  refine em_callV (μ' := mX3_recall) (c1 := 3) kX3_kindsHereToday rfl lX3_72 tX3_recall (by decide) rfl (em_ltB hB rfl) (s_recall hB (q := I 1 10) hg hG hgb) rfl rfl (by decide) (Nat.le_of_ble_eq_true rfl) (Nat.le_refl _) (Nat.le_refl _) ?_
  refine em_hpE (hp' := em_sI (em_hm n m dl I J rv) 10 (em_gf I G (I 1 10))) rfl ?_
  generalize em_gf I G (I 1 10) = g
  have loop : ∀ e j, j + e = N → em_EW Γ 2 mX3_kindsHereToday (em_hm n m dl I J rv) (some (.int (em_ks I g (I 1 10) N)), em_sI (em_hm n m dl I J rv) 10 g) 12 [(0, .ref 1), (1, .int (em_ks I g (I 1 10) j)), (2, .int (nI j))] [] (em_sI (em_hm n m dl I J rv) 10 g) := by
    intro e
    induction e with
    | zero =>
      intro j hj
      obtain rfl : j = N := by omega
      (repeat (refine em_pure hB kX3_kindsHereToday rfl ?_))
      refine em_branch kX3_kindsHereToday rfl (fun _ => ?_) (fun h1 => absurd (by show I 1 2 ≤ nI j; rw [hx]; exact nI_le (Nat.le_refl j) (by omega)) h1)
      (repeat (refine em_pure hB kX3_kindsHereToday rfl ?_))
      exact em_iret kX3_kindsHereToday rfl rfl rfl rfl
    | succ e ih =>
      intro j hj
      have tail : em_EW Γ 2 mX3_kindsHereToday (em_hm n m dl I J rv) (some (.int (em_ks I g (I 1 10) N)), em_sI (em_hm n m dl I J rv) 10 g) 47 [(0, .ref 1), (1, .int (em_ks I g (I 1 10) (j + 1))), (2, .int (nI j))] [] (em_sI (em_hm n m dl I J rv) 10 g) := by
        (repeat (refine em_pureT 12 hB kX3_kindsHereToday rfl rfl ?_))
        refine em_loc (lc' := [(0, .ref 1), (1, .int (em_ks I g (I 1 10) (j + 1))), (2, .int (nI j + 1))]) rfl ?_
        rw [nI_1]
        exact ih (j + 1) (by omega)
      (repeat (refine em_pure hB kX3_kindsHereToday rfl ?_))
      refine em_branch kX3_kindsHereToday rfl (fun h1 => absurd h1 (by show ¬ I 1 2 ≤ nI j; rw [hx]; exact nI_ge (by omega) (by omega))) (fun _ => ?_)
      (repeat (refine em_pure hB kX3_kindsHereToday rfl ?_))
      refine em_callV (μ' := mX3_stands) (c1 := 3) kX3_kindsHereToday rfl lX3_76 tX3_stands (by decide) rfl (em_ltB hB rfl) (s_stands (I := va_up I 10 g) hB (d := I 1 10) (q := I 1 10) (j := j) rfl (by omega)) rfl rfl (by decide) (Nat.le_of_ble_eq_true rfl) (Nat.le_refl _) (Nat.le_refl _) ?_
      refine em_bz kX3_kindsHereToday rfl (fun (h : em_std I g j (I 1 10) (I 1 10)) => ?_) (fun (h : ¬ em_std I g j (I 1 10) (I 1 10)) => ?_)
      · (repeat (refine em_pure hB kX3_kindsHereToday rfl ?_))
        refine em_ia (L := 40) hB kX3_kindsHereToday rfl rfl rfl rfl rfl (by omega) rfl ?_
        (repeat (refine em_pureT 47 hB kX3_kindsHereToday rfl rfl ?_))
        refine em_loc (lc' := [(0, .ref 1), (1, .int (em_ks I g (I 1 10) j ||| (1 <<< (I 4 j &&& 31)))), (2, .int (nI j))]) rfl ?_
        rw [em_ks, if_pos h] at tail
        exact tail
      · rw [em_ks, if_neg h] at tail
        exact tail
  (repeat (refine em_pureT 12 hB kX3_kindsHereToday rfl rfl ?_))
  refine em_loc (lc' := [(0, .ref 1), (1, .int 0), (2, .int (nI 0))]) rfl ?_
  exact loop N 0 (by omega)
abbrev em_rw (n m : Nat) (dl : Nat → Nat) (I : Nat → Nat → Int32) (J : Nat → Nat → Int64) (rv : em_Rv) (g f : Nat → Int32) : em_Hp := em_hm n m dl (va_up (va_up I 10 g) 11 f) J rv
theorem s_rations (hB : 85 ≤ n) {N G D : Nat} (hx : I 1 2 = nI N) (hN : N ≤ 40) (hg : I 1 6 = nI G) (hG : G ≤ 200) (hgb : ∀ i, i < G → ∃ b, b < 40 ∧ I 7 i = nI b) (hk : ∀ b, b < N → ∃ k, k < 8 ∧ I 4 b = nI k) (hf : ∀ b, b < N → ∃ k, k < 401 ∧ I 5 b = nI k) (hgf : ∀ b, b < N → em_gf I G (I 1 10) b = -1 ∨ ∃ k, k < 401 ∧ em_gf I G (I 1 10) b = nI k) (hD : I 1 10 = nI D) (hD2 : D ≤ 400) : em_MC Γ 2 mX3_rationsToToday [.ref 1] (em_hm n m dl I J rv) (some (.ref 11)) (em_rw n m dl I J rv (em_gf I G (I 1 10)) (em_acc (em_dif I (em_gf I G (I 1 10)) (em_fil (I 11) 0 401) N) D)) := by
  refine em_MC_of (Nat.le_refl _) (Nat.le_refl _) (by decide +kernel) rfl (Nat.le_of_ble_eq_true rfl) ?_
  (repeat (refine em_pure hB kX3_rationsToToday rfl ?_))
  refine em_callS (μ' := mJ7_fill_53178) kX3_rationsToToday rfl lX3_42 tJ7_fill_53178 (s_fillI Γ _ 0 (L := 401) (k := 11) rfl (em_ltB hB rfl) rfl (by decide)) rfl rfl (by decide) (Nat.le_of_ble_eq_true rfl) (Nat.le_refl _) (Nat.le_refl _) ?_
  (repeat (refine em_pure hB kX3_rationsToToday rfl ?_))
  refine em_callV (μ' := mX3_recall) (c1 := 3) kX3_rationsToToday rfl lX3_72 tX3_recall (by decide) rfl (em_ltB hB rfl) (s_recall (I := va_up I 11 (em_fil (I 11) 0 401)) hB (q := I 1 10) hg hG hgb) rfl rfl (by decide) (Nat.le_of_ble_eq_true rfl) (Nat.le_refl _) (Nat.le_refl _) ?_
  refine em_hpE (hp' := em_rw n m dl I J rv (em_gf I G (I 1 10)) (em_fil (I 11) 0 401)) (by
    rw [em_rec_11]
    exact congrArg (fun z => em_hm n m dl z J rv) (em_upc I (a := 11) (b := 10) _ _ (by decide))) ?_
  generalize em_gf I G (I 1 10) = g at *
  generalize em_fil (I 11) 0 401 = f0 at *
  have second : ∀ d k, k + d = D → em_EW Γ 2 mX3_rationsToToday (em_hm n m dl I J rv) (some (.ref 11), em_rw n m dl I J rv g (em_acc (em_dif I g f0 N) D)) 86 [(0, .ref 1), (1, .int (nI (k + 1)))] [] (em_rw n m dl I J rv g (em_acc (em_dif I g f0 N) k)) := by
    intro d
    induction d with
    | zero =>
      intro k hk
      obtain rfl : k = D := by omega
      (repeat (refine em_pure hB kX3_rationsToToday rfl ?_))
      refine em_branch kX3_rationsToToday rfl (fun _ => ?_) (fun h1 => absurd (by show I 1 10 < nI (k + 1); rw [hD]; exact nI_lt (by omega) (by omega)) h1)
      (repeat (refine em_pure hB kX3_rationsToToday rfl ?_))
      exact em_aret kX3_rationsToToday rfl rfl (Or.inr ⟨_, rfl⟩) (Or.inl ⟨_, rfl⟩) rfl
    | succ d ih =>
      intro k hk
      (repeat (refine em_pure hB kX3_rationsToToday rfl ?_))
      refine em_branch kX3_rationsToToday rfl (fun h1 => absurd h1 (by show ¬ I 1 10 < nI (k + 1); rw [hD]; exact nI_nlt (by omega) (by omega))) (fun _ => ?_)
      (repeat (refine em_pure hB kX3_rationsToToday rfl ?_))
      refine em_ia (L := 401) hB kX3_rationsToToday rfl rfl rfl rfl rfl (show k + 1 < 401 by omega) rfl ?_
      (repeat (refine em_pure hB kX3_rationsToToday rfl ?_))
      refine em_ia (L := 401) hB kX3_rationsToToday rfl rfl rfl rfl (nI_pred k) (show k < 401 by omega) rfl ?_
      (repeat (refine em_pure hB kX3_rationsToToday rfl ?_))
      refine em_iw (L := 401) hB kX3_rationsToToday rfl rfl rfl rfl rfl (show k + 1 < 401 by omega) rfl ?_
      refine em_hpE (hp' := em_rw n m dl I J rv g (em_acc (em_dif I g f0 N) (k + 1))) (em_sI2 (em_hm n m dl (va_up I 10 g) J rv) 11 _ _) ?_
      (repeat (refine em_pureT 86 hB kX3_rationsToToday rfl rfl ?_))
      refine em_loc (lc' := [(0, .ref 1), (1, .int (nI (k + 1) + 1))]) rfl ?_
      rw [nI_1]
      exact ih (k + 1) (by omega)
  have first : ∀ d b, b + d = N → em_EW Γ 2 mX3_rationsToToday (em_hm n m dl I J rv) (some (.ref 11), em_rw n m dl I J rv g (em_acc (em_dif I g f0 N) D)) 18 [(0, .ref 1), (1, .int (nI b))] [] (em_rw n m dl I J rv g (em_dif I g f0 b)) := by
    intro d
    induction d with
    | zero =>
      intro b hb
      obtain rfl : b = N := by omega
      (repeat (refine em_pure hB kX3_rationsToToday rfl ?_))
      refine em_branch kX3_rationsToToday rfl (fun _ => ?_) (fun h1 => absurd (by show I 1 2 ≤ nI b; rw [hx]; exact nI_le (Nat.le_refl b) (by omega)) h1)
      (repeat (refine em_pureT 86 hB kX3_rationsToToday rfl rfl ?_))
      refine em_loc (lc' := [(0, .ref 1), (1, .int (nI (0 + 1)))]) rfl ?_
      exact second D 0 (by omega)
    | succ d ih =>
      intro b hb
      obtain ⟨k, hk8, hke⟩ := hk b (by omega)
      obtain ⟨r, hr, hre⟩ := hf b (by omega)
      have tail : em_EW Γ 2 mX3_rationsToToday (em_hm n m dl I J rv) (some (.ref 11), em_rw n m dl I J rv g (em_acc (em_dif I g f0 N) D)) 78 [(0, .ref 1), (1, .int (nI b)), (2, .int (I 2 k))] [] (em_rw n m dl I J rv g (em_dif I g f0 (b + 1))) := by
        (repeat (refine em_pureT 18 hB kX3_rationsToToday rfl rfl ?_))
        refine em_loc (lc' := [(0, .ref 1), (1, .int (nI b + 1))]) rfl ?_
        rw [nI_1]
        exact ih (b + 1) (by omega)
      (repeat (refine em_pure hB kX3_rationsToToday rfl ?_))
      refine em_branch kX3_rationsToToday rfl (fun h1 => absurd h1 (by show ¬ I 1 2 ≤ nI b; rw [hx]; exact nI_ge (by omega) (by omega))) (fun _ => ?_)
      (repeat (refine em_pure hB kX3_rationsToToday rfl ?_))
      refine em_ia (L := 40) hB kX3_rationsToToday rfl rfl rfl rfl rfl (show b < 40 by omega) rfl ?_
      refine em_ia (L := 8) hB kX3_rationsToToday rfl rfl rfl rfl hke hk8 rfl ?_
      (repeat (refine em_pure hB kX3_rationsToToday rfl ?_))
      refine em_ia (L := 40) hB kX3_rationsToToday rfl rfl rfl rfl rfl (show b < 40 by omega) rfl ?_
      (repeat (refine em_pure hB kX3_rationsToToday rfl ?_))
      refine em_ia (L := 401) hB kX3_rationsToToday rfl rfl rfl rfl hre hr rfl ?_
      (repeat (refine em_pure hB kX3_rationsToToday rfl ?_))
      refine em_iw (L := 401) hB kX3_rationsToToday rfl rfl rfl rfl hre hr rfl ?_
      refine em_hpE (hp' := em_rw n m dl I J rv g (va_up (em_dif I g f0 b) r (em_dif I g f0 b r + I 2 k))) (em_sI2 (em_hm n m dl (va_up I 10 g) J rv) 11 _ _) ?_
      (repeat (refine em_pure hB kX3_rationsToToday rfl ?_))
      refine em_ia (L := 40) hB kX3_rationsToToday rfl rfl rfl rfl rfl (show b < 40 by omega) rfl ?_
      (repeat (refine em_pure hB kX3_rationsToToday rfl ?_))
      refine em_loc (lc' := [(0, .ref 1), (1, .int (nI b)), (2, .int (I 2 k))]) rfl ?_
      rw [em_dif, hre, hke, nI_clamp (by omega), nI_clamp (by omega)] at tail
      refine em_branch kX3_rationsToToday rfl (fun (h : g b = -1) => ?_) (fun (h : ¬ g b = -1) => ?_)
      · rw [if_pos h] at tail
        exact tail
      · obtain ⟨r2, hr2, hre2⟩ := (hgf b (by omega)).resolve_left h
        rw [if_neg h, hre2, nI_clamp (by omega)] at tail
        (repeat (refine em_pure hB kX3_rationsToToday rfl ?_))
        refine em_ia (L := 40) hB kX3_rationsToToday rfl rfl rfl rfl rfl (show b < 40 by omega) rfl ?_
        (repeat (refine em_pure hB kX3_rationsToToday rfl ?_))
        refine em_ia (L := 401) hB kX3_rationsToToday rfl rfl rfl rfl hre2 hr2 rfl ?_
        (repeat (refine em_pure hB kX3_rationsToToday rfl ?_))
        refine em_iw (L := 401) hB kX3_rationsToToday rfl rfl rfl rfl hre2 hr2 rfl ?_
        exact em_hpE (em_sI2 (em_hm n m dl (va_up I 10 g) J rv) 11 _ _) tail
  (repeat (refine em_pureT 18 hB kX3_rationsToToday rfl rfl ?_))
  refine em_loc (lc' := [(0, .ref 1), (1, .int (nI 0))]) rfl ?_
  exact first N 0 (by omega)
end Today
