/-! READING THE TAPE: blanks, digits, words; the class's (row 29) and the reference's (row 77) -/
def em_pa (P : Int32 → Bool) (f : Nat → Int32) : Nat → Nat → Nat
  | 0, p => p
  | d + 1, p => if P (f p) = true then em_pa P f d (p + 1) else p
def em_isB (x : Int32) : Bool := decide (x = 32)
def em_isD (x : Int32) : Bool := decide (48 ≤ x ∧ x ≤ 57)
theorem em_pa_le (P : Int32 → Bool) (f : Nat → Int32) : ∀ d p, p ≤ em_pa P f d p ∧ em_pa P f d p ≤ p + d
  | 0, p => ⟨Nat.le_refl _, Nat.le_refl _⟩
  | d + 1, p => by
    have := em_pa_le P f d (p + 1)
    unfold em_pa
    split <;> omega
abbrev em_bl (f : Nat → Int32) (S p : Nat) : Nat := em_pa em_isB f (S - p) p
abbrev em_dg (f : Nat → Int32) (S p : Nat) : Nat := em_pa em_isD f (S - p) p
theorem em_bl_le {f : Nat → Int32} {S p : Nat} (h : p ≤ S) : p ≤ em_bl f S p ∧ em_bl f S p ≤ S := by
  have := em_pa_le em_isB f (S - p) p
  unfold em_bl
  constructor <;> omega
theorem em_dg_le {f : Nat → Int32} {S p : Nat} (h : p ≤ S) : p ≤ em_dg f S p ∧ em_dg f S p ≤ S := by
  have := em_pa_le em_isD f (S - p) p
  unfold em_dg
  constructor <;> omega
def em_val (f : Nat → Int32) : Nat → Nat → Int32 → Int32
  | 0, _, a => a
  | d + 1, p, a => em_val f d (p + 1) (a * 10 + f p - 48)
/-- the first j bytes of word i stand at p -/
def em_ma (f : Nat → Int32) (i p : Nat) : Nat → Bool
  | 0 => true
  | j + 1 => em_ma f i p j && decide (f (p + j) = (em_tb.getD i []).getD j 0)
theorem em_ma_mono (f : Nat → Int32) (i p : Nat) : ∀ e j, em_ma f i p (j + e) = true → em_ma f i p j = true
  | 0, j, h => h
  | e + 1, j, h => by
    have h1 : em_ma f i p (j + e + 1) = true := h
    unfold em_ma at h1
    rw [Bool.and_eq_true] at h1
    exact em_ma_mono f i p e j h1.1
abbrev em_sw (f : Nat → Int32) (S i p : Nat) : Prop := p + em_tl.getD i 0 ≤ S ∧ em_ma f i p (em_tl.getD i 0) = true
/-- the first sort from i on whose word stands at p; d sorts are left -/
def em_fs (f : Nat → Int32) (S p : Nat) : Nat → Nat → Nat
  | 0, i => i
  | d + 1, i => if em_sw f S i p then i else em_fs f S p d (i + 1)
theorem em_tl_b : ∀ i, i < 6 → 2 ≤ em_tl.getD i 0 ∧ em_tl.getD i 0 ≤ 4 := by decide +kernel
section Scan
variable {Γ : em_Cx} {n m : Nat} {dl : Nat → Nat} {I : Nat → Nat → Int32} {J : Nat → Nat → Int64} {rv : em_Rv}
theorem s_pastBlanks (hB : 85 ≤ n) {p S : Nat} (hS : I 28 1 = nI S) (hS2 : S ≤ 200) (hp : p ≤ S) : em_MC Γ 0 mX5_pastBlanks [.ref 28, .int (nI p)] (em_hm n m dl I J rv) (some (.int (nI (em_bl (I 29) S p)))) (em_hm n m dl I J rv) := by
  refine em_MC_of (Nat.le_refl _) (Nat.le_refl _) (by decide +kernel) rfl (Nat.le_of_ble_eq_true rfl) ?_
  have loop : ∀ d q, q + d = S → em_EW Γ 0 mX5_pastBlanks (em_hm n m dl I J rv) (some (.int (nI (em_pa em_isB (I 29) d q))), em_hm n m dl I J rv) 2 [(0, .ref 28), (2, .int (nI q))] [] (em_hm n m dl I J rv) := by
    intro d
    induction d with
    | zero =>
      intro q hq
      obtain rfl : q = S := by omega
      (repeat (refine em_pure hB kX5_pastBlanks rfl ?_))
      refine em_branch kX5_pastBlanks rfl (fun _ => ?_) (fun h1 => absurd (by show I 28 1 ≤ nI q; rw [hS]; exact nI_le (Nat.le_refl q) (by omega)) h1)
      (repeat (refine em_pure hB kX5_pastBlanks rfl ?_))
      exact em_iret kX5_pastBlanks rfl rfl rfl rfl
    | succ d ih =>
      intro q hq
      (repeat (refine em_pure hB kX5_pastBlanks rfl ?_))
      refine em_branch kX5_pastBlanks rfl (fun h1 => absurd h1 (by show ¬ I 28 1 ≤ nI q; rw [hS]; exact nI_ge (by omega) (by omega))) (fun _ => ?_)
      (repeat (refine em_pure hB kX5_pastBlanks rfl ?_))
      refine em_ia (L := 200) hB kX5_pastBlanks rfl rfl rfl rfl rfl (by omega) rfl ?_
      (repeat (refine em_pure hB kX5_pastBlanks rfl ?_))
      refine em_branch kX5_pastBlanks rfl (fun (h : ¬ I 29 q = 32) => ?_) (fun (h : ¬ ¬ I 29 q = 32) => ?_)
      · (repeat (refine em_pure hB kX5_pastBlanks rfl ?_))
        exact em_iret kX5_pastBlanks rfl rfl rfl (by rw [em_pa, if_neg (by simp [em_isB, h])])
      · (repeat (refine em_pureT 2 hB kX5_pastBlanks rfl rfl ?_))
        refine em_loc (lc' := [(0, .ref 28), (2, .int (nI q + 1))]) rfl ?_
        rw [nI_1, show em_pa em_isB (I 29) (d + 1) q = em_pa em_isB (I 29) d (q + 1) by rw [em_pa, if_pos (by simp [em_isB, Decidable.not_not.mp h])]]
        exact ih (q + 1) (by omega)
  (repeat (refine em_pureT 2 hB kX5_pastBlanks rfl rfl ?_))
  refine em_loc (lc' := [(0, .ref 28), (2, .int (nI p))]) rfl ?_
  exact loop (S - p) p (by omega)
theorem s_mBlanks (hB : 85 ≤ n) {p S : Nat} (hS : I 53 35 = nI S) (hS2 : S ≤ 200) (hp : p ≤ S) : em_MC Γ 0 mX8_blanks [.ref 53, .int (nI p)] (em_hm n m dl I J rv) (some (.int (nI (em_bl (I 77) S p)))) (em_hm n m dl I J rv) := by
  refine em_MC_of (Nat.le_refl _) (Nat.le_refl _) (by decide +kernel) rfl (Nat.le_of_ble_eq_true rfl) ?_
  have loop : ∀ d q, q + d = S → em_EW Γ 0 mX8_blanks (em_hm n m dl I J rv) (some (.int (nI (em_pa em_isB (I 77) d q))), em_hm n m dl I J rv) 2 [(0, .ref 53), (2, .int (nI q))] [] (em_hm n m dl I J rv) := by
    intro d
    induction d with
    | zero =>
      intro q hq
      obtain rfl : q = S := by omega
      (repeat (refine em_pure hB kX8_blanks rfl ?_))
      refine em_branch kX8_blanks rfl (fun _ => ?_) (fun h1 => absurd (by show I 53 35 ≤ nI q; rw [hS]; exact nI_le (Nat.le_refl q) (by omega)) h1)
      (repeat (refine em_pure hB kX8_blanks rfl ?_))
      exact em_iret kX8_blanks rfl rfl rfl rfl
    | succ d ih =>
      intro q hq
      (repeat (refine em_pure hB kX8_blanks rfl ?_))
      refine em_branch kX8_blanks rfl (fun h1 => absurd h1 (by show ¬ I 53 35 ≤ nI q; rw [hS]; exact nI_ge (by omega) (by omega))) (fun _ => ?_)
      (repeat (refine em_pure hB kX8_blanks rfl ?_))
      refine em_ia (L := 220) hB kX8_blanks rfl rfl rfl rfl rfl (by omega) rfl ?_
      (repeat (refine em_pure hB kX8_blanks rfl ?_))
      refine em_branch kX8_blanks rfl (fun (h : ¬ I 77 q = 32) => ?_) (fun (h : ¬ ¬ I 77 q = 32) => ?_)
      · (repeat (refine em_pure hB kX8_blanks rfl ?_))
        exact em_iret kX8_blanks rfl rfl rfl (by rw [em_pa, if_neg (by simp [em_isB, h])])
      · (repeat (refine em_pureT 2 hB kX8_blanks rfl rfl ?_))
        refine em_loc (lc' := [(0, .ref 53), (2, .int (nI q + 1))]) rfl ?_
        rw [nI_1, show em_pa em_isB (I 77) (d + 1) q = em_pa em_isB (I 77) d (q + 1) by rw [em_pa, if_pos (by simp [em_isB, Decidable.not_not.mp h])]]
        exact ih (q + 1) (by omega)
  (repeat (refine em_pureT 2 hB kX8_blanks rfl rfl ?_))
  refine em_loc (lc' := [(0, .ref 53), (2, .int (nI p))]) rfl ?_
  exact loop (S - p) p (by omega)
theorem s_pastDigits (hB : 85 ≤ n) {p S : Nat} (hS : I 28 1 = nI S) (hS2 : S ≤ 200) (hp : p ≤ S) : em_MC Γ 1 mX5_pastDigits [.ref 28, .int (nI p)] (em_hm n m dl I J rv) (some (.int (nI (em_dg (I 29) S p)))) (em_hm n m dl I J rv) := by
  refine em_MC_of (Nat.le_refl _) (Nat.le_refl _) (by decide +kernel) rfl (Nat.le_of_ble_eq_true rfl) ?_
  have loop : ∀ d q, q + d = S → em_EW Γ 1 mX5_pastDigits (em_hm n m dl I J rv) (some (.int (nI (em_pa em_isD (I 29) d q))), em_hm n m dl I J rv) 2 [(0, .ref 28), (2, .int (nI q))] [] (em_hm n m dl I J rv) := by
    intro d
    induction d with
    | zero =>
      intro q hq
      obtain rfl : q = S := by omega
      (repeat (refine em_pure hB kX5_pastDigits rfl ?_))
      refine em_branch kX5_pastDigits rfl (fun _ => ?_) (fun h1 => absurd (by show I 28 1 ≤ nI q; rw [hS]; exact nI_le (Nat.le_refl q) (by omega)) h1)
      (repeat (refine em_pure hB kX5_pastDigits rfl ?_))
      exact em_iret kX5_pastDigits rfl rfl rfl rfl
    | succ d ih =>
      intro q hq
      (repeat (refine em_pure hB kX5_pastDigits rfl ?_))
      refine em_branch kX5_pastDigits rfl (fun h1 => absurd h1 (by show ¬ I 28 1 ≤ nI q; rw [hS]; exact nI_ge (by omega) (by omega))) (fun _ => ?_)
      (repeat (refine em_pure hB kX5_pastDigits rfl ?_))
      refine em_ia (L := 200) hB kX5_pastDigits rfl rfl rfl rfl rfl (by omega) rfl ?_
      (repeat (refine em_pure hB kX5_pastDigits rfl ?_))
      refine em_callS (μ' := mX7_within) kX5_pastDigits rfl lX5_19 tX7_within (s_within Γ _ (I 29 q) 48 57) rfl rfl (by decide) (Nat.le_of_ble_eq_true rfl) (Nat.le_refl _) (Nat.le_refl _) ?_
      refine em_bz kX5_pastDigits rfl (fun h => ?_) (fun h => ?_)
      · (repeat (refine em_pureT 2 hB kX5_pastDigits rfl rfl ?_))
        refine em_loc (lc' := [(0, .ref 28), (2, .int (nI q + 1))]) rfl ?_
        rw [nI_1, show em_pa em_isD (I 29) (d + 1) q = em_pa em_isD (I 29) d (q + 1) by rw [em_pa, if_pos (show em_isD (I 29 q) = true from decide_eq_true h)]]
        exact ih (q + 1) (by omega)
      · (repeat (refine em_pure hB kX5_pastDigits rfl ?_))
        exact em_iret kX5_pastDigits rfl rfl rfl (by rw [em_pa, if_neg (fun z : em_isD (I 29 q) = true => h (of_decide_eq_true z))])
  (repeat (refine em_pureT 2 hB kX5_pastDigits rfl rfl ?_))
  refine em_loc (lc' := [(0, .ref 28), (2, .int (nI p))]) rfl ?_
  exact loop (S - p) p (by omega)
theorem s_valueOf (hB : 85 ≤ n) {p q : Nat} (hpq : p ≤ q) (hq : q ≤ 200) : em_MC Γ 0 mX5_valueOf [.ref 28, .int (nI p), .int (nI q)] (em_hm n m dl I J rv) (some (.int (em_val (I 29) (q - p) p 0))) (em_hm n m dl I J rv) := by
  refine em_MC_of (Nat.le_refl _) (Nat.le_refl _) (by decide +kernel) rfl (Nat.le_of_ble_eq_true rfl) ?_
  have loop : ∀ d k a, k + d = q → em_EW Γ 0 mX5_valueOf (em_hm n m dl I J rv) (some (.int (em_val (I 29) d k a)), em_hm n m dl I J rv) 5 [(0, .ref 28), (2, .int (nI q)), (3, .int a), (4, .int (nI k))] [] (em_hm n m dl I J rv) := by
    intro d
    induction d with
    | zero =>
      intro k a hk
      obtain rfl : k = q := by omega
      (repeat (refine em_pure hB kX5_valueOf rfl ?_))
      refine em_branch kX5_valueOf rfl (fun _ => ?_) (fun h1 => absurd (nI_le (Nat.le_refl k) (by omega)) h1)
      (repeat (refine em_pure hB kX5_valueOf rfl ?_))
      exact em_iret kX5_valueOf rfl rfl rfl rfl
    | succ d ih =>
      intro k a hk
      (repeat (refine em_pure hB kX5_valueOf rfl ?_))
      refine em_branch kX5_valueOf rfl (fun h1 => absurd h1 (nI_ge (by omega) (by omega))) (fun _ => ?_)
      (repeat (refine em_pure hB kX5_valueOf rfl ?_))
      refine em_ia (L := 200) hB kX5_valueOf rfl rfl rfl rfl rfl (by omega) rfl ?_
      (repeat (refine em_pureT 5 hB kX5_valueOf rfl rfl ?_))
      refine em_loc (lc' := [(0, .ref 28), (2, .int (nI q)), (3, .int (a * 10 + I 29 k - 48)), (4, .int (nI k + 1))]) rfl ?_
      rw [nI_1]
      exact ih (k + 1) _ (by omega)
  (repeat (refine em_pureT 5 hB kX5_valueOf rfl rfl ?_))
  refine em_loc (lc' := [(0, .ref 28), (2, .int (nI q)), (3, .int 0), (4, .int (nI p))]) rfl ?_
  exact loop (q - p) p 0 (by omega)
theorem s_standsAt (hB : 85 ≤ n) {p S i : Nat} {u : UInt32} (hS : I 28 1 = nI S) (hS2 : S ≤ 200) (hp : p ≤ S) (hi6 : i < 6) (hu : u.toNat = 1 + i) : em_MC Γ 4 mX5_standsAt [.ref 28, .int (nI p), .float u] (em_hm n m dl I J rv) (some (.int (if em_sw (I 29) S i p then 1 else 0))) (em_hm n m dl I J rv) := by
  have hlen := em_tl_b i hi6
  refine em_MC_of (Nat.le_refl _) (Nat.le_refl _) (by decide +kernel) rfl (Nat.le_of_ble_eq_true rfl) ?_
  (repeat (refine em_pure hB kX5_standsAt rfl ?_))
  refine em_callW (μ' := mJ0_length_8abf5) kX5_standsAt rfl lX5_43 tJ0_length_8abf5 hi6 hu (s_length Γ _ hi6 hu) rfl rfl (by decide) (Nat.le_of_ble_eq_true rfl) (Nat.le_refl _) (Nat.le_refl _) ?_
  (repeat (refine em_pure hB kX5_standsAt rfl ?_))
  refine em_branch kX5_standsAt rfl (fun (h : nI p + nI (em_tl.getD i 0) ≤ I 28 1) => ?_) (fun (h : ¬ nI p + nI (em_tl.getD i 0) ≤ I 28 1) => ?_)
  case refine_2 =>
    rw [nI_add, hS] at h
    have h0 : ¬ p + em_tl.getD i 0 ≤ S := fun z => h (nI_le z (by omega))
    (repeat (refine em_pure hB kX5_standsAt rfl ?_))
    exact em_iret kX5_standsAt rfl rfl rfl (by rw [if_neg (fun z => h0 z.1)])
  rw [nI_add, hS] at h
  have h0 : p + em_tl.getD i 0 ≤ S := Nat.not_lt.mp fun z => nI_ge z (by omega) h
  have loop : ∀ d j, j + d = em_tl.getD i 0 → em_ma (I 29) i p j = true → em_EW Γ 4 mX5_standsAt (em_hm n m dl I J rv) (some (.int (if em_sw (I 29) S i p then 1 else 0)), em_hm n m dl I J rv) 17 [(0, .ref 28), (1, .int (nI p)), (2, .float u), (3, .int (nI j))] [] (em_hm n m dl I J rv) := by
    intro d
    induction d with
    | zero =>
      intro j hj hm
      obtain rfl : j = em_tl.getD i 0 := by omega
      (repeat (refine em_pure hB kX5_standsAt rfl ?_))
      refine em_callW (μ' := mJ0_length_8abf5) kX5_standsAt rfl lX5_43 tJ0_length_8abf5 hi6 hu (s_length Γ _ hi6 hu) rfl rfl (by decide) (Nat.le_of_ble_eq_true rfl) (Nat.le_refl _) (Nat.le_refl _) ?_
      refine em_branch kX5_standsAt rfl (fun _ => ?_) (fun h1 => absurd (nI_le (Nat.le_refl _) (by omega)) h1)
      (repeat (refine em_pure hB kX5_standsAt rfl ?_))
      exact em_iret kX5_standsAt rfl rfl rfl (by rw [if_pos ⟨h0, hm⟩])
    | succ d ih =>
      intro j hj hm
      (repeat (refine em_pure hB kX5_standsAt rfl ?_))
      refine em_callW (μ' := mJ0_length_8abf5) kX5_standsAt rfl lX5_43 tJ0_length_8abf5 hi6 hu (s_length Γ _ hi6 hu) rfl rfl (by decide) (Nat.le_of_ble_eq_true rfl) (Nat.le_refl _) (Nat.le_refl _) ?_
      refine em_branch kX5_standsAt rfl (fun h1 => absurd h1 (nI_ge (by omega) (by omega))) (fun _ => ?_)
      (repeat (refine em_pure hB kX5_standsAt rfl ?_))
      refine em_ia (L := 200) hB kX5_standsAt rfl rfl rfl rfl (nI_add p j) (by omega) rfl ?_
      (repeat (refine em_pure hB kX5_standsAt rfl ?_))
      refine em_callW (μ' := mJ0_charAt_5068e) kX5_standsAt rfl lX5_63 tJ0_charAt_5068e hi6 hu (s_charAt Γ _ hi6 hu (j := j) (by omega)) rfl rfl (by decide) (Nat.le_of_ble_eq_true rfl) (Nat.le_refl _) (Nat.le_refl _) ?_
      refine em_branch kX5_standsAt rfl (fun (h2 : I 29 (p + j) = (em_tb.getD i []).getD j 0) => ?_) (fun (h2 : ¬ I 29 (p + j) = (em_tb.getD i []).getD j 0) => ?_)
      · (repeat (refine em_pureT 17 hB kX5_standsAt rfl rfl ?_))
        refine em_loc (lc' := [(0, .ref 28), (1, .int (nI p)), (2, .float u), (3, .int (nI j + 1))]) rfl ?_
        rw [nI_1]
        exact ih (j + 1) (by omega) (by rw [em_ma, hm, Bool.true_and]; exact decide_eq_true h2)
      · (repeat (refine em_pure hB kX5_standsAt rfl ?_))
        refine em_iret kX5_standsAt rfl rfl rfl ?_
        rw [if_neg (fun z => ?_)]
        have h3 := em_ma_mono (I 29) i p d (j + 1) (by rw [show j + 1 + d = em_tl.getD i 0 by omega]; exact z.2)
        rw [em_ma, Bool.and_eq_true] at h3
        exact h2 (of_decide_eq_true h3.2)
  (repeat (refine em_pureT 17 hB kX5_standsAt rfl rfl ?_))
  refine em_loc (lc' := [(0, .ref 28), (1, .int (nI p)), (2, .float u), (3, .int (nI 0))]) rfl ?_
  exact loop (em_tl.getD i 0) 0 (by omega) rfl
theorem s_mIsWord (hB : 85 ≤ n) {p S i : Nat} {u : UInt32} (hS : I 53 35 = nI S) (hS2 : S ≤ 200) (hp : p ≤ S) (hi6 : i < 6) (hu : u.toNat = 1 + i) : em_MC Γ 4 mX8_isWord [.ref 53, .int (nI p), .float u] (em_hm n m dl I J rv) (some (.int (if em_sw (I 77) S i p then 1 else 0))) (em_hm n m dl I J rv) := by
  have hlen := em_tl_b i hi6
  refine em_MC_of (Nat.le_refl _) (Nat.le_refl _) (by decide +kernel) rfl (Nat.le_of_ble_eq_true rfl) ?_
  have loop : ∀ d j, j + d = em_tl.getD i 0 → em_ma (I 77) i p j = true → (0 < j → p + j ≤ S) → em_EW Γ 4 mX8_isWord (em_hm n m dl I J rv) (some (.int (if em_sw (I 77) S i p then 1 else 0)), em_hm n m dl I J rv) 2 [(0, .ref 53), (1, .int (nI p)), (2, .float u), (3, .int (nI j))] [] (em_hm n m dl I J rv) := by
    intro d
    induction d with
    | zero =>
      intro j hj hm hjS
      obtain rfl : j = em_tl.getD i 0 := by omega
      (repeat (refine em_pure hB kX8_isWord rfl ?_))
      refine em_callW (μ' := mJ0_length_8abf5) kX8_isWord rfl lX8_199 tJ0_length_8abf5 hi6 hu (s_length Γ _ hi6 hu) rfl rfl (by decide) (Nat.le_of_ble_eq_true rfl) (Nat.le_refl _) (Nat.le_refl _) ?_
      refine em_branch kX8_isWord rfl (fun _ => ?_) (fun h1 => absurd (nI_le (Nat.le_refl _) (by omega)) h1)
      (repeat (refine em_pure hB kX8_isWord rfl ?_))
      exact em_iret kX8_isWord rfl rfl rfl (by rw [if_pos ⟨hjS (by omega), hm⟩])
    | succ d ih =>
      intro j hj hm hjS
      (repeat (refine em_pure hB kX8_isWord rfl ?_))
      refine em_callW (μ' := mJ0_length_8abf5) kX8_isWord rfl lX8_199 tJ0_length_8abf5 hi6 hu (s_length Γ _ hi6 hu) rfl rfl (by decide) (Nat.le_of_ble_eq_true rfl) (Nat.le_refl _) (Nat.le_refl _) ?_
      refine em_branch kX8_isWord rfl (fun h1 => absurd h1 (nI_ge (by omega) (by omega))) (fun _ => ?_)
      (repeat (refine em_pure hB kX8_isWord rfl ?_))
      refine em_branch kX8_isWord rfl (fun (h1 : I 53 35 ≤ nI p + nI j) => ?_) (fun (h1 : ¬ I 53 35 ≤ nI p + nI j) => ?_)
      · rw [hS, nI_add] at h1
        have h2 : ¬ p + em_tl.getD i 0 ≤ S := fun z => nI_ge (a := p + j) (b := S) (by omega) (by omega) h1
        (repeat (refine em_pure hB kX8_isWord rfl ?_))
        exact em_iret kX8_isWord rfl rfl rfl (by rw [if_neg (fun z => h2 z.1)])
      rw [hS, nI_add] at h1
      have hlt : p + j < S := Nat.not_le.mp fun z => h1 (nI_le z (by omega))
      (repeat (refine em_pure hB kX8_isWord rfl ?_))
      refine em_ia (L := 220) hB kX8_isWord rfl rfl rfl rfl (nI_add p j) (by omega) rfl ?_
      (repeat (refine em_pure hB kX8_isWord rfl ?_))
      refine em_callW (μ' := mJ0_charAt_5068e) kX8_isWord rfl lX8_205 tJ0_charAt_5068e hi6 hu (s_charAt Γ _ hi6 hu (j := j) (by omega)) rfl rfl (by decide) (Nat.le_of_ble_eq_true rfl) (Nat.le_refl _) (Nat.le_refl _) ?_
      refine em_branch kX8_isWord rfl (fun (h2 : I 77 (p + j) = (em_tb.getD i []).getD j 0) => ?_) (fun (h2 : ¬ I 77 (p + j) = (em_tb.getD i []).getD j 0) => ?_)
      · (repeat (refine em_pureT 2 hB kX8_isWord rfl rfl ?_))
        refine em_loc (lc' := [(0, .ref 53), (1, .int (nI p)), (2, .float u), (3, .int (nI j + 1))]) rfl ?_
        rw [nI_1]
        exact ih (j + 1) (by omega) (by rw [em_ma, hm, Bool.true_and]; exact decide_eq_true h2) (by omega)
      · (repeat (refine em_pure hB kX8_isWord rfl ?_))
        refine em_iret kX8_isWord rfl rfl rfl ?_
        rw [if_neg (fun z => ?_)]
        have h3 := em_ma_mono (I 77) i p d (j + 1) (by rw [show j + 1 + d = em_tl.getD i 0 by omega]; exact z.2)
        rw [em_ma, Bool.and_eq_true] at h3
        exact h2 (of_decide_eq_true h3.2)
  (repeat (refine em_pureT 2 hB kX8_isWord rfl rfl ?_))
  refine em_loc (lc' := [(0, .ref 53), (1, .int (nI p)), (2, .float u), (3, .int (nI 0))]) rfl ?_
  exact loop (em_tl.getD i 0) 0 (by omega) rfl (by omega)
theorem s_sortAt (hB : 85 ≤ n) {p S : Nat} (hS : I 28 1 = nI S) (hS2 : S ≤ 200) (hp : p ≤ S) : em_MC Γ 5 mX5_sortAt [.ref 28, .int (nI p)] (em_hm n m dl I J rv) (some (.int (if em_fs (I 29) S p 6 0 < 6 then nI (em_fs (I 29) S p 6 0) else -1))) (em_hm n m dl I J rv) := by
  refine em_MC_of (Nat.le_refl _) (Nat.le_refl _) (by decide +kernel) rfl (Nat.le_of_ble_eq_true rfl) ?_
  have loop : ∀ d i, i + d = 6 → em_EW Γ 5 mX5_sortAt (em_hm n m dl I J rv) (some (.int (if em_fs (I 29) S p d i < 6 then nI (em_fs (I 29) S p d i) else -1)), em_hm n m dl I J rv) 2 [(0, .ref 28), (1, .int (nI p)), (2, .int (nI i))] [] (em_hm n m dl I J rv) := by
    intro d
    induction d with
    | zero =>
      intro i hi
      obtain rfl : i = 6 := by omega
      (repeat (refine em_pure hB kX5_sortAt rfl ?_))
      refine em_branch kX5_sortAt rfl (fun _ => ?_) (fun h1 => absurd (by decide) h1)
      (repeat (refine em_pure hB kX5_sortAt rfl ?_))
      exact em_iret kX5_sortAt rfl rfl rfl rfl
    | succ d ih =>
      intro i hi
      obtain ⟨u, hu, hM⟩ := s_wordOf Γ (em_hm n m dl I J rv) (i := i) (by omega)
      (repeat (refine em_pure hB kX5_sortAt rfl ?_))
      refine em_branch kX5_sortAt rfl (fun (h1 : (6 : Int32) ≤ nI i) => absurd h1 (nI_ge (b := 6) (by omega) (by omega))) (fun _ => ?_)
      (repeat (refine em_pure hB kX5_sortAt rfl ?_))
      refine em_callS (μ' := mX5_wordOf) kX5_sortAt rfl lX5_39 tX5_wordOf hM rfl rfl (by decide) (Nat.le_of_ble_eq_true rfl) (Nat.le_refl _) (Nat.le_refl _) ?_
      refine em_callV (μ' := mX5_standsAt) (c1 := 5) kX5_sortAt rfl lX5_59 tX5_standsAt (by decide) rfl (em_ltB hB rfl) (s_standsAt hB hS hS2 hp (i := i) (by omega) hu) rfl rfl (by decide) (Nat.le_of_ble_eq_true rfl) (Nat.le_refl _) (Nat.le_refl _) ?_
      refine em_bz kX5_sortAt rfl (fun h => ?_) (fun h => ?_)
      · (repeat (refine em_pure hB kX5_sortAt rfl ?_))
        exact em_iret kX5_sortAt rfl rfl rfl (by rw [em_fs, if_pos h, if_pos (by omega)])
      · (repeat (refine em_pureT 2 hB kX5_sortAt rfl rfl ?_))
        refine em_loc (lc' := [(0, .ref 28), (1, .int (nI p)), (2, .int (nI i + 1))]) rfl ?_
        rw [nI_1, show em_fs (I 29) S p (d + 1) i = em_fs (I 29) S p d (i + 1) by rw [em_fs, if_neg h]]
        exact ih (i + 1) (by omega)
  (repeat (refine em_pureT 2 hB kX5_sortAt rfl rfl ?_))
  refine em_loc (lc' := [(0, .ref 28), (1, .int (nI p)), (2, .int (nI 0))]) rfl ?_
  exact loop 6 0 (by omega)
end Scan
