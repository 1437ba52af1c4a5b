/-! ROWS THAT GROW; THE BOOK -/
abbrev em_lnd (dl : Nat → Nat) (k : Nat) : Nat := bif Nat.blt k 85 then em_lS k else dl k
abbrev em_rl (k : Nat) : Prop := k = 14 ∨ 85 ≤ k
theorem em_rl9 {k : Nat} (h : em_rl k) : em_k k = 9 := by
  rcases h with rfl | h
  · rfl
  · exact em_k_dyn h
theorem em_acI : Cond.arrayClass .int ∈ lw_tbl := by decide +kernel
theorem em_blt85 {k : Nat} (h : 85 ≤ k) : Nat.blt k 85 = false := by
  cases hb : Nat.blt k 85 with
  | false => rfl
  | true =>
    have := Nat.le_of_ble_eq_true hb
    omega
theorem em_lnd_up {dl : Nat → Nat} {n len k : Nat} (h : k < n) : em_lnd (va_up dl n len) k = em_lnd dl k := by
  show (bif Nat.blt k 85 then em_lS k else va_up dl n len k) = _
  rw [va_up_ne _ _ (by omega)]
theorem em_lnd_n {dl : Nat → Nat} {n len : Nat} (h : 85 ≤ n) : em_lnd (va_up dl n len) n = len := by
  show (bif Nat.blt n 85 then em_lS n else va_up dl n len n) = _
  rw [em_blt85 h, va_up_self]
  rfl
section Grow
variable {Γ : em_Cx} {K : Nat} {μ : em_Me} {hp0 : em_Hp} {fin : Option Value × em_Hp} {pc a nx : Nat} {lc : List (Nat × Value)} {st t : List Value} {hp : em_Hp}
theorem em_iaD {i : Int32} {k j len : Nat} (hok : em_ok μ) (h : em_as 62 μ pc st = some (i, k, nx, t)) (hk : em_k k = 9) (hn : k < em_n hp) (hl : em_ln hp k = len) (e : i = nI j) (hj : j < len) (hb : len < 100000) (kk : em_EW Γ K μ hp0 fin nx lc (.int (em_I hp k j) :: t) hp) : em_EW Γ K μ hp0 fin pc lc st hp := by
  refine em_iald hok h hk hn ?_ ?_
  · rw [hl, e]
    exact nI_in hj (by omega)
  · rw [e, nI_clamp (by omega)]
    exact kk
theorem em_iwD {x i : Int32} {k j len : Nat} (hok : em_ok μ) (h : em_wI 66 μ pc st = some (x, i, k, nx, t)) (hk : em_k k = 9) (hn : k < em_n hp) (hl : em_ln hp k = len) (e : i = nI j) (hj : j < len) (hb : len < 100000) (kk : em_EW Γ K μ hp0 fin nx lc t (em_sI hp k (va_up (em_I hp k) j x))) : em_EW Γ K μ hp0 fin pc lc st hp := by
  refine em_iast hok h hk hn ?_ ?_
  · rw [hl, e]
    exact nI_in hj (by omega)
  · rw [e, nI_clamp (by omega)]
    exact kk
theorem em_newI {n m : Nat} {dl : Nat → Nat} {I : Nat → Nat → Int32} {J : Nat → Nat → Int64} {rv : em_Rv} {N : Nat} {x : Int32} (hB : 85 ≤ n) (hok : em_ok μ) (h : em_at1 76 μ pc = some (a, nx)) (hx : x = nI N) (hN : N < 100000) (f1 : n + 1 ≤ em_n fin.2) (f2 : m + N ≤ em_m fin.2) (kk : em_EW Γ K μ hp0 fin nx lc (.ref n :: t) (em_hm (n + 1) (m + N) (va_up dl n N) (va_up I n (fun _ => 0)) J rv)) : em_EW Γ K μ hp0 fin pc lc (.int x :: t) (em_hm n m dl I J rv) := by
  subst hx
  refine em_newa (op := 76) (at1 := .int) (ty := .int) (hp' := em_hm (n + 1) (m + N) (va_up dl n N) (va_up I n (fun _ => 0)) J rv) hok (Or.inl ⟨rfl, rfl, rfl⟩) h ⟨rfl, rfl, fun j hj => em_lnd_up hj, fun j hj => va_up_ne _ _ (Nat.ne_of_lt hj), fun _ _ => rfl, fun _ _ => rfl⟩ hN (em_lnd_n hB) (Or.inl ⟨rfl, em_k_dyn hB, fun j => ?_⟩) em_acI f1 f2 kk
  show va_up I n (fun _ => 0) n j = 0
  rw [va_up_self]
end Grow
theorem s_copyOf (Γ : em_Cx) {n m : Nat} {dl : Nat → Nat} {I : Nat → Nat → Int32} {J : Nat → Nat → Int64} {rv : em_Rv} (hB : 85 ≤ n) {L lam len : Nat} (hL : em_k L = 9) (hLn : L < n) (hl : em_lnd dl L = lam) (h1 : lam < len) (h2 : len < 100000) : em_MC Γ 2 mJ7_copyOf_59c91 [.ref L, .int (nI len)] (em_hm n m dl I J rv) (some (.ref n)) (em_hm (n + 1) (m + len) (va_up dl n len) (va_up I n (va_cpy (I L) (fun _ => 0) 0 0 lam)) J rv) := by
  refine em_MC_of (Nat.le_succ _) (Nat.le_add_right _ _) (by decide +kernel) rfl (Nat.le_of_ble_eq_true rfl) ?_
  (repeat (refine em_pure (Nat.zero_le _) kJ7_copyOf_59c91 rfl ?_))
  refine em_alen kJ7_copyOf_59c91 rfl (Or.inl hL) hLn ?_
  refine em_branch kJ7_copyOf_59c91 rfl (fun _ => ?_) (fun (h : ¬ ¬ nI len = nI (em_lnd dl L)) => absurd (fun z => by rw [hl] at z; have := (nI_eq (by omega) (by omega)).mp z; omega) h)
  (repeat (refine em_pure (Nat.zero_le _) kJ7_copyOf_59c91 rfl ?_))
  refine em_newI (N := len) hB kJ7_copyOf_59c91 rfl rfl h2 (Nat.le_refl _) (Nat.le_refl _) ?_
  (repeat (refine em_pure (Nat.zero_le _) kJ7_copyOf_59c91 rfl ?_))
  refine em_alen kJ7_copyOf_59c91 rfl (Or.inl hL) (show L < n + 1 by omega) ?_
  (repeat (refine em_pure (Nat.zero_le _) kJ7_copyOf_59c91 rfl ?_))
  have e1 : em_ln (em_hm (n + 1) (m + len) (va_up dl n len) (va_up I n (fun _ => 0)) J rv) L = lam := (em_lnd_up hLn).trans hl
  rw [e1]
  refine em_mmin (x := nI lam) (y := nI len) kJ7_copyOf_59c91 rfl lN7 rfl (by decide) (Nat.le_of_ble_eq_true rfl) (Nat.le_refl _) (Nat.le_refl _) ?_
  rw [if_neg (nI_nlt (by omega) (by omega))]
  refine em_copyI kJ7_copyOf_59c91 rfl lJ7_150 hL (em_k_dyn hB) (show L < n + 1 by omega) (show n < n + 1 by omega) (by decide) (by decide) (nI_pos (by omega)) (by rw [e1, nI_clamp (by omega)]; exact Nat.le_of_eq (Nat.zero_add lam)) (by rw [nI_clamp (by omega)]; show 0 + lam ≤ em_lnd (va_up dl n len) n; rw [em_lnd_n hB]; omega) (by decide) (Nat.le_of_ble_eq_true rfl) ?_
  refine em_hpE (hp' := em_hm (n + 1) (m + len) (va_up dl n len) (va_up I n (va_cpy (I L) (fun _ => 0) 0 0 lam)) J rv) ?_ ?_
  · show em_sI (em_hm (n + 1) (m + len) (va_up dl n len) (va_up I n (fun _ => 0)) J rv) n (va_cpy (va_up I n (fun _ => 0) L) (va_up I n (fun _ => 0) n) 0 0 (nI lam).toNatClampNeg) = _
    rw [nI_clamp (by omega), va_up_ne _ _ (show L ≠ n by omega), va_up_self]
    show em_hm (n + 1) (m + len) (va_up dl n len) (va_up (va_up I n (fun _ => 0)) n _) J rv = _
    rw [bx_uu]
  (repeat (refine em_pure (Nat.zero_le _) kJ7_copyOf_59c91 rfl ?_))
  exact em_aret kJ7_copyOf_59c91 rfl rfl (Or.inr ⟨_, rfl⟩) (Or.inl ⟨_, rfl⟩) rfl
theorem em_RR_1 (rv : em_Rv) (x : Nat) : va_up (em_RR rv) 12 (va_up (em_RR rv 12) 2 (some x)) = em_RR (x, rv.2) := by
  funext k
  by_cases hk : k = 12
  · subst hk
    rw [va_up_self]
    funext j
    by_cases h2 : j = 2
    · subst h2; rw [va_up_self]; rfl
    · rw [va_up_ne _ _ h2]
      have g2 : Nat.beq j 2 = false := by
        cases hb : Nat.beq j 2 with
        | false => rfl
        | true => exact absurd (Nat.eq_of_beq_eq_true hb) h2
      show em_RR _ 12 j = em_RR _ 12 j
      simp only [em_RR, g2, cond_false]
  · rw [va_up_ne _ _ hk]
    have h : Nat.beq k 12 = false := by
      cases hb : Nat.beq k 12 with
      | false => rfl
      | true => exact absurd (Nat.eq_of_beq_eq_true hb) hk
    funext j
    simp only [em_RR, h, cond_false]
section Book
variable {Γ : em_Cx} {n m : Nat} {dl : Nat → Nat} {I : Nat → Nat → Int32} {J : Nat → Nat → Int64} {rv : em_Rv}
theorem s_bSize (hB : 85 ≤ n) : em_MC Γ 0 mX0_size [.ref 12] (em_hm n m dl I J rv) (some (.int (I 12 3))) (em_hm n m dl I J rv) := by
  refine em_MC_of (Nat.le_refl _) (Nat.le_refl _) (by decide +kernel) rfl (Nat.le_of_ble_eq_true rfl) ?_
  (repeat (refine em_pure hB kX0_size rfl ?_))
  exact em_iret kX0_size rfl rfl rfl rfl
theorem s_unitsInAll (hB : 85 ≤ n) : em_MC Γ 0 mX0_unitsInAll [.ref 12] (em_hm n m dl I J rv) (some (.int (I 12 1))) (em_hm n m dl I J rv) := by
  refine em_MC_of (Nat.le_refl _) (Nat.le_refl _) (by decide +kernel) rfl (Nat.le_of_ble_eq_true rfl) ?_
  (repeat (refine em_pure hB kX0_unitsInAll rfl ?_))
  exact em_iret kX0_unitsInAll rfl rfl rfl rfl
theorem s_unitsFor (hB : 85 ≤ n) {x : Int32} : em_MC Γ 1 mX0_unitsFor [.ref 12, .int x] (em_hm n m dl I J rv) (some (.int (if 0 ≤ x ∧ x ≤ 400 then I 13 x.toNatClampNeg else 0))) (em_hm n m dl I J rv) := by
  refine em_MC_of (Nat.le_refl _) (Nat.le_refl _) (by decide +kernel) rfl (Nat.le_of_ble_eq_true rfl) ?_
  (repeat (refine em_pure hB kX0_unitsFor rfl ?_))
  refine em_callS (μ' := mX7_within) kX0_unitsFor rfl lX0_25 tX7_within (s_within Γ _ x 0 400) rfl rfl (by decide) (Nat.le_of_ble_eq_true rfl) (Nat.le_refl _) (Nat.le_refl _) ?_
  refine em_bz kX0_unitsFor rfl (fun h => ?_) (fun h => ?_)
  · obtain ⟨j, hj, rfl⟩ := nI_of2 (M := 400) (n := 400) rfl (Int32.not_lt.mpr h.1) h.2
    (repeat (refine em_pure hB kX0_unitsFor rfl ?_))
    refine em_ia (L := 401) hB kX0_unitsFor rfl rfl rfl rfl rfl (show j < 401 by omega) rfl ?_
    (repeat (refine em_pure hB kX0_unitsFor rfl ?_))
    exact em_iret kX0_unitsFor rfl rfl rfl (by rw [if_pos h, nI_clamp (by omega)])
  · (repeat (refine em_pure hB kX0_unitsFor rfl ?_))
    exact em_iret kX0_unitsFor rfl rfl rfl (by rw [if_neg h])
theorem em_w3 {c k : Nat} : nI c * 3 + nI k = nI (3 * c + k) := by
  rw [show (3 : Int32) = nI 3 from rfl, pk_mul, nI_add, Nat.mul_comm]
theorem em_w3' {c : Nat} : nI c * 3 = nI (3 * c) := by
  rw [show (3 : Int32) = nI 3 from rfl, pk_mul, Nat.mul_comm]
theorem s_linePart_no (hB : 85 ≤ n) {x w : Int32} (h : ¬ ((0 ≤ x ∧ x ≤ I 12 3 - 1) ∧ (0 ≤ w ∧ w ≤ 2))) : em_MC Γ 1 mX0_linePart [.ref 12, .int x, .int w] (em_hm n m dl I J rv) (some (.int (-1000000))) (em_hm n m dl I J rv) := by
  refine em_MC_of (Nat.le_refl _) (Nat.le_refl _) (by decide +kernel) rfl (Nat.le_of_ble_eq_true rfl) ?_
  (repeat (refine em_pure hB kX0_linePart rfl ?_))
  refine em_callS (μ' := mX7_within) kX0_linePart rfl lX0_25 tX7_within (s_within Γ _ x 0 (I 12 3 - 1)) rfl rfl (by decide) (Nat.le_of_ble_eq_true rfl) (Nat.le_refl _) (Nat.le_refl _) ?_
  refine em_bz kX0_linePart rfl (fun h1 => ?_) (fun _ => ?_)
  · (repeat (refine em_pure hB kX0_linePart rfl ?_))
    refine em_callS (μ' := mX7_within) kX0_linePart rfl lX0_25 tX7_within (s_within Γ _ w 0 2) rfl rfl (by decide) (Nat.le_of_ble_eq_true rfl) (Nat.le_refl _) (Nat.le_refl _) ?_
    refine em_bn kX0_linePart rfl (fun h2 => absurd ⟨h1, h2⟩ h) (fun _ => ?_)
    (repeat (refine em_pure hB kX0_linePart rfl ?_))
    exact em_iret kX0_linePart rfl rfl rfl rfl
  · (repeat (refine em_pure hB kX0_linePart rfl ?_))
    exact em_iret kX0_linePart rfl rfl rfl rfl
theorem s_linePart_ok (hB : 85 ≤ n) {i w c lam : Nat} (hL : em_rl rv.1) (hLn : rv.1 < n) (hl : em_lnd dl rv.1 = lam) (hl2 : lam < 100000) (hc : I 12 3 = nI c) (hc2 : 3 * c ≤ lam) (hi : i < c) (hw : w < 3) : em_MC Γ 1 mX0_linePart [.ref 12, .int (nI i), .int (nI w)] (em_hm n m dl I J rv) (some (.int (I rv.1 (3 * i + w)))) (em_hm n m dl I J rv) := by
  refine em_MC_of (Nat.le_refl _) (Nat.le_refl _) (by decide +kernel) rfl (Nat.le_of_ble_eq_true rfl) ?_
  (repeat (refine em_pure hB kX0_linePart rfl ?_))
  refine em_callS (μ' := mX7_within) kX0_linePart rfl lX0_25 tX7_within (s_within Γ _ (nI i) 0 (I 12 3 - 1)) rfl rfl (by decide) (Nat.le_of_ble_eq_true rfl) (Nat.le_refl _) (Nat.le_refl _) ?_
  refine em_bz kX0_linePart rfl (fun _ => ?_) (fun h => absurd (em_inB hc (by omega) rfl hi) h)
  (repeat (refine em_pure hB kX0_linePart rfl ?_))
  refine em_callS (μ' := mX7_within) kX0_linePart rfl lX0_25 tX7_within (s_within Γ _ (nI w) 0 2) rfl rfl (by decide) (Nat.le_of_ble_eq_true rfl) (Nat.le_refl _) (Nat.le_refl _) ?_
  refine em_bn kX0_linePart rfl (fun _ => ?_) (fun h => absurd ⟨nI_pos' (by omega), nI_le (b := 2) (by omega) (by omega)⟩ h)
  (repeat (refine em_pure hB kX0_linePart rfl ?_))
  refine em_iaD (j := 3 * i + w) kX0_linePart rfl (em_rl9 hL) hLn hl em_w3 (by omega) hl2 ?_
  exact em_iret kX0_linePart rfl rfl rfl rfl
def em_due (f u : Nat → Int32) : Nat → Nat
  | 0 => 0
  | d + 1 => if f d = u d then em_due f u d else em_due f u d + 1
theorem em_due_le (f u : Nat → Int32) : ∀ d, em_due f u d ≤ d
  | 0 => Nat.le_refl _
  | d + 1 => by
    have := em_due_le f u d
    rw [em_due]
    split <;> omega
theorem s_linesDue (hB : 85 ≤ n) {t : Nat} (ht : t < 401) : em_MC Γ 0 mX0_linesDue [.ref 12, .int (nI t), .ref 11] (em_hm n m dl I J rv) (some (.int (nI (em_due (I 11) (I 13) (t + 1))))) (em_hm n m dl I J rv) := by
  refine em_MC_of (Nat.le_refl _) (Nat.le_refl _) (by decide +kernel) rfl (Nat.le_of_ble_eq_true rfl) ?_
  have loop : ∀ e d, d + e = t + 1 → em_EW Γ 0 mX0_linesDue (em_hm n m dl I J rv) (some (.int (nI (em_due (I 11) (I 13) (t + 1)))), em_hm n m dl I J rv) 5 [(0, .ref 12), (1, .int (nI t)), (2, .ref 11), (3, .int (nI (em_due (I 11) (I 13) d))), (4, .int (nI d))] [] (em_hm n m dl I J rv) := by
    intro e
    induction e with
    | zero =>
      intro d hd
      obtain rfl : d = t + 1 := by omega
      (repeat (refine em_pure hB kX0_linesDue rfl ?_))
      refine em_branch kX0_linesDue rfl (fun _ => ?_) (fun h => absurd (nI_lt (by omega) (by omega)) h)
      (repeat (refine em_pure hB kX0_linesDue rfl ?_))
      exact em_iret kX0_linesDue rfl rfl rfl rfl
    | succ e ih =>
      intro d hd
      have next : ∀ z, z = nI (em_due (I 11) (I 13) (d + 1)) → em_EW Γ 0 mX0_linesDue (em_hm n m dl I J rv) (some (.int (nI (em_due (I 11) (I 13) (t + 1)))), em_hm n m dl I J rv) 28 [(0, .ref 12), (1, .int (nI t)), (2, .ref 11), (3, .int z), (4, .int (nI d))] [] (em_hm n m dl I J rv) := by
        intro z hz
        (repeat (refine em_pureT 5 hB kX0_linesDue rfl rfl ?_))
        refine em_loc (lc' := [(0, .ref 12), (1, .int (nI t)), (2, .ref 11), (3, .int z), (4, .int (nI d + 1))]) rfl ?_
        rw [nI_1, hz]
        exact ih (d + 1) (by omega)
      (repeat (refine em_pure hB kX0_linesDue rfl ?_))
      refine em_branch kX0_linesDue rfl (fun h => absurd h (nI_nlt (by omega) (by omega))) (fun _ => ?_)
      (repeat (refine em_pure hB kX0_linesDue rfl ?_))
      refine em_ia (L := 401) hB kX0_linesDue rfl rfl rfl rfl rfl (show d < 401 by omega) rfl ?_
      (repeat (refine em_pure hB kX0_linesDue rfl ?_))
      refine em_ia (L := 401) hB kX0_linesDue rfl rfl rfl rfl rfl (show d < 401 by omega) rfl ?_
      refine em_branch kX0_linesDue rfl (fun (h : I 11 d = I 13 d) => next _ (by rw [em_due, if_pos h])) (fun (h : ¬ I 11 d = I 13 d) => ?_)
      (repeat (refine em_pureT 28 hB kX0_linesDue rfl rfl ?_))
      refine em_loc (lc' := [(0, .ref 12), (1, .int (nI t)), (2, .ref 11), (3, .int (nI (em_due (I 11) (I 13) d) + 1)), (4, .int (nI d))]) rfl (next _ ?_)
      rw [em_due, if_neg h, nI_1]
  (repeat (refine em_pureT 5 hB kX0_linesDue rfl rfl ?_))
  refine em_loc (lc' := [(0, .ref 12), (1, .int (nI t)), (2, .ref 11), (3, .int (nI 0)), (4, .int (nI 0))]) rfl ?_
  exact loop (t + 1) 0 (by omega)
theorem s_makeRoom_no (hB : 85 ≤ n) {w lam : Nat} (hL : em_rl rv.1) (hLn : rv.1 < n) (hl : em_lnd dl rv.1 = lam) (hl2 : lam < 100000) (h : 3 * w ≤ lam) : em_MC Γ 3 mX0_makeRoom [.ref 12, .int (nI w)] (em_hm n m dl I J rv) none (em_hm n m dl I J rv) := by
  refine em_MC_of (Nat.le_refl _) (Nat.le_refl _) (by decide +kernel) rfl (Nat.le_of_ble_eq_true rfl) ?_
  (repeat (refine em_pure hB kX0_makeRoom rfl ?_))
  refine em_alen kX0_makeRoom rfl (Or.inl (em_rl9 hL)) hLn ?_
  refine em_branch kX0_makeRoom rfl (fun _ => ?_) (fun h1 => absurd (show nI w * 3 ≤ nI (em_lnd dl rv.1) by rw [hl, em_w3']; exact nI_le h (by omega)) h1)
  (repeat (refine em_pure hB kX0_makeRoom rfl ?_))
  exact em_vret kX0_makeRoom rfl rfl rfl
def em_rm1 (lam w : Nat) : Nat := max (min (2 * lam) 60000) (3 * w)
theorem s_makeRoom_yes (hB : 85 ≤ n) {w lam : Nat} (hL : em_rl rv.1) (hLn : rv.1 < n) (hl : em_lnd dl rv.1 = lam) (hl2 : lam < 100000) (h : lam < 3 * w) (hw : w ≤ 20000) : em_MC Γ 3 mX0_makeRoom [.ref 12, .int (nI w)] (em_hm n m dl I J rv) none (em_hm (n + 1) (m + em_rm1 lam w) (va_up dl n (em_rm1 lam w)) (va_up I n (va_cpy (I rv.1) (fun _ => 0) 0 0 lam)) J (n, rv.2)) := by
  have hge : 3 * w ≤ em_rm1 lam w := Nat.le_max_right _ _
  have hle : em_rm1 lam w ≤ 60000 := Nat.max_le.mpr ⟨Nat.min_le_right _ _, by omega⟩
  refine em_MC_of (Nat.le_succ _) (Nat.le_add_right _ _) (by decide +kernel) rfl (Nat.le_of_ble_eq_true rfl) ?_
  (repeat (refine em_pure hB kX0_makeRoom rfl ?_))
  refine em_alen kX0_makeRoom rfl (Or.inl (em_rl9 hL)) hLn ?_
  refine em_branch kX0_makeRoom rfl (fun h1 => absurd h1 (show ¬ nI w * 3 ≤ nI (em_lnd dl rv.1) by rw [hl, em_w3']; exact nI_ge h (by omega))) (fun _ => ?_)
  (repeat (refine em_pure hB kX0_makeRoom rfl ?_))
  refine em_alen kX0_makeRoom rfl (Or.inl (em_rl9 hL)) hLn ?_
  (repeat (refine em_pure hB kX0_makeRoom rfl ?_))
  refine em_mmin (x := 2 * nI (em_lnd dl rv.1)) (y := 60000) kX0_makeRoom rfl lN0 rfl (by decide) (Nat.le_of_ble_eq_true rfl) (Nat.le_succ _) (Nat.le_add_right _ _) ?_
  (repeat (refine em_pure hB kX0_makeRoom rfl ?_))
  refine em_mmax (y := nI w * 3) kX0_makeRoom rfl lM0 rfl (by decide) (Nat.le_of_ble_eq_true rfl) (Nat.le_succ _) (Nat.le_add_right _ _) ?_
  have e2 : (2 : Int32) * nI (em_lnd dl rv.1) = nI (2 * lam) := by rw [hl, show (2 : Int32) = nI 2 from rfl, pk_mul]
  have e3 : (if (60000 : Int32) < 2 * nI (em_lnd dl rv.1) then 60000 else 2 * nI (em_lnd dl rv.1)) = nI (min (2 * lam) 60000) := by
    rw [e2]
    by_cases hq : 60000 < 2 * lam
    · rw [if_pos (show (60000 : Int32) < nI (2 * lam) from nI_lt (a := 60000) hq (by omega)), Nat.min_eq_right (by omega)]; rfl
    · rw [if_neg (show ¬ (60000 : Int32) < nI (2 * lam) from nI_nlt (a := 60000) (b := 2 * lam) (by omega) (by omega)), Nat.min_eq_left (by omega)]
  have e4 : (if (if (60000 : Int32) < 2 * nI (em_lnd dl rv.1) then 60000 else 2 * nI (em_lnd dl rv.1)) < nI w * 3 then nI w * 3 else (if (60000 : Int32) < 2 * nI (em_lnd dl rv.1) then 60000 else 2 * nI (em_lnd dl rv.1))) = nI (em_rm1 lam w) := by
    rw [e3, em_w3', em_rm1]
    by_cases hq : min (2 * lam) 60000 < 3 * w
    · rw [if_pos (nI_lt hq (by omega)), Nat.max_eq_right (by omega)]
    · rw [if_neg (nI_nlt (by omega) (by omega)), Nat.max_eq_left (by omega)]
  rw [e4]
  refine em_callS (μ' := mJ7_copyOf_59c91) kX0_makeRoom rfl lX0_52 tJ7_copyOf_59c91 (s_copyOf Γ hB (em_rl9 hL) hLn hl (show lam < em_rm1 lam w by omega) (by omega)) rfl rfl (by decide) (Nat.le_of_ble_eq_true rfl) (Nat.le_refl _) (Nat.le_refl _) ?_
  refine em_putR (c := 0) (j := 2) kX0_makeRoom rfl rfl (by decide) (show 12 < n + 1 by omega) rfl (Or.inl rfl) (Or.inr ⟨_, rfl⟩) ?_
  refine em_hpE (hp' := em_hm (n + 1) (m + em_rm1 lam w) (va_up dl n (em_rm1 lam w)) (va_up I n (va_cpy (I rv.1) (fun _ => 0) 0 0 lam)) J (n, rv.2)) ?_ ?_
  · show (_, _, _, _, va_up (em_RR rv) 12 (va_up (em_RR rv 12) 2 (some n))) = (_, _, _, _, em_RR (n, rv.2))
    rw [em_RR_1]
  · refine em_vret kX0_makeRoom rfl rfl rfl
end Book
