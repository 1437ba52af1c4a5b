/-! THE REFERENCE'S BOOK -/
theorem em_till_eq {I I' : Nat → Nat → Int32} (h60 : I' 60 = I 60) (h61 : I' 61 = I 61) (h62 : I' 62 = I 62) (b q : Int32) : ∀ G, em_till I' b q G = em_till I b q G
  | 0 => rfl
  | i + 1 => by rw [em_till, em_till, h60, h61, h62, em_till_eq h60 h61 h62 b q i]
theorem em_meat_eq {I I' : Nat → Nat → Int32} (h54 : I' 54 = I 54) (h56 : I' 56 = I 56) (h57 : I' 57 = I 57) (h58 : I' 58 = I 58) (h60 : I' 60 = I 60) (h61 : I' 61 = I 61) (h62 : I' 62 = I 62) (G : Nat) (d q : Int32) (N : Nat) : em_meat I' G d q N = em_meat I G d q N := by
  show bx_sum _ N = bx_sum _ N
  congr 1
  funext b
  simp only [em_msd, h54, h56, h57, h58, em_till_eq h60 h61 h62]
theorem s_longer (Γ : em_Cx) {n m : Nat} {dl : Nat → Nat} {I : Nat → Nat → Int32} {J : Nat → Nat → Int64} {rv : em_Rv} (hB : 85 ≤ n) {L lam : Nat} (hL : em_k L = 9) (hLn : L < n) (hl : em_lnd dl L = lam) (h2 : 2 * lam < 100000) : em_MC Γ 0 mX8_longer [.ref L] (em_hm n m dl I J rv) (some (.ref n)) (em_hm (n + 1) (m + 2 * lam) (va_up dl n (2 * lam)) (va_up I n (va_cpy (I L) (fun _ => 0) 0 0 lam)) J rv) := by
  refine em_MC_of (Nat.le_succ _) (Nat.le_add_right _ _) (by decide +kernel) rfl (Nat.le_of_ble_eq_true rfl) ?_
  (repeat (refine em_pure (Nat.zero_le _) kX8_longer rfl ?_))
  refine em_alen kX8_longer rfl (Or.inl hL) hLn ?_
  (repeat (refine em_pure (Nat.zero_le _) kX8_longer rfl ?_))
  refine em_newI (N := 2 * lam) hB kX8_longer rfl (show (2 : Int32) * nI (em_lnd dl L) = nI (2 * lam) by rw [hl, show (2 : Int32) = nI 2 from rfl, pk_mul]) h2 (Nat.le_refl _) (Nat.le_refl _) ?_
  have loop : ∀ d k, k + d = lam → em_EW Γ 0 mX8_longer (em_hm n m dl I J rv) (some (.ref n), em_hm (n + 1) (m + 2 * lam) (va_up dl n (2 * lam)) (va_up I n (va_cpy (I L) (fun _ => 0) 0 0 lam)) J rv) 9 [(0, .ref L), (1, .ref n), (2, .int (nI k))] [] (em_hm (n + 1) (m + 2 * lam) (va_up dl n (2 * lam)) (va_up I n (va_cpy (I L) (fun _ => 0) 0 0 k)) J rv) := by
    intro d
    induction d with
    | zero =>
      intro k hk
      obtain rfl : k = lam := by omega
      (repeat (refine em_pure (Nat.zero_le _) kX8_longer rfl ?_))
      refine em_alen kX8_longer rfl (Or.inl hL) (show L < n + 1 by omega) ?_
      refine em_branch kX8_longer rfl (fun _ => ?_) (fun h => absurd (show nI (em_lnd (va_up dl n (2 * k)) L) ≤ nI k by rw [em_lnd_up hLn, hl]; exact nI_le (Nat.le_refl _) (by omega)) h)
      (repeat (refine em_pure (Nat.zero_le _) kX8_longer rfl ?_))
      exact em_aret kX8_longer rfl rfl (Or.inr ⟨_, rfl⟩) (Or.inl ⟨_, rfl⟩) rfl
    | succ d ih =>
      intro k hk
      (repeat (refine em_pure (Nat.zero_le _) kX8_longer rfl ?_))
      refine em_alen kX8_longer rfl (Or.inl hL) (show L < n + 1 by omega) ?_
      refine em_branch kX8_longer rfl (fun h => absurd h (show ¬ nI (em_lnd (va_up dl n (2 * lam)) L) ≤ nI k by rw [em_lnd_up hLn, hl]; exact nI_ge (by omega) (by omega))) (fun _ => ?_)
      (repeat (refine em_pure (Nat.zero_le _) kX8_longer rfl ?_))
      refine em_iaD (j := k) (len := lam) kX8_longer rfl hL (show L < n + 1 by omega) ((em_lnd_up hLn).trans hl) rfl (by omega) (by omega) ?_
      refine em_iwD (j := k) (len := 2 * lam) kX8_longer rfl (em_k_dyn hB) (show n < n + 1 by omega) (em_lnd_n hB) rfl (by omega) h2 ?_
      refine em_hpE (hp' := em_hm (n + 1) (m + 2 * lam) (va_up dl n (2 * lam)) (va_up I n (va_cpy (I L) (fun _ => 0) 0 0 (k + 1))) J rv) ?_ ?_
      · show em_hm (n + 1) (m + 2 * lam) (va_up dl n (2 * lam)) (va_up (va_up I n (va_cpy (I L) (fun _ => 0) 0 0 k)) n (va_up (va_up I n (va_cpy (I L) (fun _ => 0) 0 0 k) n) k (va_up I n (va_cpy (I L) (fun _ => 0) 0 0 k) L k))) J rv = _
        rw [bx_uu, va_up_self, va_up_ne _ _ (show L ≠ n by omega)]
        have := em_cpyS (I L) (fun _ => (0 : Int32)) 0 k
        rw [Nat.zero_add] at this
        rw [this]
      (repeat (refine em_pureT 9 (Nat.zero_le _) kX8_longer rfl rfl ?_))
      refine em_loc (lc' := [(0, .ref L), (1, .ref n), (2, .int (nI k + 1))]) rfl ?_
      rw [nI_1]
      exact ih (k + 1) (by omega)
  (repeat (refine em_pureT 9 (Nat.zero_le _) kX8_longer rfl rfl ?_))
  refine em_loc (lc' := [(0, .ref L), (1, .ref n), (2, .int (nI 0))]) rfl ?_
  refine em_hpE ?_ (loop lam 0 (by omega))
  rw [em_cpy0]
section MBook
variable {Γ : em_Cx} {n m : Nat} {dl : Nat → Nat} {I : Nat → Nat → Int32} {J : Nat → Nat → Int64} {rv : em_Rv}
theorem s_mBooked (hB : 85 ≤ n) {x : Int32} : em_MC Γ 1 mX8_booked [.ref 53, .int x] (em_hm n m dl I J rv) (some (.int (if 0 ≤ x ∧ x ≤ 400 then I 63 x.toNatClampNeg else 0))) (em_hm n m dl I J rv) := by
  refine em_MC_of (Nat.le_refl _) (Nat.le_refl _) (by decide +kernel) rfl (Nat.le_of_ble_eq_true rfl) ?_
  (repeat (refine em_pure hB kX8_booked rfl ?_))
  refine em_callS (μ' := mX8_in) kX8_booked rfl lX8_112 tX8_in (s_in Γ _ x 0 400) rfl rfl (by decide) (Nat.le_of_ble_eq_true rfl) (Nat.le_refl _) (Nat.le_refl _) ?_
  refine em_bz kX8_booked rfl (fun h => ?_) (fun h => ?_)
  · obtain ⟨j, hj, rfl⟩ := nI_of2 (M := 400) (n := 400) rfl (Int32.not_lt.mpr h.1) h.2
    (repeat (refine em_pure hB kX8_booked rfl ?_))
    refine em_ia (L := 402) hB kX8_booked rfl rfl rfl rfl rfl (show j < 402 by omega) rfl ?_
    (repeat (refine em_pure hB kX8_booked rfl ?_))
    exact em_iret kX8_booked rfl rfl rfl (by rw [if_pos h, nI_clamp (by omega)])
  · (repeat (refine em_pure hB kX8_booked rfl ?_))
    exact em_iret kX8_booked rfl rfl rfl (by rw [if_neg h])
theorem s_mLine_no (hB : 85 ≤ n) {x w : Int32} (h : ¬ (0 ≤ x ∧ x ≤ I 53 3 - 1)) : em_MC Γ 1 mX8_line [.ref 53, .int x, .int w] (em_hm n m dl I J rv) (some (.int (-1000000))) (em_hm n m dl I J rv) := by
  refine em_MC_of (Nat.le_refl _) (Nat.le_refl _) (by decide +kernel) rfl (Nat.le_of_ble_eq_true rfl) ?_
  (repeat (refine em_pure hB kX8_line rfl ?_))
  refine em_callS (μ' := mX8_in) kX8_line rfl lX8_112 tX8_in (s_in Γ _ x 0 (I 53 3 - 1)) rfl rfl (by decide) (Nat.le_of_ble_eq_true rfl) (Nat.le_refl _) (Nat.le_refl _) ?_
  refine em_bn kX8_line rfl (fun h1 => absurd h1 h) (fun _ => ?_)
  (repeat (refine em_pure hB kX8_line rfl ?_))
  exact em_iret kX8_line rfl rfl rfl rfl
abbrev em_rk (k k0 : Nat) : Prop := k = k0 ∨ 85 ≤ k
theorem em_rk9 {k : Nat} (h : em_rk k 64 ∨ em_rk k 65 ∨ em_rk k 66) : em_k k = 9 := by
  rcases h with (rfl | h) | (rfl | h) | (rfl | h)
  · rfl
  · exact em_k_dyn h
  · rfl
  · exact em_k_dyn h
  · rfl
  · exact em_k_dyn h
def em_mLn (I : Nat → Nat → Int32) (rv : em_Rv) (i : Nat) (w : Int32) : Int32 := if w = 0 then I rv.2.1 i else if w = 1 then I rv.2.2.1 i else if w = 2 then I rv.2.2.2.1 i else -1000000
theorem s_mLine_ok (hB : 85 ≤ n) {i c lam : Nat} {w : Int32} (h1 : em_rk rv.2.1 64) (h2 : em_rk rv.2.2.1 65) (h3 : em_rk rv.2.2.2.1 66) (n1 : rv.2.1 < n) (n2 : rv.2.2.1 < n) (n3 : rv.2.2.2.1 < n) (l1 : em_lnd dl rv.2.1 = lam) (l2 : em_lnd dl rv.2.2.1 = lam) (l3 : em_lnd dl rv.2.2.2.1 = lam) (hl : lam < 100000) (hc : I 53 3 = nI c) (hc2 : c ≤ lam) (hi : i < c) : em_MC Γ 1 mX8_line [.ref 53, .int (nI i), .int w] (em_hm n m dl I J rv) (some (.int (em_mLn I rv i w))) (em_hm n m dl I J rv) := by
  refine em_MC_of (Nat.le_refl _) (Nat.le_refl _) (by decide +kernel) rfl (Nat.le_of_ble_eq_true rfl) ?_
  (repeat (refine em_pure hB kX8_line rfl ?_))
  refine em_callS (μ' := mX8_in) kX8_line rfl lX8_112 tX8_in (s_in Γ _ (nI i) 0 (I 53 3 - 1)) rfl rfl (by decide) (Nat.le_of_ble_eq_true rfl) (Nat.le_refl _) (Nat.le_refl _) ?_
  refine em_bn kX8_line rfl (fun _ => ?_) (fun h => absurd (em_inB hc (by omega) rfl hi) h)
  rw [em_mLn]
  (repeat (refine em_pure hB kX8_line rfl ?_))
  refine em_branch kX8_line rfl (fun (h : ¬ w = 0) => ?_) (fun (h : ¬ ¬ w = 0) => ?_)
  case refine_2 =>
    rw [if_pos (Decidable.not_not.mp h)]
    (repeat (refine em_pure hB kX8_line rfl ?_))
    refine em_iaD (j := i) kX8_line rfl (em_rk9 (Or.inl h1)) n1 l1 rfl (by omega) hl ?_
    (repeat (refine em_pure hB kX8_line rfl ?_))
    exact em_iret kX8_line rfl rfl rfl rfl
  rw [if_neg h]
  (repeat (refine em_pure hB kX8_line rfl ?_))
  refine em_branch kX8_line rfl (fun (h : ¬ w = 1) => ?_) (fun (h : ¬ ¬ w = 1) => ?_)
  case refine_2 =>
    rw [if_pos (Decidable.not_not.mp h)]
    (repeat (refine em_pure hB kX8_line rfl ?_))
    refine em_iaD (j := i) kX8_line rfl (em_rk9 (Or.inr (Or.inl h2))) n2 l2 rfl (by omega) hl ?_
    (repeat (refine em_pure hB kX8_line rfl ?_))
    exact em_iret kX8_line rfl rfl rfl rfl
  rw [if_neg h]
  (repeat (refine em_pure hB kX8_line rfl ?_))
  refine em_branch kX8_line rfl (fun (h : ¬ w = 2) => ?_) (fun (h : ¬ ¬ w = 2) => ?_)
  case refine_2 =>
    rw [if_pos (Decidable.not_not.mp h)]
    (repeat (refine em_pure hB kX8_line rfl ?_))
    refine em_iaD (j := i) kX8_line rfl (em_rk9 (Or.inr (Or.inr h3))) n3 l3 rfl (by omega) hl ?_
    (repeat (refine em_pure hB kX8_line rfl ?_))
    exact em_iret kX8_line rfl rfl rfl rfl
  rw [if_neg h]
  (repeat (refine em_pure hB kX8_line rfl ?_))
  exact em_iret kX8_line rfl rfl rfl rfl
abbrev em_mld (I : Nat → Nat → Int32) (N : Nat) : Int32 := bx_sum (fun b => if I 59 b = -1 then 0 else 1) N
def em_mCn (I : Nat → Nat → Int32) (G N : Nat) (x : Int32) : Int32 :=
  if x = 0 then I 53 0 else if x = 1 then I 53 1 else if x = 2 then em_mhn I G N else if x = 3 then I 53 3 else if x = 4 then bx_sum (I 63) 401 else if x = 5 then I 53 4 else if x = 6 then I 53 35 else if x = 7 then I 53 6 else if x = 8 then I 53 7 else if x = 9 then em_mld I N else -1
theorem s_mCount (hB : 85 ≤ n) {x : Int32} {N G : Nat} (hx : I 53 1 = nI N) (hN : N ≤ 40) (hg : I 53 2 = nI G) (hG : G ≤ 200) : em_MC Γ 2 mX8_count [.ref 53, .int x] (em_hm n m dl I J rv) (some (.int (em_mCn I G N x))) (em_hm n m dl I J rv) := by
  refine em_MC_of (Nat.le_refl _) (Nat.le_refl _) (by decide +kernel) rfl (Nat.le_of_ble_eq_true rfl) ?_
  have hdec : decode (em_c mX8_count) 66 = .ok (.tableswitch 98 0 9 #[54, 59, 64, 69, 74, 76, 81, 86, 91, 96], 54) := by decide +kernel
  have sw : em_EW Γ 2 mX8_count (em_hm n m dl I J rv) (some (.int (em_mCn I G N x)), em_hm n m dl I J rv) 66 [(0, .ref 53), (1, .int x), (2, .int (bx_sum (I 63) 401)), (3, .int (em_mld I N))] [.int x] (em_hm n m dl I J rv) := by
    by_cases hin : 0 ≤ x ∧ x ≤ 9
    case neg =>
      have e : em_mCn I G N x = -1 := by
        have hne : ∀ k : Nat, k ≤ 9 → ¬ x = nI k := fun k hk z => hin (by rw [z]; exact ⟨nI_pos' (by omega), nI_le (b := 9) hk (by omega)⟩)
        rw [em_mCn, if_neg (show ¬ x = 0 from hne 0 (by omega)), if_neg (show ¬ x = 1 from hne 1 (by omega)), if_neg (show ¬ x = 2 from hne 2 (by omega)), if_neg (show ¬ x = 3 from hne 3 (by omega)), if_neg (show ¬ x = 4 from hne 4 (by omega)), if_neg (show ¬ x = 5 from hne 5 (by omega)), if_neg (show ¬ x = 6 from hne 6 (by omega)), if_neg (show ¬ x = 7 from hne 7 (by omega)), if_neg (show ¬ x = 8 from hne 8 (by omega)), if_neg (show ¬ x = 9 from hne 9 (by omega))]
      rw [e]
      refine em_tsOut hdec ?_ rfl ?_
      · by_cases h0 : x < 0
        · exact Or.inl (Int32.lt_iff_toInt_lt.mp h0)
        · right
          have h9 : 9 < x := Int32.not_le.mp (fun z => hin ⟨Int32.not_lt.mp h0, z⟩)
          exact Int32.lt_iff_toInt_lt.mp h9
      · (repeat (refine em_pure hB kX8_count rfl ?_))
        exact em_iret kX8_count rfl rfl rfl rfl
    obtain ⟨k, hk, rfl⟩ := nI_of2 (M := 9) (n := 9) rfl (Int32.not_lt.mpr hin.1) hin.2
    rcases (show k = 0 ∨ k = 1 ∨ k = 2 ∨ k = 3 ∨ k = 4 ∨ k = 5 ∨ k = 6 ∨ k = 7 ∨ k = 8 ∨ k = 9 by omega) with rfl | rfl | rfl | rfl | rfl | rfl | rfl | rfl | rfl | rfl
    all_goals refine em_tsIn hdec (by decide) (by decide) rfl rfl ?_
    · (repeat (refine em_pure hB kX8_count rfl ?_))
      exact em_iret kX8_count rfl rfl rfl rfl
    · (repeat (refine em_pure hB kX8_count rfl ?_))
      exact em_iret kX8_count rfl rfl rfl rfl
    · (repeat (refine em_pure hB kX8_count rfl ?_))
      refine em_callV (μ' := mX8_hereNow) (c1 := 8) kX8_count rfl lX8_240 tX8_hereNow (by decide) rfl (em_ltB hB rfl) (s_mHereNow hB hx hN hg hG) rfl rfl (by decide) (Nat.le_of_ble_eq_true rfl) (Nat.le_refl _) (Nat.le_refl _) ?_
      exact em_iret kX8_count rfl rfl rfl rfl
    · (repeat (refine em_pure hB kX8_count rfl ?_))
      exact em_iret kX8_count rfl rfl rfl rfl
    · (repeat (refine em_pure hB kX8_count rfl ?_))
      exact em_iret kX8_count rfl rfl rfl rfl
    · (repeat (refine em_pure hB kX8_count rfl ?_))
      exact em_iret kX8_count rfl rfl rfl rfl
    · (repeat (refine em_pure hB kX8_count rfl ?_))
      exact em_iret kX8_count rfl rfl rfl rfl
    · (repeat (refine em_pure hB kX8_count rfl ?_))
      exact em_iret kX8_count rfl rfl rfl rfl
    · (repeat (refine em_pure hB kX8_count rfl ?_))
      exact em_iret kX8_count rfl rfl rfl rfl
    · (repeat (refine em_pure hB kX8_count rfl ?_))
      exact em_iret kX8_count rfl rfl rfl rfl
  have second : ∀ d b, b + d = N → em_EW Γ 2 mX8_count (em_hm n m dl I J rv) (some (.int (em_mCn I G N x)), em_hm n m dl I J rv) 31 [(0, .ref 53), (1, .int x), (2, .int (bx_sum (I 63) 401)), (3, .int (em_mld I b)), (4, .int (nI b))] [] (em_hm n m dl I J rv) := by
    intro d
    induction d with
    | zero =>
      intro b hb
      obtain rfl : b = N := by omega
      (repeat (refine em_pure hB kX8_count rfl ?_))
      refine em_branch kX8_count rfl (fun _ => ?_) (fun z => absurd (by show I 53 1 ≤ nI b; rw [hx]; exact nI_le (Nat.le_refl b) (by omega)) z)
      (repeat (refine em_pureT 66 hB kX8_count rfl rfl ?_))
      exact em_loc (lc' := [(0, .ref 53), (1, .int x), (2, .int (bx_sum (I 63) 401)), (3, .int (em_mld I b))]) rfl sw
    | succ d ih =>
      intro b hb
      have next : ∀ z, z = (if I 59 b = -1 then (0 : Int32) else 1) → em_EW Γ 2 mX8_count (em_hm n m dl I J rv) (some (.int (em_mCn I G N x)), em_hm n m dl I J rv) 57 [(0, .ref 53), (1, .int x), (2, .int (bx_sum (I 63) 401)), (3, .int (em_mld I b)), (4, .int (nI b))] [.int z, .int (em_mld I b)] (em_hm n m dl I J rv) := by
        intro z hz
        (repeat (refine em_pureT 31 hB kX8_count rfl rfl ?_))
        refine em_loc (lc' := [(0, .ref 53), (1, .int x), (2, .int (bx_sum (I 63) 401)), (3, .int (em_mld I b + z)), (4, .int (nI b + 1))]) rfl ?_
        rw [nI_1, hz]
        exact ih (b + 1) (by omega)
      (repeat (refine em_pure hB kX8_count rfl ?_))
      refine em_branch kX8_count rfl (fun z => absurd z (by show ¬ I 53 1 ≤ nI b; rw [hx]; exact nI_ge (by omega) (by omega))) (fun _ => ?_)
      (repeat (refine em_pure hB kX8_count rfl ?_))
      refine em_ia (L := 40) hB kX8_count rfl rfl rfl rfl rfl (show b < 40 by omega) rfl ?_
      (repeat (refine em_pure hB kX8_count rfl ?_))
      refine em_branch kX8_count rfl (fun (h : I 59 b = -1) => ?_) (fun (h : ¬ I 59 b = -1) => ?_)
      · (repeat (refine em_pureT 57 hB kX8_count rfl rfl ?_))
        exact next 0 (by rw [if_pos h])
      · (repeat (refine em_pureT 57 hB kX8_count rfl rfl ?_))
        exact next 1 (by rw [if_neg h])
  have first : ∀ e d, d + e = 401 → em_EW Γ 2 mX8_count (em_hm n m dl I J rv) (some (.int (em_mCn I G N x)), em_hm n m dl I J rv) 4 [(0, .ref 53), (1, .int x), (2, .int (bx_sum (I 63) d)), (3, .int (nI d))] [] (em_hm n m dl I J rv) := by
    intro e
    induction e with
    | zero =>
      intro d hd
      obtain rfl : d = 401 := by omega
      (repeat (refine em_pure hB kX8_count rfl ?_))
      refine em_branch kX8_count rfl (fun _ => ?_) (fun z => absurd (by decide) z)
      (repeat (refine em_pureT 31 hB kX8_count rfl rfl ?_))
      refine em_loc (lc' := [(0, .ref 53), (1, .int x), (2, .int (bx_sum (I 63) 401)), (3, .int 0), (4, .int (nI 0))]) rfl ?_
      exact second N 0 (by omega)
    | succ e ih =>
      intro d hd
      (repeat (refine em_pure hB kX8_count rfl ?_))
      refine em_branch kX8_count rfl (fun (z : (400 : Int32) < nI d) => absurd z (nI_nlt (a := 400) (by omega) (by omega))) (fun _ => ?_)
      (repeat (refine em_pure hB kX8_count rfl ?_))
      refine em_ia (L := 402) hB kX8_count rfl rfl rfl rfl rfl (show d < 402 by omega) rfl ?_
      (repeat (refine em_pureT 4 hB kX8_count rfl rfl ?_))
      refine em_loc (lc' := [(0, .ref 53), (1, .int x), (2, .int (bx_sum (I 63) d + I 63 d)), (3, .int (nI d + 1))]) rfl ?_
      rw [nI_1]
      exact ih (d + 1) (by omega)
  (repeat (refine em_pureT 4 hB kX8_count rfl rfl ?_))
  refine em_loc (lc' := [(0, .ref 53), (1, .int x), (2, .int 0), (3, .int (nI 0))]) rfl ?_
  exact first 401 0 (by omega)
end MBook
