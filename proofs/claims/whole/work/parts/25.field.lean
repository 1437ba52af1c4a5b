/-! THE FIELD -/
theorem em_hpE {Γ : em_Cx} {K : Nat} {μ : em_Me} {hp0 : em_Hp} {fin : Option Value × em_Hp} {pc : Nat} {lc : List (Nat × Value)} {st : List Value} {hp hp' : em_Hp} (e : hp = hp') (k : em_EW Γ K μ hp0 fin pc lc st hp') : em_EW Γ K μ hp0 fin pc lc st hp := e ▸ k
def em_nb1 (c d : Nat) : Option Nat := match d with
  | 0 => if 0 < c / 8 then some (c - 8) else none
  | 1 => if c / 8 < 7 then some (c + 8) else none
  | 2 => if 0 < c % 8 then some (c - 1) else none
  | _ => if c % 8 < 7 then some (c + 1) else none
def em_ob : Option Nat → Int32
  | none => -1
  | some o => nI o
theorem em_nb1_lt {c d o : Nat} (hc : c < 64) (h : em_nb1 c d = some o) : o < 64 := by
  unfold em_nb1 at h
  split at h <;> (split at h <;> first | (cases h; omega) | cases h)
/-- what cell c gives to the first d directions: the row behind it, and to how many -/
def em_sd (w : Nat → Int32) (v : Int64) (c : Nat) : Nat → (Nat → Int64) → (Nat → Int64) × Nat
  | 0, f => (f, 0)
  | d + 1, f => match em_nb1 c d with
    | none => em_sd w v c d f
    | some o => if w o = 0 then (va_up (em_sd w v c d f).1 o ((em_sd w v c d f).1 o + v), (em_sd w v c d f).2 + 1) else em_sd w v c d f
theorem em_sd_le (w : Nat → Int32) (v : Int64) (c : Nat) (f : Nat → Int64) : ∀ d, (em_sd w v c d f).2 ≤ d
  | 0 => Nat.le_refl _
  | d + 1 => by
    have ih := em_sd_le w v c f d
    unfold em_sd
    split
    · omega
    · split
      · show (em_sd w v c d f).2 + 1 ≤ d + 1; omega
      · omega
def em_sp (w : Nat → Int32) (v : Int64) (c : Nat) (f : Nat → Int64) : Nat → Int64 := va_up (em_sd w v c 4 f).1 c ((em_sd w v c 4 f).1 c + v * (nI (5 - (em_sd w v c 4 f).2)).toInt64)
def em_hr (w : Nat → Int32) (mb f : Nat → Int64) : Nat → Nat → Int64
  | 0 => f
  | c + 1 => em_sp w (mb c) c (em_hr w mb f c)
def em_sL (f : Nat → Int64) : Nat → Int64
  | 0 => 0
  | c + 1 => em_sL f c + f c
def em_mx (f : Nat → Int64) : Nat → Nat
  | 0 => 0
  | c + 1 => if f (em_mx f c) < f c then c else em_mx f c
theorem em_mx_lt (f : Nat → Int64) : ∀ c, em_mx f (c + 1) ≤ c
  | 0 => by simp [em_mx]
  | c + 1 => by
    have := em_mx_lt f c
    unfold em_mx
    split <;> omega
def em_gcd : Nat → Int64 → Int64 → Int64
  | 0, x, _ => x
  | s + 1, x, y => if y = 0 then x else em_gcd s y (x - x / y * y)
theorem s_fillJ (Γ : em_Cx) (hp : em_Hp) {k L : Nat} (v : Int64) (hk : em_k k = 10) (hn : k < em_n hp) (hL : em_ln hp k = L) (hb : L < 100000) : em_MC Γ 0 mJ7_fill_d0a16 [.ref k, .long v] hp none (em_sJ hp k (em_fil (em_J hp k) v L)) := by
  refine em_MC_of (Nat.le_refl _) (Nat.le_refl _) (by decide +kernel) rfl (Nat.le_of_ble_eq_true rfl) ?_
  (repeat (refine em_pure (Nat.zero_le _) kJ7_fill_d0a16 rfl ?_))
  refine em_alen kJ7_fill_d0a16 rfl (Or.inr (Or.inl hk)) hn ?_
  (repeat (refine em_pureT 6 (Nat.zero_le _) kJ7_fill_d0a16 rfl rfl ?_))
  rw [hL]
  have loop : ∀ d j, j + d = L → em_EW Γ 0 mJ7_fill_d0a16 hp (none, em_sJ hp k (em_fil (em_J hp k) v L)) 6 [(0, .ref k), (1, .long v), (3, .int (nI j)), (4, .int (nI L))] [] (em_sJ hp k (em_fil (em_J hp k) v j)) := by
    intro d
    induction d with
    | zero =>
      intro j hj
      obtain rfl : j = L := by omega
      (repeat (refine em_pure (Nat.zero_le _) kJ7_fill_d0a16 rfl ?_))
      refine em_branch kJ7_fill_d0a16 rfl (fun _ => ?_) (fun h1 => absurd (nI_le (Nat.le_refl j) (by omega)) h1)
      (repeat (refine em_pure (Nat.zero_le _) kJ7_fill_d0a16 rfl ?_))
      exact em_vret kJ7_fill_d0a16 rfl rfl rfl
    | succ d ih =>
      intro j hj
      (repeat (refine em_pure (Nat.zero_le _) kJ7_fill_d0a16 rfl ?_))
      refine em_branch kJ7_fill_d0a16 rfl (fun h1 => absurd h1 (nI_ge (by omega) (by omega))) (fun _ => ?_)
      (repeat (refine em_pure (Nat.zero_le _) kJ7_fill_d0a16 rfl ?_))
      refine em_last kJ7_fill_d0a16 rfl hk hn (by show vp_in (nI j) (em_ln hp k); rw [hL]; exact vp_in_nI (by omega) (by omega)) ?_
      rw [nI_clamp (by omega), em_sJ2, em_J1, em_fil_s]
      (repeat (refine em_pureT 6 (Nat.zero_le _) kJ7_fill_d0a16 rfl rfl ?_))
      refine em_loc (lc' := [(0, .ref k), (1, .long v), (3, .int (nI j + 1)), (4, .int (nI L))]) rfl ?_
      rw [nI_1]
      exact ih (j + 1) (by omega)
  refine em_loc (lc' := [(0, .ref k), (1, .long v), (3, .int (nI 0)), (4, .int (nI L))]) rfl ?_
  have h0 := loop L 0 (by omega)
  rw [em_fil_0, em_sJ_id] at h0
  exact h0
theorem s_commonDivisor (Γ : em_Cx) (hp : em_Hp) (x y : Int64) : em_MC Γ 0 mX2_commonDivisor [.long x, .long y] hp (some (.long (em_gcd 128 x y))) hp := by
  refine em_MC_of (Nat.le_refl _) (Nat.le_refl _) (by decide +kernel) rfl (Nat.le_of_ble_eq_true rfl) ?_
  have loop : ∀ e j a b, j + e = 128 → em_EW Γ 0 mX2_commonDivisor hp (some (.long (em_gcd e a b)), hp) 9 [(4, .long a), (6, .long b), (8, .int (nI j))] [] hp := by
    intro e
    induction e with
    | zero =>
      intro j a b hj
      obtain rfl : j = 128 := by omega
      (repeat (refine em_pure (Nat.zero_le _) kX2_commonDivisor rfl ?_))
      refine em_branch kX2_commonDivisor rfl (fun _ => ?_) (fun h1 => absurd (by decide) h1)
      (repeat (refine em_pure (Nat.zero_le _) kX2_commonDivisor rfl ?_))
      exact em_lret kX2_commonDivisor rfl rfl rfl
    | succ e ih =>
      intro j a b hj
      (repeat (refine em_pure (Nat.zero_le _) kX2_commonDivisor rfl ?_))
      refine em_branch kX2_commonDivisor rfl (fun (h1 : (128 : Int32) ≤ nI j) => absurd h1 (nI_ge (b := 128) (by omega) (by omega))) (fun _ => ?_)
      (repeat (refine em_pure (Nat.zero_le _) kX2_commonDivisor rfl ?_))
      refine em_branch kX2_commonDivisor rfl (fun h2 => ?_) (fun h2 => ?_)
      · have h3 : b = 0 := (lg_cmp_eq _ _).mp h2
        (repeat (refine em_pure (Nat.zero_le _) kX2_commonDivisor rfl ?_))
        refine em_lret kX2_commonDivisor rfl rfl ?_
        rw [em_gcd, if_pos h3]
      · have h3 : ¬ b = 0 := fun z => h2 ((lg_cmp_eq _ _).mpr z)
        (repeat (refine em_pure (Nat.zero_le _) kX2_commonDivisor rfl ?_))
        refine em_lrem kX2_commonDivisor rfl h3 ?_
        (repeat (refine em_pureT 9 (Nat.zero_le _) kX2_commonDivisor rfl rfl ?_))
        refine em_loc (lc' := [(4, .long b), (6, .long (a - a / b * b)), (8, .int (nI j + 1))]) rfl ?_
        rw [em_gcd, if_neg h3, nI_1]
        exact ih (j + 1) _ _ (by omega)
  (repeat (refine em_pureT 9 (Nat.zero_le _) kX2_commonDivisor rfl rfl ?_))
  refine em_loc (lc' := [(4, .long x), (6, .long y), (8, .int (nI 0))]) rfl ?_
  exact loop 128 0 x y (by omega)
theorem s_beside (Γ : em_Cx) (hp : em_Hp) {c d : Nat} (hc : c < 64) (hd : d < 4) : em_MC Γ 0 mX2_beside [.int (nI c), .int (nI d)] hp (some (.int (em_ob (em_nb1 c d)))) hp := by
  refine em_MC_of (Nat.le_refl _) (Nat.le_refl _) (by decide +kernel) rfl (Nat.le_of_ble_eq_true rfl) ?_
  have e1 : nI c / 8 = nI (c / 8) := pk_div (d := 8) (by omega) (by omega) (by omega)
  have e2 : nI c - nI c / 8 * 8 = nI (c % 8) := pk_rem (d := 8) (by omega) (by omega) (by omega)
  (repeat (refine em_pure (Nat.zero_le _) kX2_beside rfl ?_))
  refine em_idiv kX2_beside rfl (by decide) ?_
  rw [e1]
  (repeat (refine em_pure (Nat.zero_le _) kX2_beside rfl ?_))
  refine em_irem kX2_beside rfl (by decide) ?_
  rw [e2]
  (repeat (refine em_pure (Nat.zero_le _) kX2_beside rfl ?_))
  have hdec : decode (em_c mX2_beside) 11 = .ok (.tableswitch 65 0 2 #[25, 38, 53], 25) := by decide +kernel
  rcases (show d = 0 ∨ d = 1 ∨ d = 2 ∨ d = 3 by omega) with rfl | rfl | rfl | rfl
  · refine em_tsIn hdec (by decide) (by decide) rfl rfl ?_
    (repeat (refine em_pure (Nat.zero_le _) kX2_beside rfl ?_))
    refine em_branch kX2_beside rfl (fun (h : nI (c / 8) ≤ 0) => ?_) (fun (h : ¬ nI (c / 8) ≤ 0) => ?_)
    · (repeat (refine em_pure (Nat.zero_le _) kX2_beside rfl ?_))
      have h0 : ¬ 0 < c / 8 := fun z => nI_nle z (by omega) h
      exact em_iret kX2_beside rfl rfl rfl (by simp [em_nb1, h0, em_ob])
    · (repeat (refine em_pure (Nat.zero_le _) kX2_beside rfl ?_))
      have h0 : 0 < c / 8 := by
        rcases Nat.eq_zero_or_pos (c / 8) with z | z
        · rw [z] at h; exact absurd (by decide) h
        · exact z
      have e3 : nI c - 8 = nI (c - 8) := pk_sub (b := 8) (by omega)
      refine em_iret kX2_beside rfl rfl rfl ?_
      show (some (Value.int (em_ob (em_nb1 c 0))), hp) = (some (Value.int (nI c - 8)), hp)
      rw [e3]
      simp [em_nb1, h0, em_ob]
  · refine em_tsIn hdec (by decide) (by decide) rfl rfl ?_
    (repeat (refine em_pure (Nat.zero_le _) kX2_beside rfl ?_))
    refine em_branch kX2_beside rfl (fun (h : (7 : Int32) ≤ nI (c / 8)) => ?_) (fun (h : ¬ (7 : Int32) ≤ nI (c / 8)) => ?_)
    · (repeat (refine em_pure (Nat.zero_le _) kX2_beside rfl ?_))
      have h0 : ¬ c / 8 < 7 := fun z => nI_ge (b := 7) z (by omega) h
      exact em_iret kX2_beside rfl rfl rfl (by simp [em_nb1, h0, em_ob])
    · (repeat (refine em_pure (Nat.zero_le _) kX2_beside rfl ?_))
      have h0 : c / 8 < 7 := Nat.not_le.mp fun z => h (nI_le (a := 7) z (by omega))
      have e3 : nI c + 8 = nI (c + 8) := nI_add c 8
      refine em_iret kX2_beside rfl rfl rfl ?_
      show (some (Value.int (em_ob (em_nb1 c 1))), hp) = (some (Value.int (nI c + 8)), hp)
      rw [e3]
      simp [em_nb1, h0, em_ob]
  · refine em_tsIn hdec (by decide) (by decide) rfl rfl ?_
    (repeat (refine em_pure (Nat.zero_le _) kX2_beside rfl ?_))
    refine em_branch kX2_beside rfl (fun (h : nI (c % 8) ≤ 0) => ?_) (fun (h : ¬ nI (c % 8) ≤ 0) => ?_)
    · (repeat (refine em_pure (Nat.zero_le _) kX2_beside rfl ?_))
      have h0 : ¬ 0 < c % 8 := fun z => nI_nle z (by omega) h
      exact em_iret kX2_beside rfl rfl rfl (by simp [em_nb1, h0, em_ob])
    · (repeat (refine em_pure (Nat.zero_le _) kX2_beside rfl ?_))
      have h0 : 0 < c % 8 := by
        rcases Nat.eq_zero_or_pos (c % 8) with z | z
        · rw [z] at h; exact absurd (by decide) h
        · exact z
      have e3 : nI c - 1 = nI (c - 1) := pk_sub (b := 1) (by omega)
      refine em_iret kX2_beside rfl rfl rfl ?_
      show (some (Value.int (em_ob (em_nb1 c 2))), hp) = (some (Value.int (nI c - 1)), hp)
      rw [e3]
      simp [em_nb1, h0, em_ob]
  · refine em_tsOut hdec (Or.inr (by decide)) rfl ?_
    (repeat (refine em_pure (Nat.zero_le _) kX2_beside rfl ?_))
    refine em_branch kX2_beside rfl (fun (h : (7 : Int32) ≤ nI (c % 8)) => ?_) (fun (h : ¬ (7 : Int32) ≤ nI (c % 8)) => ?_)
    · (repeat (refine em_pure (Nat.zero_le _) kX2_beside rfl ?_))
      have h0 : ¬ c % 8 < 7 := fun z => nI_ge (b := 7) z (by omega) h
      exact em_iret kX2_beside rfl rfl rfl (by simp [em_nb1, h0, em_ob])
    · (repeat (refine em_pure (Nat.zero_le _) kX2_beside rfl ?_))
      have h0 : c % 8 < 7 := Nat.not_le.mp fun z => h (nI_le (a := 7) z (by omega))
      refine em_iret kX2_beside rfl rfl rfl ?_
      show (some (Value.int (em_ob (em_nb1 c 3))), hp) = (some (Value.int (nI c + 1)), hp)
      rw [nI_1]
      simp [em_nb1, h0, em_ob]
theorem s_isCell (Γ : em_Cx) (hp : em_Hp) (x : Int32) : em_MC Γ 1 mX2_isCell [.int x] hp (some (.int (if 0 ≤ x ∧ x ≤ 63 then 1 else 0))) hp := by
  refine em_MC_of (Nat.le_refl _) (Nat.le_refl _) (by decide +kernel) rfl (Nat.le_of_ble_eq_true rfl) ?_
  (repeat (refine em_pure (Nat.zero_le _) kX2_isCell rfl ?_))
  refine em_callS (μ' := mX7_within) kX2_isCell rfl lX2_58 tX7_within (s_within Γ hp x 0 63) rfl rfl (by decide) (Nat.le_of_ble_eq_true rfl) (Nat.le_refl _) (Nat.le_refl _) ?_
  (repeat (refine em_pure (Nat.zero_le _) kX2_isCell rfl ?_))
  exact em_iret kX2_isCell rfl rfl em_nb rfl
theorem em_inC {x : Int32} (h : 0 ≤ x ∧ x ≤ 63) : ∃ j, j < 64 ∧ x = nI j := by
  obtain ⟨j, hj, e⟩ := nI_of2 (M := 63) (n := 63) rfl (Int32.not_lt.mpr h.1) h.2
  exact ⟨j, by omega, e⟩
section Field
variable {Γ : em_Cx} {n m : Nat} {dl : Nat → Nat} {I : Nat → Nat → Int32} {J : Nat → Nat → Int64} {rv : em_Rv}
theorem s_beastAway (hB : 85 ≤ n) : em_MC Γ 0 mX2_beastAway [.ref 49] (em_hm n m dl I J rv) (some (.int (I 49 3))) (em_hm n m dl I J rv) := by
  refine em_MC_of (Nat.le_refl _) (Nat.le_refl _) (by decide +kernel) rfl (Nat.le_of_ble_eq_true rfl) ?_
  (repeat (refine em_pure hB kX2_beastAway rfl ?_))
  exact em_iret kX2_beastAway rfl rfl rfl rfl
theorem s_hoursGone (hB : 85 ≤ n) : em_MC Γ 0 mX2_hoursGone [.ref 49] (em_hm n m dl I J rv) (some (.int (I 49 4))) (em_hm n m dl I J rv) := by
  refine em_MC_of (Nat.le_refl _) (Nat.le_refl _) (by decide +kernel) rfl (Nat.le_of_ble_eq_true rfl) ?_
  (repeat (refine em_pure hB kX2_hoursGone rfl ?_))
  exact em_iret kX2_hoursGone rfl rfl rfl rfl
theorem s_isOpen (hB : 85 ≤ n) (x : Int32) : em_MC Γ 2 mX2_isOpen [.ref 49, .int x] (em_hm n m dl I J rv) (some (.int (if ¬ I 49 3 = -1 ∧ (0 ≤ x ∧ x ≤ 63) then 1 else 0))) (em_hm n m dl I J rv) := by
  refine em_MC_of (Nat.le_refl _) (Nat.le_refl _) (by decide +kernel) rfl (Nat.le_of_ble_eq_true rfl) ?_
  (repeat (refine em_pure hB kX2_isOpen rfl ?_))
  refine em_branch kX2_isOpen rfl (fun (h : I 49 3 = -1) => ?_) (fun (h : ¬ I 49 3 = -1) => ?_)
  · (repeat (refine em_pure hB kX2_isOpen rfl ?_))
    exact em_iret kX2_isOpen rfl rfl rfl (by rw [if_neg (fun z => z.1 h)])
  · (repeat (refine em_pure hB kX2_isOpen rfl ?_))
    refine em_callS (μ' := mX2_isCell) kX2_isOpen rfl lX2_29 tX2_isCell (s_isCell Γ _ x) rfl rfl (by decide) (Nat.le_of_ble_eq_true rfl) (Nat.le_refl _) (Nat.le_refl _) ?_
    refine em_bz kX2_isOpen rfl (fun h2 => ?_) (fun h2 => ?_)
    · (repeat (refine em_pure hB kX2_isOpen rfl ?_))
      exact em_iret kX2_isOpen rfl rfl rfl (by rw [if_pos ⟨h, h2⟩])
    · (repeat (refine em_pure hB kX2_isOpen rfl ?_))
      exact em_iret kX2_isOpen rfl rfl rfl (by rw [if_neg (fun z => h2 z.2)])
theorem s_setWall_no (hB : 85 ≤ n) {x v : Int32} (h : ¬ (I 49 3 = -1 ∧ (0 ≤ x ∧ x ≤ 63) ∧ ¬ I 50 x.toNatClampNeg = v)) : em_MC Γ 2 mX2_setWall [.ref 49, .int x, .int v] (em_hm n m dl I J rv) (some (.int 0)) (em_hm n m dl I J rv) := by
  refine em_MC_of (Nat.le_refl _) (Nat.le_refl _) (by decide +kernel) rfl (Nat.le_of_ble_eq_true rfl) ?_
  (repeat (refine em_pure hB kX2_setWall rfl ?_))
  refine em_branch kX2_setWall rfl (fun (h1 : ¬ I 49 3 = -1) => ?_) (fun (h1 : ¬ ¬ I 49 3 = -1) => ?_)
  · (repeat (refine em_pure hB kX2_setWall rfl ?_))
    exact em_iret kX2_setWall rfl rfl rfl rfl
  · (repeat (refine em_pure hB kX2_setWall rfl ?_))
    refine em_callS (μ' := mX2_isCell) kX2_setWall rfl lX2_29 tX2_isCell (s_isCell Γ _ x) rfl rfl (by decide) (Nat.le_of_ble_eq_true rfl) (Nat.le_refl _) (Nat.le_refl _) ?_
    refine em_bz kX2_setWall rfl (fun h2 => ?_) (fun h2 => ?_)
    · (repeat (refine em_pure hB kX2_setWall rfl ?_))
      obtain ⟨j, hj, rfl⟩ := em_inC h2
      refine em_za (L := 64) hB kX2_setWall rfl rfl rfl rfl rfl hj rfl ?_
      (repeat (refine em_pure hB kX2_setWall rfl ?_))
      refine em_branch kX2_setWall rfl (fun (h3 : ¬ I 50 j = v) => ?_) (fun _ => ?_)
      · exact absurd ⟨Decidable.not_not.mp h1, h2, by rw [nI_clamp (by omega)]; exact h3⟩ h
      · (repeat (refine em_pure hB kX2_setWall rfl ?_))
        exact em_iret kX2_setWall rfl rfl rfl rfl
    · (repeat (refine em_pure hB kX2_setWall rfl ?_))
      exact em_iret kX2_setWall rfl rfl rfl rfl
theorem s_setWall_ok (hB : 85 ≤ n) {x v : Int32} {j : Nat} (h1 : I 49 3 = -1) (hj : j < 64) (hx : x = nI j) (h3 : ¬ I 50 j = v) (hv : v = 0 ∨ v = 1) : em_MC Γ 2 mX2_setWall [.ref 49, .int x, .int v] (em_hm n m dl I J rv) (some (.int 1)) (em_sI (em_hm n m dl I J rv) 50 (va_up (I 50) j v)) := by
  refine em_MC_of (Nat.le_refl _) (Nat.le_refl _) (by decide +kernel) rfl (Nat.le_of_ble_eq_true rfl) ?_
  (repeat (refine em_pure hB kX2_setWall rfl ?_))
  refine em_branch kX2_setWall rfl (fun (h : ¬ I 49 3 = -1) => absurd h1 h) (fun _ => ?_)
  (repeat (refine em_pure hB kX2_setWall rfl ?_))
  refine em_callS (μ' := mX2_isCell) kX2_setWall rfl lX2_29 tX2_isCell (s_isCell Γ _ x) rfl rfl (by decide) (Nat.le_of_ble_eq_true rfl) (Nat.le_refl _) (Nat.le_refl _) ?_
  refine em_bz kX2_setWall rfl (fun _ => ?_) (fun h2 => absurd (by rw [hx]; exact ⟨nI_pos' (by omega), nI_le (b := 63) (by omega) (by omega)⟩) h2)
  (repeat (refine em_pure hB kX2_setWall rfl ?_))
  refine em_za (L := 64) hB kX2_setWall rfl rfl rfl rfl hx hj rfl ?_
  (repeat (refine em_pure hB kX2_setWall rfl ?_))
  refine em_branch kX2_setWall rfl (fun _ => ?_) (fun h => absurd h3 h)
  (repeat (refine em_pure hB kX2_setWall rfl ?_))
  refine em_zw (L := 64) hB kX2_setWall rfl rfl rfl rfl hx hj rfl hv ?_
  (repeat (refine em_pure hB kX2_setWall rfl ?_))
  exact em_iret kX2_setWall rfl rfl rfl rfl
theorem s_lose_no (hB : 85 ≤ n) {b x : Int32} (h : ¬ (I 49 3 = -1 ∧ (0 ≤ x ∧ x ≤ 63) ∧ I 50 x.toNatClampNeg = 0)) : em_MC Γ 2 mX2_lose [.ref 49, .int b, .int x] (em_hm n m dl I J rv) (some (.int 0)) (em_hm n m dl I J rv) := by
  refine em_MC_of (Nat.le_refl _) (Nat.le_refl _) (by decide +kernel) rfl (Nat.le_of_ble_eq_true rfl) ?_
  (repeat (refine em_pure hB kX2_lose rfl ?_))
  refine em_branch kX2_lose rfl (fun (h1 : ¬ I 49 3 = -1) => ?_) (fun (h1 : ¬ ¬ I 49 3 = -1) => ?_)
  · (repeat (refine em_pure hB kX2_lose rfl ?_))
    exact em_iret kX2_lose rfl rfl rfl rfl
  · (repeat (refine em_pure hB kX2_lose rfl ?_))
    refine em_callS (μ' := mX2_isCell) kX2_lose rfl lX2_29 tX2_isCell (s_isCell Γ _ x) rfl rfl (by decide) (Nat.le_of_ble_eq_true rfl) (Nat.le_refl _) (Nat.le_refl _) ?_
    refine em_bz kX2_lose rfl (fun h2 => ?_) (fun h2 => ?_)
    · (repeat (refine em_pure hB kX2_lose rfl ?_))
      obtain ⟨j, hj, rfl⟩ := em_inC h2
      refine em_za (L := 64) hB kX2_lose rfl rfl rfl rfl rfl hj rfl ?_
      (repeat (refine em_pure hB kX2_lose rfl ?_))
      refine em_branch kX2_lose rfl (fun (h3 : I 50 j = 0) => ?_) (fun _ => ?_)
      · exact absurd ⟨Decidable.not_not.mp h1, h2, by rw [nI_clamp (by omega)]; exact h3⟩ h
      · (repeat (refine em_pure hB kX2_lose rfl ?_))
        exact em_iret kX2_lose rfl rfl rfl rfl
    · (repeat (refine em_pure hB kX2_lose rfl ?_))
      exact em_iret kX2_lose rfl rfl rfl rfl
theorem s_lose_ok (hB : 85 ≤ n) {b x : Int32} {j : Nat} (h1 : I 49 3 = -1) (hj : j < 64) (hx : x = nI j) (h3 : I 50 j = 0) : em_MC Γ 2 mX2_lose [.ref 49, .int b, .int x] (em_hm n m dl I J rv) (some (.int 1)) (em_hm n m dl (va_up I 49 (va_up (va_up (I 49) 3 b) 4 0)) (va_up J 51 (va_up (em_fil (J 51) 0 64) j 1)) rv) := by
  refine em_MC_of (Nat.le_refl _) (Nat.le_refl _) (by decide +kernel) rfl (Nat.le_of_ble_eq_true rfl) ?_
  (repeat (refine em_pure hB kX2_lose rfl ?_))
  refine em_branch kX2_lose rfl (fun (h : ¬ I 49 3 = -1) => absurd h1 h) (fun _ => ?_)
  (repeat (refine em_pure hB kX2_lose rfl ?_))
  refine em_callS (μ' := mX2_isCell) kX2_lose rfl lX2_29 tX2_isCell (s_isCell Γ _ x) rfl rfl (by decide) (Nat.le_of_ble_eq_true rfl) (Nat.le_refl _) (Nat.le_refl _) ?_
  refine em_bz kX2_lose rfl (fun _ => ?_) (fun h2 => absurd (by rw [hx]; exact ⟨nI_pos' (by omega), nI_le (b := 63) (by omega) (by omega)⟩) h2)
  (repeat (refine em_pure hB kX2_lose rfl ?_))
  refine em_za (L := 64) hB kX2_lose rfl rfl rfl rfl hx hj rfl ?_
  (repeat (refine em_pure hB kX2_lose rfl ?_))
  refine em_branch kX2_lose rfl (fun _ => ?_) (fun h => absurd h3 h)
  (repeat (refine em_pure hB kX2_lose rfl ?_))
  refine em_pi hB kX2_lose rfl rfl rfl rfl rfl rfl rfl ?_
  (repeat (refine em_pure hB kX2_lose rfl ?_))
  refine em_pi hB kX2_lose rfl rfl rfl rfl rfl rfl rfl ?_
  rw [em_sI2, em_I1]
  (repeat (refine em_pure hB kX2_lose rfl ?_))
  refine em_callS (μ' := mJ7_fill_d0a16) kX2_lose rfl lX2_33 tJ7_fill_d0a16 (s_fillJ Γ _ 0 (L := 64) (k := 51) rfl (em_ltB hB rfl) rfl (by decide)) rfl rfl (by decide) (Nat.le_of_ble_eq_true rfl) (Nat.le_refl _) (Nat.le_refl _) ?_
  (repeat (refine em_pure hB kX2_lose rfl ?_))
  refine em_jw (L := 64) hB kX2_lose rfl rfl rfl rfl hx hj rfl ?_
  rw [em_sJ2, em_J1]
  (repeat (refine em_pure hB kX2_lose rfl ?_))
  exact em_iret kX2_lose rfl rfl rfl rfl
theorem s_allMaybes (hB : 85 ≤ n) : em_MC Γ 0 mX2_allMaybes [.ref 49] (em_hm n m dl I J rv) (some (.long (em_sL (J 51) 64))) (em_hm n m dl I J rv) := by
  refine em_MC_of (Nat.le_refl _) (Nat.le_refl _) (by decide +kernel) rfl (Nat.le_of_ble_eq_true rfl) ?_
  have loop : ∀ e j, j + e = 64 → em_EW Γ 0 mX2_allMaybes (em_hm n m dl I J rv) (some (.long (em_sL (J 51) 64)), em_hm n m dl I J rv) 4 [(0, .ref 49), (1, .long (em_sL (J 51) j)), (3, .int (nI j))] [] (em_hm n m dl I J rv) := by
    intro e
    induction e with
    | zero =>
      intro j hj
      obtain rfl : j = 64 := by omega
      (repeat (refine em_pure hB kX2_allMaybes rfl ?_))
      refine em_branch kX2_allMaybes rfl (fun _ => ?_) (fun h1 => absurd (by decide) h1)
      (repeat (refine em_pure hB kX2_allMaybes rfl ?_))
      exact em_lret kX2_allMaybes rfl rfl rfl
    | succ e ih =>
      intro j hj
      (repeat (refine em_pure hB kX2_allMaybes rfl ?_))
      refine em_branch kX2_allMaybes rfl (fun (h1 : (64 : Int32) ≤ nI j) => absurd h1 (nI_ge (b := 64) (by omega) (by omega))) (fun _ => ?_)
      (repeat (refine em_pure hB kX2_allMaybes rfl ?_))
      refine em_ja (L := 64) hB kX2_allMaybes rfl rfl rfl rfl rfl (by omega) rfl ?_
      (repeat (refine em_pureT 4 hB kX2_allMaybes rfl rfl ?_))
      refine em_loc (lc' := [(0, .ref 49), (1, .long (em_sL (J 51) (j + 1))), (3, .int (nI j + 1))]) rfl ?_
      rw [nI_1]
      exact ih (j + 1) (by omega)
  (repeat (refine em_pureT 4 hB kX2_allMaybes rfl rfl ?_))
  refine em_loc (lc' := [(0, .ref 49), (1, .long 0), (3, .int (nI 0))]) rfl ?_
  exact loop 64 0 (by omega)
theorem s_likeliest (hB : 85 ≤ n) : em_MC Γ 0 mX2_likeliest [.ref 49] (em_hm n m dl I J rv) (some (.int (if I 49 3 = -1 then -1 else nI (em_mx (J 51) 64)))) (em_hm n m dl I J rv) := by
  refine em_MC_of (Nat.le_refl _) (Nat.le_refl _) (by decide +kernel) rfl (Nat.le_of_ble_eq_true rfl) ?_
  (repeat (refine em_pure hB kX2_likeliest rfl ?_))
  refine em_branch kX2_likeliest rfl (fun (h1 : ¬ I 49 3 = -1) => ?_) (fun (h1 : ¬ ¬ I 49 3 = -1) => ?_)
  case refine_2 =>
    (repeat (refine em_pure hB kX2_likeliest rfl ?_))
    exact em_iret kX2_likeliest rfl rfl rfl (by rw [if_pos (Decidable.not_not.mp h1)])
  have loop : ∀ e j, j + e = 64 → 1 ≤ j → em_EW Γ 0 mX2_likeliest (em_hm n m dl I J rv) (some (.int (if I 49 3 = -1 then -1 else nI (em_mx (J 51) 64))), em_hm n m dl I J rv) 14 [(0, .ref 49), (1, .int (nI (em_mx (J 51) j))), (2, .int (nI j))] [] (em_hm n m dl I J rv) := by
    intro e
    induction e with
    | zero =>
      intro j hj _
      obtain rfl : j = 64 := by omega
      (repeat (refine em_pure hB kX2_likeliest rfl ?_))
      refine em_branch kX2_likeliest rfl (fun _ => ?_) (fun h1 => absurd (by decide) h1)
      (repeat (refine em_pure hB kX2_likeliest rfl ?_))
      exact em_iret kX2_likeliest rfl rfl rfl (by rw [if_neg h1])
    | succ e ih =>
      intro j hj hj1
      have hm : em_mx (J 51) j < 64 := by
        obtain ⟨i, rfl⟩ : ∃ i, j = i + 1 := ⟨j - 1, by omega⟩
        have := em_mx_lt (J 51) i
        omega
      (repeat (refine em_pure hB kX2_likeliest rfl ?_))
      refine em_branch kX2_likeliest rfl (fun (h1 : (64 : Int32) ≤ nI j) => absurd h1 (nI_ge (b := 64) (by omega) (by omega))) (fun _ => ?_)
      (repeat (refine em_pure hB kX2_likeliest rfl ?_))
      refine em_ja (L := 64) hB kX2_likeliest rfl rfl rfl rfl rfl (by omega) rfl ?_
      (repeat (refine em_pure hB kX2_likeliest rfl ?_))
      refine em_ja (L := 64) hB kX2_likeliest rfl rfl rfl rfl rfl hm rfl ?_
      (repeat (refine em_pure hB kX2_likeliest rfl ?_))
      refine em_branch kX2_likeliest rfl (fun h2 => ?_) (fun h2 => ?_)
      · have h3 : ¬ J 51 (em_mx (J 51) j) < J 51 j := Int64.not_lt.mpr ((lg_cmp_le _ _).mp h2)
        (repeat (refine em_pureT 14 hB kX2_likeliest rfl rfl ?_))
        refine em_loc (lc' := [(0, .ref 49), (1, .int (nI (em_mx (J 51) j))), (2, .int (nI j + 1))]) rfl ?_
        have e1 : em_mx (J 51) (j + 1) = em_mx (J 51) j := by rw [em_mx, if_neg h3]
        have h4 := ih (j + 1) (by omega) (by omega)
        rw [e1] at h4
        rw [nI_1]
        exact h4
      · have h3 : J 51 (em_mx (J 51) j) < J 51 j := Int64.not_le.mp (fun z => h2 ((lg_cmp_le _ _).mpr z))
        (repeat (refine em_pureT 14 hB kX2_likeliest rfl rfl ?_))
        refine em_loc (lc' := [(0, .ref 49), (1, .int (nI j)), (2, .int (nI j + 1))]) rfl ?_
        have e1 : em_mx (J 51) (j + 1) = j := by rw [em_mx, if_pos h3]
        have h4 := ih (j + 1) (by omega) (by omega)
        rw [e1] at h4
        rw [nI_1]
        exact h4
  (repeat (refine em_pureT 14 hB kX2_likeliest rfl rfl ?_))
  refine em_loc (lc' := [(0, .ref 49), (1, .int (nI 0)), (2, .int (nI 1))]) rfl ?_
  have h0 := loop 63 1 (by omega) (by omega)
  rw [show em_mx (J 51) 1 = 0 by simp [em_mx]] at h0
  exact h0
theorem s_maybeOf (hB : 85 ≤ n) {x : Int32} : em_MC Γ 3 mX2_maybeOf [.ref 49, .int x] (em_hm n m dl I J rv) (some (.long (if ¬ I 49 3 = -1 ∧ (0 ≤ x ∧ x ≤ 63) then J 51 x.toNatClampNeg else -1))) (em_hm n m dl I J rv) := by
  refine em_MC_of (Nat.le_refl _) (Nat.le_refl _) (by decide +kernel) rfl (Nat.le_of_ble_eq_true rfl) ?_
  (repeat (refine em_pure hB kX2_maybeOf rfl ?_))
  refine em_callV (μ' := mX2_isOpen) (c1 := 2) kX2_maybeOf rfl lX2_49 tX2_isOpen (by decide) rfl (em_ltB hB rfl) (s_isOpen hB x) rfl rfl (by decide) (Nat.le_of_ble_eq_true rfl) (Nat.le_refl _) (Nat.le_refl _) ?_
  refine em_bz kX2_maybeOf rfl (fun h => ?_) (fun h => ?_)
  · (repeat (refine em_pure hB kX2_maybeOf rfl ?_))
    obtain ⟨j, hj, rfl⟩ := em_inC h.2
    refine em_ja (L := 64) hB kX2_maybeOf rfl rfl rfl rfl rfl hj rfl ?_
    (repeat (refine em_pure hB kX2_maybeOf rfl ?_))
    exact em_lret kX2_maybeOf rfl rfl (by rw [if_pos h, nI_clamp (by omega)])
  · (repeat (refine em_pure hB kX2_maybeOf rfl ?_))
    exact em_lret kX2_maybeOf rfl rfl (by rw [if_neg h])
theorem s_spread (hB : 85 ≤ n) {c : Nat} (hc : c < 64) : em_MC Γ 1 mX2_spread [.ref 49, .int (nI c)] (em_hm n m dl I J rv) none (em_sJ (em_hm n m dl I J rv) 52 (em_sp (I 50) (J 51 c) c (J 52))) := by
  refine em_MC_of (Nat.le_refl _) (Nat.le_refl _) (by decide +kernel) rfl (Nat.le_of_ble_eq_true rfl) ?_
  have loop : ∀ e d, d + e = 4 → em_EW Γ 1 mX2_spread (em_hm n m dl I J rv) (none, em_sJ (em_hm n m dl I J rv) 52 (em_sp (I 50) (J 51 c) c (J 52))) 4 [(0, .ref 49), (1, .int (nI c)), (2, .int (nI (em_sd (I 50) (J 51 c) c d (J 52)).2)), (3, .int (nI d))] [] (em_sJ (em_hm n m dl I J rv) 52 (em_sd (I 50) (J 51 c) c d (J 52)).1) := by
    intro e
    induction e with
    | zero =>
      intro d hd
      obtain rfl : d = 4 := by omega
      have hle := em_sd_le (I 50) (J 51 c) c (J 52) 4
      (repeat (refine em_pure hB kX2_spread rfl ?_))
      refine em_branch kX2_spread rfl (fun _ => ?_) (fun h1 => absurd (by decide) h1)
      (repeat (refine em_pure hB kX2_spread rfl ?_))
      refine em_ja (L := 64) hB kX2_spread rfl rfl rfl rfl rfl hc rfl ?_
      (repeat (refine em_pure hB kX2_spread rfl ?_))
      refine em_ja (L := 64) hB kX2_spread rfl rfl rfl rfl rfl hc rfl ?_
      (repeat (refine em_pure hB kX2_spread rfl ?_))
      refine em_jw (L := 64) hB kX2_spread rfl rfl rfl rfl rfl hc rfl ?_
      rw [em_sJ2]
      (repeat (refine em_pure hB kX2_spread rfl ?_))
      refine em_vret kX2_spread rfl rfl ?_
      show (none, em_sJ _ 52 (em_sp _ _ _ _)) = (none, em_sJ _ 52 (va_up _ c (_ + _ * (5 - nI (em_sd (I 50) (J 51 c) c 4 (J 52)).2).toInt64)))
      rw [show (5 : Int32) - nI (em_sd (I 50) (J 51 c) c 4 (J 52)).2 = nI (5 - (em_sd (I 50) (J 51 c) c 4 (J 52)).2) from pk_sub (a := 5) (by omega), em_J1]
      rfl
    | succ e ih =>
      intro d hd
      have hle := em_sd_le (I 50) (J 51 c) c (J 52) d
      have next : ∀ (f : Nat → Int64) (k : Nat), em_sd (I 50) (J 51 c) c (d + 1) (J 52) = (f, k) → em_EW Γ 1 mX2_spread (em_hm n m dl I J rv) (none, em_sJ (em_hm n m dl I J rv) 52 (em_sp (I 50) (J 51 c) c (J 52))) 51 [(0, .ref 49), (1, .int (nI c)), (2, .int (nI k)), (3, .int (nI d))] [] (em_sJ (em_hm n m dl I J rv) 52 f) := by
        intro f k hfk
        (repeat (refine em_pureT 4 hB kX2_spread rfl rfl ?_))
        refine em_loc (lc' := [(0, .ref 49), (1, .int (nI c)), (2, .int (nI k)), (3, .int (nI d + 1))]) rfl ?_
        have h4 := ih (d + 1) (by omega)
        rw [hfk] at h4
        rw [nI_1]
        exact h4
      (repeat (refine em_pure hB kX2_spread rfl ?_))
      refine em_branch kX2_spread rfl (fun (h1 : (4 : Int32) ≤ nI d) => absurd h1 (nI_ge (b := 4) (by omega) (by omega))) (fun _ => ?_)
      (repeat (refine em_pure hB kX2_spread rfl ?_))
      refine em_callS (μ' := mX2_beside) kX2_spread rfl lX2_66 tX2_beside (s_beside Γ _ hc (d := d) (by omega)) rfl rfl (by decide) (Nat.le_of_ble_eq_true rfl) (Nat.le_refl _) (Nat.le_refl _) ?_
      cases hnb : em_nb1 c d with
      | none =>
        (repeat (refine em_pure hB kX2_spread rfl ?_))
        refine em_branch kX2_spread rfl (fun _ => ?_) (fun h => absurd rfl h)
        refine em_loc (lc' := [(0, .ref 49), (1, .int (nI c)), (2, .int (nI (em_sd (I 50) (J 51 c) c d (J 52)).2)), (3, .int (nI d))]) rfl ?_
        exact next _ _ (by rw [em_sd, hnb])
      | some o =>
        have ho := em_nb1_lt hc hnb
        (repeat (refine em_pure hB kX2_spread rfl ?_))
        refine em_branch kX2_spread rfl (fun (h : nI o = -1) => absurd h (by intro z; have := congrArg Int32.toInt z; rw [nI_toInt (by omega)] at this; have h5 : (-1 : Int32).toInt = -1 := rfl; rw [h5] at this; omega)) (fun _ => ?_)
        (repeat (refine em_pure hB kX2_spread rfl ?_))
        refine em_za (L := 64) hB kX2_spread rfl rfl rfl rfl rfl ho rfl ?_
        (repeat (refine em_pure hB kX2_spread rfl ?_))
        refine em_branch kX2_spread rfl (fun (h2 : ¬ I 50 o = 0) => ?_) (fun (h2 : ¬ ¬ I 50 o = 0) => ?_)
        · refine em_loc (lc' := [(0, .ref 49), (1, .int (nI c)), (2, .int (nI (em_sd (I 50) (J 51 c) c d (J 52)).2)), (3, .int (nI d))]) rfl ?_
          exact next _ _ (by rw [em_sd, hnb]; simp only [if_neg h2])
        · (repeat (refine em_pure hB kX2_spread rfl ?_))
          refine em_ja (L := 64) hB kX2_spread rfl rfl rfl rfl rfl ho rfl ?_
          (repeat (refine em_pure hB kX2_spread rfl ?_))
          refine em_ja (L := 64) hB kX2_spread rfl rfl rfl rfl rfl hc rfl ?_
          (repeat (refine em_pure hB kX2_spread rfl ?_))
          refine em_jw (L := 64) hB kX2_spread rfl rfl rfl rfl rfl ho rfl ?_
          rw [em_sJ2]
          (repeat (refine em_pureT 51 hB kX2_spread rfl rfl ?_))
          refine em_loc (lc' := [(0, .ref 49), (1, .int (nI c)), (2, .int (nI (em_sd (I 50) (J 51 c) c d (J 52)).2 + 1)), (3, .int (nI d))]) rfl ?_
          rw [nI_1]
          exact next _ _ (by rw [em_sd, hnb]; simp only [if_pos (Decidable.not_not.mp h2)]; rfl)
  (repeat (refine em_pureT 4 hB kX2_spread rfl rfl ?_))
  refine em_loc (lc' := [(0, .ref 49), (1, .int (nI c)), (2, .int (nI 0)), (3, .int (nI 0))]) rfl ?_
  have h0 := loop 4 0 (by omega)
  rw [show (em_sd (I 50) (J 51 c) c 0 (J 52)).1 = em_J (em_hm n m dl I J rv) 52 from rfl, em_sJ_id] at h0
  exact h0
theorem s_passHour_no (hB : 85 ≤ n) (h : ¬ (¬ I 49 3 = -1 ∧ I 49 4 < 20)) : em_MC Γ 2 mX2_passHour [.ref 49] (em_hm n m dl I J rv) (some (.int (-1))) (em_hm n m dl I J rv) := by
  refine em_MC_of (Nat.le_refl _) (Nat.le_refl _) (by decide +kernel) rfl (Nat.le_of_ble_eq_true rfl) ?_
  (repeat (refine em_pure hB kX2_passHour rfl ?_))
  refine em_branch kX2_passHour rfl (fun (h1 : I 49 3 = -1) => ?_) (fun (h1 : ¬ I 49 3 = -1) => ?_)
  · (repeat (refine em_pure hB kX2_passHour rfl ?_))
    exact em_iret kX2_passHour rfl rfl rfl rfl
  · (repeat (refine em_pure hB kX2_passHour rfl ?_))
    refine em_branch kX2_passHour rfl (fun (h2 : I 49 4 < 20) => absurd ⟨h1, h2⟩ h) (fun _ => ?_)
    (repeat (refine em_pure hB kX2_passHour rfl ?_))
    exact em_iret kX2_passHour rfl rfl rfl rfl
theorem s_passHour_ok (hB : 85 ≤ n) (h1 : ¬ I 49 3 = -1) (h2 : I 49 4 < 20) : em_MC Γ 2 mX2_passHour [.ref 49] (em_hm n m dl I J rv) (some (.int (I 49 4 + 1))) (em_hm n m dl (va_up I 49 (va_up (I 49) 4 (I 49 4 + 1))) (va_up (va_up J 52 (em_hr (I 50) (J 51) (em_fil (J 52) 0 64) 64)) 51 (va_cpy (em_hr (I 50) (J 51) (em_fil (J 52) 0 64) 64) (J 51) 0 0 64)) rv) := by
  refine em_MC_of (Nat.le_refl _) (Nat.le_refl _) (by decide +kernel) rfl (Nat.le_of_ble_eq_true rfl) ?_
  (repeat (refine em_pure hB kX2_passHour rfl ?_))
  refine em_branch kX2_passHour rfl (fun (h : I 49 3 = -1) => absurd h h1) (fun _ => ?_)
  (repeat (refine em_pure hB kX2_passHour rfl ?_))
  refine em_branch kX2_passHour rfl (fun _ => ?_) (fun h => absurd h2 h)
  (repeat (refine em_pure hB kX2_passHour rfl ?_))
  refine em_callS (μ' := mJ7_fill_d0a16) kX2_passHour rfl lX2_33 tJ7_fill_d0a16 (s_fillJ Γ _ 0 (L := 64) (k := 52) rfl (em_ltB hB rfl) rfl (by decide)) rfl rfl (by decide) (Nat.le_of_ble_eq_true rfl) (Nat.le_refl _) (Nat.le_refl _) ?_
  have loop : ∀ e c, c + e = 64 → em_EW Γ 2 mX2_passHour (em_hm n m dl I J rv) (some (.int (I 49 4 + 1)), em_hm n m dl (va_up I 49 (va_up (I 49) 4 (I 49 4 + 1))) (va_up (va_up J 52 (em_hr (I 50) (J 51) (em_fil (J 52) 0 64) 64)) 51 (va_cpy (em_hr (I 50) (J 51) (em_fil (J 52) 0 64) 64) (J 51) 0 0 64)) rv) 29 [(0, .ref 49), (1, .int (nI c))] [] (em_sJ (em_hm n m dl I J rv) 52 (em_hr (I 50) (J 51) (em_fil (J 52) 0 64) c)) := by
    intro e
    induction e with
    | zero =>
      intro c hc
      obtain rfl : c = 64 := by omega
      (repeat (refine em_pure hB kX2_passHour rfl ?_))
      refine em_branch kX2_passHour rfl (fun _ => ?_) (fun h1 => absurd (by decide) h1)
      (repeat (refine em_pure hB kX2_passHour rfl ?_))
      refine em_copyJ kX2_passHour rfl lX2_43 rfl rfl (em_ltB hB rfl) (em_ltB hB rfl) (by decide) (by decide) (by decide) (Nat.le_of_ble_eq_true rfl) (Nat.le_of_ble_eq_true rfl) (by decide) (Nat.le_of_ble_eq_true rfl) ?_
      (repeat (refine em_pure hB kX2_passHour rfl ?_))
      refine em_pi hB kX2_passHour rfl rfl rfl rfl rfl rfl rfl ?_
      (repeat (refine em_pure hB kX2_passHour rfl ?_))
      exact em_iret kX2_passHour rfl rfl rfl rfl
    | succ e ih =>
      intro c hc
      (repeat (refine em_pure hB kX2_passHour rfl ?_))
      refine em_branch kX2_passHour rfl (fun (h1 : (64 : Int32) ≤ nI c) => absurd h1 (nI_ge (b := 64) (by omega) (by omega))) (fun _ => ?_)
      (repeat (refine em_pure hB kX2_passHour rfl ?_))
      refine em_callV (μ' := mX2_spread) (c1 := 2) kX2_passHour rfl lX2_39 tX2_spread (by decide) rfl (em_ltB hB rfl) (s_spread (J := va_up J 52 (em_hr (I 50) (J 51) (em_fil (J 52) 0 64) c)) hB (c := c) (by omega)) rfl rfl (by decide) (Nat.le_of_ble_eq_true rfl) (Nat.le_refl _) (Nat.le_refl _) ?_
      refine em_hpE (hp' := em_sJ (em_hm n m dl I J rv) 52 (em_hr (I 50) (J 51) (em_fil (J 52) 0 64) (c + 1))) (em_sJ2 (em_hm n m dl I J rv) 52 _ _) ?_
      (repeat (refine em_pureT 29 hB kX2_passHour rfl rfl ?_))
      refine em_loc (lc' := [(0, .ref 49), (1, .int (nI c + 1))]) rfl ?_
      rw [nI_1]
      exact ih (c + 1) (by omega)
  (repeat (refine em_pureT 29 hB kX2_passHour rfl rfl ?_))
  refine em_loc (lc' := [(0, .ref 49), (1, .int (nI 0))]) rfl ?_
  exact loop 64 0 (by omega)
theorem s_lookAt (hB : 85 ≤ n) {x : Int32} {r : Int32} {I' : Nat → Nat → Int32} {J' : Nat → Nat → Int64}
    (h : (¬ (¬ I 49 3 = -1 ∧ (0 ≤ x ∧ x ≤ 63)) ∧ r = -1 ∧ I' = I ∧ J' = J) ∨ ((¬ I 49 3 = -1 ∧ (0 ≤ x ∧ x ≤ 63)) ∧ ((J 51 x.toNatClampNeg = 0 ∧ r = 0 ∧ I' = I ∧ J' = J) ∨ (¬ J 51 x.toNatClampNeg = 0 ∧ ((J 51 x.toNatClampNeg = em_sL (J 51) 64 ∧ r = 2 ∧ I' = va_up I 49 (va_up (I 49) 3 (-1)) ∧ J' = J) ∨ (¬ J 51 x.toNatClampNeg = em_sL (J 51) 64 ∧ r = 1 ∧ I' = I ∧ J' = va_up J 51 (va_up (J 51) x.toNatClampNeg 0))))))) : em_MC Γ 3 mX2_lookAt [.ref 49, .int x] (em_hm n m dl I J rv) (some (.int r)) (em_hm n m dl I' J' rv) := by
  refine em_MC_of (Nat.le_refl _) (Nat.le_refl _) (by decide +kernel) rfl (Nat.le_of_ble_eq_true rfl) ?_
  (repeat (refine em_pure hB kX2_lookAt rfl ?_))
  refine em_callV (μ' := mX2_isOpen) (c1 := 2) kX2_lookAt rfl lX2_49 tX2_isOpen (by decide) rfl (em_ltB hB rfl) (s_isOpen hB x) rfl rfl (by decide) (Nat.le_of_ble_eq_true rfl) (Nat.le_refl _) (Nat.le_refl _) ?_
  rcases h with ⟨h, rfl, rfl, rfl⟩ | ⟨h, h2⟩
  · refine em_bn kX2_lookAt rfl (fun h1 => absurd h1 h) (fun h1 => ?_)
    (repeat (refine em_pure hB kX2_lookAt rfl ?_))
    exact em_iret kX2_lookAt rfl rfl rfl rfl
  refine em_bn kX2_lookAt rfl (fun _ => ?_) (fun h1 => absurd h h1)
  obtain ⟨j, hj, rfl⟩ := em_inC h.2
  rw [nI_clamp (by omega)] at h2
  (repeat (refine em_pure hB kX2_lookAt rfl ?_))
  refine em_ja (L := 64) hB kX2_lookAt rfl rfl rfl rfl rfl hj rfl ?_
  (repeat (refine em_pure hB kX2_lookAt rfl ?_))
  rcases h2 with ⟨h2, rfl, rfl, rfl⟩ | ⟨h2, h3⟩
  · refine em_branch kX2_lookAt rfl (fun h4 => absurd ((lg_cmp_eq _ _).mpr h2) h4) (fun _ => ?_)
    (repeat (refine em_pure hB kX2_lookAt rfl ?_))
    exact em_iret kX2_lookAt rfl rfl rfl rfl
  refine em_branch kX2_lookAt rfl (fun _ => ?_) (fun h4 => absurd (fun z => h2 ((lg_cmp_eq _ _).mp z)) h4)
  (repeat (refine em_pure hB kX2_lookAt rfl ?_))
  refine em_ja (L := 64) hB kX2_lookAt rfl rfl rfl rfl rfl hj rfl ?_
  (repeat (refine em_pure hB kX2_lookAt rfl ?_))
  refine em_callV (μ' := mX2_allMaybes) (c1 := 2) kX2_lookAt rfl lX2_52 tX2_allMaybes (by decide) rfl (em_ltB hB rfl) (s_allMaybes hB) rfl rfl (by decide) (Nat.le_of_ble_eq_true rfl) (Nat.le_refl _) (Nat.le_refl _) ?_
  (repeat (refine em_pure hB kX2_lookAt rfl ?_))
  rcases h3 with ⟨h3, rfl, rfl, rfl⟩ | ⟨h3, rfl, rfl, rfl⟩
  · refine em_branch kX2_lookAt rfl (fun h4 => absurd ((lg_cmp_eq _ _).mpr h3) h4) (fun _ => ?_)
    (repeat (refine em_pure hB kX2_lookAt rfl ?_))
    refine em_pi hB kX2_lookAt rfl rfl rfl rfl rfl rfl rfl ?_
    (repeat (refine em_pure hB kX2_lookAt rfl ?_))
    exact em_iret kX2_lookAt rfl rfl rfl rfl
  · refine em_branch kX2_lookAt rfl (fun _ => ?_) (fun h4 => absurd (fun z => h3 ((lg_cmp_eq _ _).mp z)) h4)
    (repeat (refine em_pure hB kX2_lookAt rfl ?_))
    refine em_jw (L := 64) hB kX2_lookAt rfl rfl rfl rfl rfl hj rfl ?_
    (repeat (refine em_pure hB kX2_lookAt rfl ?_))
    exact em_iret kX2_lookAt rfl rfl rfl rfl
theorem s_chanceOf_no (hB : 85 ≤ n) {x w : Int32} (h : ¬ ((¬ I 49 3 = -1 ∧ (0 ≤ x ∧ x ≤ 63)) ∧ (0 ≤ w ∧ w ≤ 1))) : em_MC Γ 3 mX2_chanceOf [.ref 49, .int x, .int w] (em_hm n m dl I J rv) (some (.long (-1))) (em_hm n m dl I J rv) := by
  refine em_MC_of (Nat.le_refl _) (Nat.le_refl _) (by decide +kernel) rfl (Nat.le_of_ble_eq_true rfl) ?_
  (repeat (refine em_pure hB kX2_chanceOf rfl ?_))
  refine em_callV (μ' := mX2_isOpen) (c1 := 2) kX2_chanceOf rfl lX2_49 tX2_isOpen (by decide) rfl (em_ltB hB rfl) (s_isOpen hB x) rfl rfl (by decide) (Nat.le_of_ble_eq_true rfl) (Nat.le_refl _) (Nat.le_refl _) ?_
  refine em_bz kX2_chanceOf rfl (fun h1 => ?_) (fun h1 => ?_)
  · (repeat (refine em_pure hB kX2_chanceOf rfl ?_))
    refine em_callS (μ' := mX7_within) kX2_chanceOf rfl lX2_58 tX7_within (s_within Γ _ w 0 1) rfl rfl (by decide) (Nat.le_of_ble_eq_true rfl) (Nat.le_refl _) (Nat.le_refl _) ?_
    refine em_bn kX2_chanceOf rfl (fun h2 => absurd ⟨h1, h2⟩ h) (fun _ => ?_)
    (repeat (refine em_pure hB kX2_chanceOf rfl ?_))
    exact em_lret kX2_chanceOf rfl rfl rfl
  · (repeat (refine em_pure hB kX2_chanceOf rfl ?_))
    exact em_lret kX2_chanceOf rfl rfl rfl
theorem s_chanceOf_ok (hB : 85 ≤ n) {x w : Int32} (h : ¬ I 49 3 = -1 ∧ (0 ≤ x ∧ x ≤ 63)) (hw : 0 ≤ w ∧ w ≤ 1) (hg : ¬ em_gcd 128 (J 51 x.toNatClampNeg) (em_sL (J 51) 64) = 0) : em_MC Γ 3 mX2_chanceOf [.ref 49, .int x, .int w] (em_hm n m dl I J rv) (some (.long ((if w = 0 then J 51 x.toNatClampNeg else em_sL (J 51) 64) / em_gcd 128 (J 51 x.toNatClampNeg) (em_sL (J 51) 64)))) (em_hm n m dl I J rv) := by
  refine em_MC_of (Nat.le_refl _) (Nat.le_refl _) (by decide +kernel) rfl (Nat.le_of_ble_eq_true rfl) ?_
  (repeat (refine em_pure hB kX2_chanceOf rfl ?_))
  refine em_callV (μ' := mX2_isOpen) (c1 := 2) kX2_chanceOf rfl lX2_49 tX2_isOpen (by decide) rfl (em_ltB hB rfl) (s_isOpen hB x) rfl rfl (by decide) (Nat.le_of_ble_eq_true rfl) (Nat.le_refl _) (Nat.le_refl _) ?_
  refine em_bz kX2_chanceOf rfl (fun _ => ?_) (fun h1 => absurd h h1)
  (repeat (refine em_pure hB kX2_chanceOf rfl ?_))
  refine em_callS (μ' := mX7_within) kX2_chanceOf rfl lX2_58 tX7_within (s_within Γ _ w 0 1) rfl rfl (by decide) (Nat.le_of_ble_eq_true rfl) (Nat.le_refl _) (Nat.le_refl _) ?_
  refine em_bn kX2_chanceOf rfl (fun _ => ?_) (fun h1 => absurd hw h1)
  (repeat (refine em_pure hB kX2_chanceOf rfl ?_))
  refine em_callV (μ' := mX2_allMaybes) (c1 := 2) kX2_chanceOf rfl lX2_52 tX2_allMaybes (by decide) rfl (em_ltB hB rfl) (s_allMaybes hB) rfl rfl (by decide) (Nat.le_of_ble_eq_true rfl) (Nat.le_refl _) (Nat.le_refl _) ?_
  (repeat (refine em_pure hB kX2_chanceOf rfl ?_))
  obtain ⟨j, hj, rfl⟩ := em_inC h.2
  rw [nI_clamp (by omega)] at hg ⊢
  refine em_ja (L := 64) hB kX2_chanceOf rfl rfl rfl rfl rfl hj rfl ?_
  (repeat (refine em_pure hB kX2_chanceOf rfl ?_))
  refine em_callS (μ' := mX2_commonDivisor) kX2_chanceOf rfl lX2_62 tX2_commonDivisor (s_commonDivisor Γ _ (J 51 j) (em_sL (J 51) 64)) rfl rfl (by decide) (Nat.le_of_ble_eq_true rfl) (Nat.le_refl _) (Nat.le_refl _) ?_
  (repeat (refine em_pure hB kX2_chanceOf rfl ?_))
  refine em_branch kX2_chanceOf rfl (fun _ => ?_) (fun h4 => absurd (fun z => hg ((lg_cmp_eq _ _).mp z)) h4)
  (repeat (refine em_pure hB kX2_chanceOf rfl ?_))
  refine em_branch kX2_chanceOf rfl (fun (h5 : ¬ w = 0) => ?_) (fun (h5 : ¬ ¬ w = 0) => ?_)
  · (repeat (refine em_pure hB kX2_chanceOf rfl ?_))
    refine em_ldiv kX2_chanceOf rfl hg ?_
    (repeat (refine em_pure hB kX2_chanceOf rfl ?_))
    exact em_lret kX2_chanceOf rfl rfl (by rw [if_neg h5])
  · (repeat (refine em_pure hB kX2_chanceOf rfl ?_))
    refine em_ja (L := 64) hB kX2_chanceOf rfl rfl rfl rfl rfl hj rfl ?_
    (repeat (refine em_pure hB kX2_chanceOf rfl ?_))
    refine em_ldiv kX2_chanceOf rfl hg ?_
    (repeat (refine em_pure hB kX2_chanceOf rfl ?_))
    exact em_lret kX2_chanceOf rfl rfl (by rw [if_pos (Decidable.not_not.mp h5)])
end Field
