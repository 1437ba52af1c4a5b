/-! THE REFERENCE'S FAULT -/
def em_prsM (f : Nat → Int32) (S : Nat) : Nat → Nat → Int32 → (Nat → Int32) → Int32 × Int32 × (Nat → Int32)
  | 0, p, F, N => (nI p, F, N)
  | d + 1, p, F, N => match em_cl1 f S p with
    | none => (nI p, F, N)
    | some (bh, s, v) => match em_tkM s v F N with
      | none => (nI p, F, N)
      | some (F', N') => if bh = S then (-1, F', N') else em_prsM f S d (em_bl f S (bh + 1)) F' N'
def em_fltM (f : Nat → Int32) (S : Nat) (N : Nat → Int32) : Int32 × Int32 × (Nat → Int32) := if em_bl f S 0 = S then (-1, 0, N) else em_prsM f S (S + 1) (em_bl f S 0) 0 N
theorem em_fs_S (f : Nat → Int32) (S : Nat) : ∀ d i, i + d = 6 → em_fs f S S d i = 6
  | 0, i, h => by
    show i = 6
    omega
  | d + 1, i, h => by
    have := em_tl_b i (by omega)
    rw [em_fs, if_neg (fun z => by have := z.1; omega)]
    exact em_fs_S f S d (i + 1) (by omega)
theorem em_cl1_S (f : Nat → Int32) (S : Nat) : em_cl1 f S S = none := by
  rw [em_cl1, em_fs_S f S 6 0 (by omega), if_neg (by omega)]
section MFlt
variable {Γ : em_Cx} {n m : Nat} {dl : Nat → Nat} {I : Nat → Nat → Int32} {J : Nat → Nat → Int64} {rv : em_Rv}
theorem s_mFault (hB : 85 ≤ n) {S : Nat} (hS : I 53 35 = nI S) (hS2 : S ≤ 200) : em_MC Γ 6 mX8_fault [.ref 53] (em_hm n m dl I J rv) (some (.int (em_fltM (I 77) S (em_fil (I 81) (-1) 5)).1)) (em_lm n m dl I J rv (em_fltM (I 77) S (em_fil (I 81) (-1) 5)).2.1 (em_fltM (I 77) S (em_fil (I 81) (-1) 5)).2.2) := by
  have hneg : ∀ q : Nat, q ≤ 200 → ¬ nI q = -1 := by
    intro q hq z
    have := congrArg Int32.toInt z
    rw [nI_toInt (by omega)] at this
    have h5 : (-1 : Int32).toInt = -1 := rfl
    rw [h5] at this
    omega
  have loop : ∀ d p F N, S < p + d → p ≤ S → em_EW Γ 6 mX8_fault (em_hm n m dl I J rv) (some (.int (em_prsM (I 77) S d p F N).1), em_lm n m dl I J rv (em_prsM (I 77) S d p F N).2.1 (em_prsM (I 77) S d p F N).2.2) 41 [(0, .ref 53), (1, .int (nI p))] [] (em_lm n m dl I J rv F N) := by
    intro d
    induction d with
    | zero => intro p F N h1 h2; omega
    | succ d ih =>
      intro p F N h1 h2
      by_cases hpS : p = S
      · have e1 : em_prsM (I 77) S (d + 1) p F N = (nI p, F, N) := by rw [hpS, em_prsM, em_cl1_S]
        rw [e1]
        (repeat (refine em_pure hB kX8_fault rfl ?_))
        refine em_branch kX8_fault rfl (fun (h : ¬ nI p = I 53 35) => absurd (by rw [hS, hpS]) h) (fun _ => ?_)
        (repeat (refine em_pure hB kX8_fault rfl ?_))
        exact em_iret kX8_fault rfl rfl rfl (by show _ = (some (Value.int (I 53 35)), _); rw [hS, ← hpS])
      · have h0 : ¬ nI p = I 53 35 := by rw [hS]; exact fun z => hpS ((nI_eq (by omega) (by omega)).mp z)
        obtain ⟨F1, N1, r, hM, hr⟩ := s_mClause (Γ := Γ) (n := n) (m := m) (dl := dl) (I := I) (J := J) (rv := rv) hB hS hS2 h2 (F := F) (N := N)
        rcases hr with ⟨bh, s, v, hcl, htk, rfl⟩ | ⟨hno, rfl, rfl, rfl⟩
        · have hlt := em_cl1_lt h2 hcl
          by_cases hbh : bh = S
          · have e1 : em_prsM (I 77) S (d + 1) p F N = (-1, F1, N1) := by simp only [em_prsM, hcl, htk, if_pos hbh]
            rw [e1]
            (repeat (refine em_pure hB kX8_fault rfl ?_))
            refine em_branch kX8_fault rfl (fun _ => ?_) (fun h => absurd h0 h)
            (repeat (refine em_pure hB kX8_fault rfl ?_))
            refine em_callV (μ' := mX8_clause) (c1 := 8) kX8_fault rfl lX8_234 tX8_clause (by decide) rfl (em_ltB hB rfl) hM rfl rfl (by decide) (Nat.le_of_ble_eq_true rfl) (Nat.le_refl _) (Nat.le_refl _) ?_
            (repeat (refine em_pure hB kX8_fault rfl ?_))
            refine em_branch kX8_fault rfl (fun _ => ?_) (fun h => absurd (hneg bh (by omega)) h)
            (repeat (refine em_pure hB kX8_fault rfl ?_))
            refine em_branch kX8_fault rfl (fun (h : ¬ nI bh = I 53 35) => absurd (by rw [hbh, hS]) h) (fun _ => ?_)
            (repeat (refine em_pure hB kX8_fault rfl ?_))
            exact em_iret kX8_fault rfl rfl rfl rfl
          · have hb1 := em_bl_le (f := I 77) (S := S) (p := bh + 1) (by omega)
            have e1 : em_prsM (I 77) S (d + 1) p F N = em_prsM (I 77) S d (em_bl (I 77) S (bh + 1)) F1 N1 := by simp only [em_prsM, hcl, htk, if_neg hbh]
            have hE := ih (em_bl (I 77) S (bh + 1)) F1 N1 (by omega) hb1.2
            rw [e1]
            generalize em_prsM (I 77) S d (em_bl (I 77) S (bh + 1)) F1 N1 = res at *
            (repeat (refine em_pure hB kX8_fault rfl ?_))
            refine em_branch kX8_fault rfl (fun _ => ?_) (fun h => absurd h0 h)
            (repeat (refine em_pure hB kX8_fault rfl ?_))
            refine em_callV (μ' := mX8_clause) (c1 := 8) kX8_fault rfl lX8_234 tX8_clause (by decide) rfl (em_ltB hB rfl) hM rfl rfl (by decide) (Nat.le_of_ble_eq_true rfl) (Nat.le_refl _) (Nat.le_refl _) ?_
            (repeat (refine em_pure hB kX8_fault rfl ?_))
            refine em_branch kX8_fault rfl (fun _ => ?_) (fun h => absurd (hneg bh (by omega)) h)
            (repeat (refine em_pure hB kX8_fault rfl ?_))
            refine em_branch kX8_fault rfl (fun _ => ?_) (fun (h : ¬ ¬ nI bh = I 53 35) => absurd (by rw [hS]; exact fun z => hbh ((nI_eq (by omega) (by omega)).mp z)) h)
            (repeat (refine em_pure hB kX8_fault rfl ?_))
            have blk : em_MC Γ 0 mX8_blanks [.ref 53, .int (nI bh + 1)] (em_lm n m dl I J rv F1 N1) (some (.int (nI (em_bl (I 77) S (bh + 1))))) (em_lm n m dl I J rv F1 N1) := by
              rw [nI_1]
              exact s_mBlanks (I := va_up (va_up I 53 (va_up (I 53) 39 F1)) 81 N1) hB hS hS2 (by omega)
            refine em_callV (μ' := mX8_blanks) (c1 := 8) kX8_fault rfl lX8_228 tX8_blanks (by decide) rfl (em_ltB hB rfl) blk rfl rfl (by decide) (Nat.le_of_ble_eq_true rfl) (Nat.le_refl _) (Nat.le_refl _) ?_
            (repeat (refine em_pureT 41 hB kX8_fault rfl rfl ?_))
            exact em_loc (lc' := [(0, .ref 53), (1, .int (nI (em_bl (I 77) S (bh + 1))))]) rfl hE
        · have e1 : em_prsM (I 77) S (d + 1) p F1 N1 = (nI p, F1, N1) := by
            cases hcl : em_cl1 (I 77) S p with
            | none => simp only [em_prsM, hcl]
            | some q =>
              obtain ⟨bh, s, v⟩ := q
              have := hno bh s v hcl
              simp only [em_prsM, hcl, this]
          rw [e1]
          (repeat (refine em_pure hB kX8_fault rfl ?_))
          refine em_branch kX8_fault rfl (fun _ => ?_) (fun h => absurd h0 h)
          (repeat (refine em_pure hB kX8_fault rfl ?_))
          refine em_callV (μ' := mX8_clause) (c1 := 8) kX8_fault rfl lX8_234 tX8_clause (by decide) rfl (em_ltB hB rfl) hM rfl rfl (by decide) (Nat.le_of_ble_eq_true rfl) (Nat.le_refl _) (Nat.le_refl _) ?_
          (repeat (refine em_pure hB kX8_fault rfl ?_))
          refine em_branch kX8_fault rfl (fun h => absurd rfl h) (fun _ => ?_)
          (repeat (refine em_pure hB kX8_fault rfl ?_))
          exact em_iret kX8_fault rfl rfl rfl rfl
  have hb0 := em_bl_le (f := I 77) (S := S) (p := 0) (by omega)
  have blk0 : em_MC Γ 0 mX8_blanks [.ref 53, .int 0] (em_lm n m dl I J rv 0 (em_fil (I 81) (-1) 5)) (some (.int (nI (em_bl (I 77) S 0)))) (em_lm n m dl I J rv 0 (em_fil (I 81) (-1) 5)) := s_mBlanks (p := 0) (I := va_up (va_up I 53 (va_up (I 53) 39 0)) 81 (em_fil (I 81) (-1) 5)) hB hS hS2 (by omega)
  have fill : ∀ fin : Option Value × em_Hp, em_n fin.2 = n → em_m fin.2 = m → em_EW Γ 6 mX8_fault (em_hm n m dl I J rv) fin 31 [(0, .ref 53), (1, .int (nI (em_bl (I 77) S 0)))] [] (em_lm n m dl I J rv 0 (em_fil (I 81) (-1) 5)) → ∀ d k, k + d = 5 → em_EW Γ 6 mX8_fault (em_hm n m dl I J rv) fin 7 [(0, .ref 53), (1, .int (nI k))] [] (em_lm n m dl I J rv 0 (em_fil (I 81) (-1) k)) := by
    intro fin f1 f2 k d
    induction d with
    | zero =>
      intro i hi
      obtain rfl : i = 5 := by omega
      (repeat (refine em_pure hB kX8_fault rfl ?_))
      refine em_branch kX8_fault rfl (fun _ => ?_) (fun h => absurd (by decide) h)
      (repeat (refine em_pure hB kX8_fault rfl ?_))
      refine em_callV (μ' := mX8_blanks) (c1 := 8) kX8_fault rfl lX8_228 tX8_blanks (by decide) rfl (em_ltB hB rfl) blk0 rfl rfl (by decide) (Nat.le_of_ble_eq_true rfl) (by rw [f1]; exact Nat.le_refl _) (by rw [f2]; exact Nat.le_refl _) ?_
      (repeat (refine em_pureT 31 hB kX8_fault rfl rfl ?_))
      exact em_loc (lc' := [(0, .ref 53), (1, .int (nI (em_bl (I 77) S 0)))]) rfl k
    | succ d ih =>
      intro i hi
      (repeat (refine em_pure hB kX8_fault rfl ?_))
      refine em_branch kX8_fault rfl (fun (h : (5 : Int32) ≤ nI i) => absurd h (nI_ge (b := 5) (by omega) (by omega))) (fun _ => ?_)
      (repeat (refine em_pure hB kX8_fault rfl ?_))
      refine em_iw (L := 5) hB kX8_fault rfl rfl rfl rfl rfl (by omega) rfl ?_
      refine em_hpE (hp' := em_lm n m dl I J rv 0 (em_fil (I 81) (-1) (i + 1))) ((em_sI2 (em_hm n m dl (va_up I 53 (va_up (I 53) 39 0)) J rv) 81 _ _).trans (by rw [← em_fil_s]; rfl)) ?_
      (repeat (refine em_pureT 7 hB kX8_fault rfl rfl ?_))
      refine em_loc (lc' := [(0, .ref 53), (1, .int (nI i + 1))]) rfl ?_
      rw [nI_1]
      exact ih (i + 1) (by omega)
  have front : ∀ fin : Option Value × em_Hp, em_n fin.2 = n → em_m fin.2 = m → em_EW Γ 6 mX8_fault (em_hm n m dl I J rv) fin 31 [(0, .ref 53), (1, .int (nI (em_bl (I 77) S 0)))] [] (em_lm n m dl I J rv 0 (em_fil (I 81) (-1) 5)) → em_EW Γ 6 mX8_fault (em_hm n m dl I J rv) fin 0 (lv_args 0 [.ref 53]) [] (em_hm n m dl I J rv) := by
    intro fin f1 f2 k
    (repeat (refine em_pure hB kX8_fault rfl ?_))
    refine em_pi hB kX8_fault rfl rfl rfl rfl rfl rfl rfl ?_
    (repeat (refine em_pureT 7 hB kX8_fault rfl rfl ?_))
    refine em_loc (lc' := [(0, .ref 53), (1, .int (nI 0))]) rfl ?_
    refine em_hpE (hp' := em_lm n m dl I J rv 0 (em_fil (I 81) (-1) 0)) (by rw [em_fil_0]; exact (em_sI_id (em_hm n m dl (va_up I 53 (va_up (I 53) 39 0)) J rv) 81).symm) ?_
    exact fill fin f1 f2 k 5 0 (by omega)
  by_cases h0 : em_bl (I 77) S 0 = S
  · have e1 : em_fltM (I 77) S (em_fil (I 81) (-1) 5) = (-1, 0, em_fil (I 81) (-1) 5) := by rw [em_fltM, if_pos h0]
    rw [e1]
    refine em_MC_of (Nat.le_refl _) (Nat.le_refl _) (by decide +kernel) rfl (Nat.le_of_ble_eq_true rfl) ?_
    refine front _ rfl rfl ?_
    (repeat (refine em_pure hB kX8_fault rfl ?_))
    refine em_branch kX8_fault rfl (fun (h : ¬ nI (em_bl (I 77) S 0) = I 53 35) => absurd (by rw [h0, hS]) h) (fun _ => ?_)
    (repeat (refine em_pure hB kX8_fault rfl ?_))
    exact em_iret kX8_fault rfl rfl rfl rfl
  · have e1 : em_fltM (I 77) S (em_fil (I 81) (-1) 5) = em_prsM (I 77) S (S + 1) (em_bl (I 77) S 0) 0 (em_fil (I 81) (-1) 5) := by rw [em_fltM, if_neg h0]
    rw [e1]
    have hE := loop (S + 1) (em_bl (I 77) S 0) 0 (em_fil (I 81) (-1) 5) (by omega) hb0.2
    generalize em_prsM (I 77) S (S + 1) (em_bl (I 77) S 0) 0 (em_fil (I 81) (-1) 5) = res at *
    refine em_MC_of (Nat.le_refl _) (Nat.le_refl _) (by decide +kernel) rfl (Nat.le_of_ble_eq_true rfl) ?_
    refine front _ rfl rfl ?_
    (repeat (refine em_pure hB kX8_fault rfl ?_))
    refine em_branch kX8_fault rfl (fun _ => ?_) (fun (h : ¬ ¬ nI (em_bl (I 77) S 0) = I 53 35) => absurd (by rw [hS]; exact fun z => h0 ((nI_eq (by omega) (by omega)).mp z)) h)
    exact hE
end MFlt
