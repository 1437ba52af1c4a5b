/-! THE REFERENCE'S CLAUSE AND FAULT -/
section MFault
variable {Γ : em_Cx} {n m : Nat} {dl : Nat → Nat} {I : Nat → Nat → Int32} {J : Nat → Nat → Int64} {rv : em_Rv}
theorem s_mClause (hB : 85 ≤ n) {p S : Nat} (hS : I 53 35 = nI S) (hS2 : S ≤ 200) (hp : p ≤ S) {F : Int32} {N : Nat → Int32} : ∃ (F' : Int32) (N' : Nat → Int32) (r : Int32), em_MC Γ 5 mX8_clause [.ref 53, .int (nI p)] (em_lm n m dl I J rv F N) (some (.int r)) (em_lm n m dl I J rv F' N') ∧ ((∃ bh s v, em_cl1 (I 77) S p = some (bh, s, v) ∧ em_tkM s v F N = some (F', N') ∧ r = nI bh) ∨ ((∀ bh s v, em_cl1 (I 77) S p = some (bh, s, v) → em_tkM s v F N = none) ∧ r = -1 ∧ F' = F ∧ N' = N)) := by
  by_cases h6 : em_fs (I 77) S p 6 0 < 6
  case neg =>
    have hle : ∀ d i, i + d = 6 → em_fs (I 77) S p d i ≤ 6 := by
      intro d
      induction d with
      | zero => intro i hi; show i ≤ 6; omega
      | succ d ih =>
        intro i hi
        rw [em_fs]
        split
        · omega
        · exact ih (i + 1) (by omega)
    have e6 : em_fs (I 77) S p 6 0 = 6 := by have := hle 6 0 (by omega); omega
    refine ⟨F, N, -1, ?_, Or.inr ⟨fun bh s v h => ?_, rfl, rfl, rfl⟩⟩
    · refine em_MC_of (Nat.le_refl _) (Nat.le_refl _) (by decide +kernel) rfl (Nat.le_of_ble_eq_true rfl) ?_
      refine s_mSort hB hS hS2 hp rfl rfl ?_
      rw [e6]
      (repeat (refine em_pure hB kX8_clause rfl ?_))
      refine em_branch kX8_clause rfl (fun h => absurd rfl h) (fun _ => ?_)
      (repeat (refine em_pure hB kX8_clause rfl ?_))
      exact em_iret kX8_clause rfl rfl rfl rfl
    · unfold em_cl1 at h; rw [if_neg h6] at h; cases h
  have hsw := em_fs_sw (I 77) S p 6 0 (by omega)
  have hcl : em_cl1 (I 77) S p = em_cl2 (I 77) S (em_fs (I 77) S p 6 0) (p + em_tl.getD (em_fs (I 77) S p 6 0) 0) (em_bl (I 77) S (p + em_tl.getD (em_fs (I 77) S p 6 0) 0)) (em_dg (I 77) S (em_bl (I 77) S (p + em_tl.getD (em_fs (I 77) S p 6 0) 0))) (em_bl (I 77) S (em_dg (I 77) S (em_bl (I 77) S (p + em_tl.getD (em_fs (I 77) S p 6 0) 0)))) := by rw [em_cl1, if_pos h6]
  rw [hcl]
  have srt : ∀ fin : Option Value × em_Hp, em_n fin.2 = n → em_m fin.2 = m → em_EW Γ 5 mX8_clause (em_lm n m dl I J rv F N) fin 26 [(0, .ref 53), (1, .int (nI p)), (2, .int (nI (em_fs (I 77) S p 6 0)))] [] (em_lm n m dl I J rv F N) → em_EW Γ 5 mX8_clause (em_lm n m dl I J rv F N) fin 0 (lv_args 0 [.ref 53, .int (nI p)]) [] (em_lm n m dl I J rv F N) := fun fin f1 f2 k => s_mSort hB hS hS2 hp f1 f2 k
  generalize hs : em_fs (I 77) S p 6 0 = s at *
  have hlen := em_tl_b s h6
  have hweS : p + em_tl.getD s 0 ≤ S := hsw.1
  generalize hwe : p + em_tl.getD s 0 = we at *
  have g1 := em_bl_le (f := I 77) hweS
  have blk1 : em_MC Γ 0 mX8_blanks [.ref 53, .int (nI we)] (em_lm n m dl I J rv F N) (some (.int (nI (em_bl (I 77) S we)))) (em_lm n m dl I J rv F N) := s_mBlanks (I := va_up (va_up I 53 (va_up (I 53) 39 F)) 81 N) hB hS hS2 hweS
  generalize hnb : em_bl (I 77) S we = nb at *
  have g2 := em_dg_le (f := I 77) g1.2
  have dig : ∀ fin : Option Value × em_Hp, em_EW Γ 5 mX8_clause (em_lm n m dl I J rv F N) fin 136 [(0, .ref 53), (1, .int (nI p)), (2, .int (nI s)), (4, .int (nI (em_dg (I 77) S nb))), (5, .int (em_val (I 77) (min (em_dg (I 77) S nb - nb) 5) nb 0)), (6, .int (nI (em_dg (I 77) S nb - nb)))] [] (em_lm n m dl I J rv F N) → em_EW Γ 5 mX8_clause (em_lm n m dl I J rv F N) fin 65 [(0, .ref 53), (1, .int (nI p)), (2, .int (nI s)), (3, .int (nI we)), (4, .int (nI nb)), (5, .int 0), (6, .int (nI 0))] [] (em_lm n m dl I J rv F N) := fun fin k => s_mDigits hB hS hS2 g1.2 k
  generalize hne : em_dg (I 77) S nb = ne at *
  have g3 := em_bl_le (f := I 77) g2.2
  have blk2 : em_MC Γ 0 mX8_blanks [.ref 53, .int (nI ne)] (em_lm n m dl I J rv F N) (some (.int (nI (em_bl (I 77) S ne)))) (em_lm n m dl I J rv F N) := s_mBlanks (I := va_up (va_up I 53 (va_up (I 53) 39 F)) 81 N) hB hS hS2 g2.2
  generalize hbh : em_bl (I 77) S ne = bh at *
  obtain ⟨u, hu, hWo⟩ := s_mWord Γ (em_lm n m dl I J rv F N) h6
  have front : ∀ fin : Option Value × em_Hp, em_n fin.2 = n → em_m fin.2 = m → em_EW Γ 5 mX8_clause (em_lm n m dl I J rv F N) fin 51 [(0, .ref 53), (1, .int (nI p)), (2, .int (nI s)), (3, .int (nI we)), (4, .int (nI nb))] [] (em_lm n m dl I J rv F N) → em_EW Γ 5 mX8_clause (em_lm n m dl I J rv F N) fin 0 (lv_args 0 [.ref 53, .int (nI p)]) [] (em_lm n m dl I J rv F N) := by
    intro fin hf1 hf2 k
    refine srt fin hf1 hf2 ?_
    (repeat (refine em_pure hB kX8_clause rfl ?_))
    refine em_branch kX8_clause rfl (fun _ => ?_) (fun (h : ¬ ¬ nI s = 6) => absurd (fun z => by have := (nI_eq (b := 6) (by omega) (by omega)).mp z; omega) h)
    (repeat (refine em_pure hB kX8_clause rfl ?_))
    refine em_callS (μ' := mX8_word) kX8_clause rfl lX8_220 tX8_word hWo rfl rfl (by decide) (Nat.le_of_ble_eq_true rfl) (by rw [hf1]; exact Nat.le_refl _) (by rw [hf2]; exact Nat.le_refl _) ?_
    refine em_callW (μ' := mJ0_length_8abf5) kX8_clause rfl lX8_199 tJ0_length_8abf5 h6 hu (s_length Γ _ h6 hu) rfl rfl (by decide) (Nat.le_of_ble_eq_true rfl) (by rw [hf1]; exact Nat.le_refl _) (by rw [hf2]; exact Nat.le_refl _) ?_
    (repeat (refine em_pureT 44 hB kX8_clause rfl rfl ?_))
    refine em_loc (lc' := [(0, .ref 53), (1, .int (nI p)), (2, .int (nI s)), (3, .int (nI p + nI (em_tl.getD s 0)))]) rfl ?_
    rw [nI_add, hwe]
    (repeat (refine em_pure hB kX8_clause rfl ?_))
    refine em_callV (μ' := mX8_blanks) (c1 := 8) kX8_clause rfl lX8_228 tX8_blanks (by decide) rfl (em_ltB hB rfl) blk1 rfl rfl (by decide) (Nat.le_of_ble_eq_true rfl) (by rw [hf1]; exact Nat.le_refl _) (by rw [hf2]; exact Nat.le_refl _) ?_
    (repeat (refine em_pureT 51 hB kX8_clause rfl rfl ?_))
    exact em_loc (lc' := [(0, .ref 53), (1, .int (nI p)), (2, .int (nI s)), (3, .int (nI we)), (4, .int (nI nb))]) rfl k
  by_cases hc1 : nb = we
  · refine ⟨F, N, -1, ?_, Or.inr ⟨fun bh' s' v' h => ?_, rfl, rfl, rfl⟩⟩
    · refine em_MC_of (Nat.le_refl _) (Nat.le_refl _) (by decide +kernel) rfl (Nat.le_of_ble_eq_true rfl) ?_
      refine front _ rfl rfl ?_
      (repeat (refine em_pure hB kX8_clause rfl ?_))
      refine em_branch kX8_clause rfl (fun (h : ¬ nI nb = nI we) => absurd (by rw [hc1]) h) (fun _ => ?_)
      (repeat (refine em_pure hB kX8_clause rfl ?_))
      exact em_iret kX8_clause rfl rfl rfl rfl
    · unfold em_cl2 at h; rw [if_pos (Or.inl hc1)] at h; cases h
  have mid : ∀ fin : Option Value × em_Hp, em_EW Γ 5 mX8_clause (em_lm n m dl I J rv F N) fin 136 [(0, .ref 53), (1, .int (nI p)), (2, .int (nI s)), (4, .int (nI ne)), (5, .int (em_val (I 77) (min (ne - nb) 5) nb 0)), (6, .int (nI (ne - nb)))] [] (em_lm n m dl I J rv F N) → em_EW Γ 5 mX8_clause (em_lm n m dl I J rv F N) fin 51 [(0, .ref 53), (1, .int (nI p)), (2, .int (nI s)), (3, .int (nI we)), (4, .int (nI nb))] [] (em_lm n m dl I J rv F N) := by
    intro fin k
    (repeat (refine em_pure hB kX8_clause rfl ?_))
    refine em_branch kX8_clause rfl (fun _ => ?_) (fun (h : ¬ ¬ nI nb = nI we) => absurd (fun z => hc1 ((nI_eq (by omega) (by omega)).mp z)) h)
    (repeat (refine em_pureT 65 hB kX8_clause rfl rfl ?_))
    refine em_loc (lc' := [(0, .ref 53), (1, .int (nI p)), (2, .int (nI s)), (3, .int (nI we)), (4, .int (nI nb)), (5, .int 0), (6, .int (nI 0))]) rfl ?_
    exact dig fin k
  by_cases hc2 : 1 ≤ ne - nb ∧ ne - nb ≤ 5
  case neg =>
    refine ⟨F, N, -1, ?_, Or.inr ⟨fun bh' s' v' h => ?_, rfl, rfl, rfl⟩⟩
    · refine em_MC_of (Nat.le_refl _) (Nat.le_refl _) (by decide +kernel) rfl (Nat.le_of_ble_eq_true rfl) ?_
      refine front _ rfl rfl (mid _ ?_)
      (repeat (refine em_pure hB kX8_clause rfl ?_))
      refine em_branch kX8_clause rfl (fun _ => ?_) (fun (h : ¬ nI (ne - nb) = 0) => ?_)
      · (repeat (refine em_pure hB kX8_clause rfl ?_))
        exact em_iret kX8_clause rfl rfl rfl rfl
      · have h1 : ¬ ne - nb = 0 := fun z => h (by rw [z]; rfl)
        (repeat (refine em_pure hB kX8_clause rfl ?_))
        refine em_branch kX8_clause rfl (fun _ => ?_) (fun (h2 : ¬ 5 < nI (ne - nb)) => ?_)
        · (repeat (refine em_pure hB kX8_clause rfl ?_))
          exact em_iret kX8_clause rfl rfl rfl rfl
        · exact absurd (nI_lt (a := 5) (b := ne - nb) (by omega) (by omega)) h2
    · unfold em_cl2 at h; rw [if_pos (Or.inr hc2)] at h; cases h
  have hcc : ¬ (nb = we ∨ ¬ (1 ≤ ne - nb ∧ ne - nb ≤ 5)) := fun z => z.elim hc1 (fun z => z hc2)
  rw [show min (ne - nb) 5 = ne - nb by omega] at mid
  generalize hv : em_val (I 77) (ne - nb) nb 0 = v at *
  have cl2 : ∀ bh' s' v', em_cl2 (I 77) S s we nb ne bh = some (bh', s', v') → bh' = bh ∧ s' = s ∧ v' = v ∧ (bh = S ∨ I 77 bh = 59) := by
    intro bh' s' v' h
    unfold em_cl2 at h
    rw [if_neg hcc] at h
    split at h
    · rename_i hz
      cases h
      exact ⟨rfl, rfl, hv, hz⟩
    · cases h
  -- from the number's check to the place 160
  have num : ∀ fin : Option Value × em_Hp, ¬ (s = 0 ∧ 7 < v) → em_EW Γ 5 mX8_clause (em_lm n m dl I J rv F N) fin 160 [(0, .ref 53), (1, .int (nI p)), (2, .int (nI s)), (4, .int (nI ne)), (5, .int v), (6, .int (nI (ne - nb)))] [] (em_lm n m dl I J rv F N) → em_EW Γ 5 mX8_clause (em_lm n m dl I J rv F N) fin 136 [(0, .ref 53), (1, .int (nI p)), (2, .int (nI s)), (4, .int (nI ne)), (5, .int v), (6, .int (nI (ne - nb)))] [] (em_lm n m dl I J rv F N) := by
    intro fin hno k
    (repeat (refine em_pure hB kX8_clause rfl ?_))
    refine em_branch kX8_clause rfl (fun (h : nI (ne - nb) = 0) => absurd ((nI_eq (b := 0) (by omega) (by omega)).mp h) (by omega)) (fun _ => ?_)
    (repeat (refine em_pure hB kX8_clause rfl ?_))
    refine em_branch kX8_clause rfl (fun (h : 5 < nI (ne - nb)) => absurd h (nI_nlt (a := 5) (by omega) (by omega))) (fun _ => ?_)
    (repeat (refine em_pure hB kX8_clause rfl ?_))
    refine em_branch kX8_clause rfl (fun _ => k) (fun (h : ¬ ¬ nI s = 0) => ?_)
    have hs0 : s = 0 := (nI_eq (b := 0) (by omega) (by omega)).mp (Decidable.not_not.mp h)
    (repeat (refine em_pure hB kX8_clause rfl ?_))
    refine em_branch kX8_clause rfl (fun _ => k) (fun (h : ¬ v ≤ 7) => absurd ⟨hs0, Int32.not_le.mp h⟩ hno)
  by_cases h7 : s = 0 ∧ 7 < v
  · refine ⟨F, N, -1, ?_, Or.inr ⟨fun bh' s' v' h => ?_, rfl, rfl, rfl⟩⟩
    · refine em_MC_of (Nat.le_refl _) (Nat.le_refl _) (by decide +kernel) rfl (Nat.le_of_ble_eq_true rfl) ?_
      refine front _ rfl rfl (mid _ ?_)
      (repeat (refine em_pure hB kX8_clause rfl ?_))
      refine em_branch kX8_clause rfl (fun (h : nI (ne - nb) = 0) => absurd ((nI_eq (b := 0) (by omega) (by omega)).mp h) (by omega)) (fun _ => ?_)
      (repeat (refine em_pure hB kX8_clause rfl ?_))
      refine em_branch kX8_clause rfl (fun (h : 5 < nI (ne - nb)) => absurd h (nI_nlt (a := 5) (by omega) (by omega))) (fun _ => ?_)
      (repeat (refine em_pure hB kX8_clause rfl ?_))
      refine em_branch kX8_clause rfl (fun (h : ¬ nI s = 0) => absurd (by rw [h7.1]; rfl) h) (fun _ => ?_)
      (repeat (refine em_pure hB kX8_clause rfl ?_))
      refine em_branch kX8_clause rfl (fun (h : v ≤ 7) => absurd h7.2 (Int32.not_lt.mpr h)) (fun _ => ?_)
      (repeat (refine em_pure hB kX8_clause rfl ?_))
      exact em_iret kX8_clause rfl rfl rfl rfl
    · obtain ⟨rfl, rfl, rfl, -⟩ := cl2 _ _ _ h
      rw [em_tkM, if_pos h7.1, if_neg (fun z => z.1 h7.2)]
  have back : ∀ fin : Option Value × em_Hp, em_n fin.2 = n → em_m fin.2 = m → em_EW Γ 5 mX8_clause (em_lm n m dl I J rv F N) fin 168 [(0, .ref 53), (1, .int (nI p)), (2, .int (nI s)), (5, .int v), (7, .int (nI bh))] [] (em_lm n m dl I J rv F N) → em_EW Γ 5 mX8_clause (em_lm n m dl I J rv F N) fin 160 [(0, .ref 53), (1, .int (nI p)), (2, .int (nI s)), (4, .int (nI ne)), (5, .int v), (6, .int (nI (ne - nb)))] [] (em_lm n m dl I J rv F N) := by
    intro fin hf1 hf2 k
    (repeat (refine em_pure hB kX8_clause rfl ?_))
    refine em_callV (μ' := mX8_blanks) (c1 := 8) kX8_clause rfl lX8_228 tX8_blanks (by decide) rfl (em_ltB hB rfl) blk2 rfl rfl (by decide) (Nat.le_of_ble_eq_true rfl) (by rw [hf1]; exact Nat.le_refl _) (by rw [hf2]; exact Nat.le_refl _) ?_
    (repeat (refine em_pureT 168 hB kX8_clause rfl rfl ?_))
    exact em_loc (lc' := [(0, .ref 53), (1, .int (nI p)), (2, .int (nI s)), (5, .int v), (7, .int (nI bh))]) rfl k
  by_cases hend : bh = S ∨ I 77 bh = 59
  case neg =>
    refine ⟨F, N, -1, ?_, Or.inr ⟨fun bh' s' v' h => absurd (cl2 _ _ _ h).2.2.2 hend, rfl, rfl, rfl⟩⟩
    refine em_MC_of (Nat.le_refl _) (Nat.le_refl _) (by decide +kernel) rfl (Nat.le_of_ble_eq_true rfl) ?_
    refine front _ rfl rfl (mid _ (num _ h7 (back _ rfl rfl ?_)))
    have h1 : ¬ bh = S := fun z => hend (Or.inl z)
    (repeat (refine em_pure hB kX8_clause rfl ?_))
    refine em_branch kX8_clause rfl (fun (h : I 53 35 ≤ nI bh) => absurd h (by rw [hS]; exact nI_ge (by omega) (by omega))) (fun _ => ?_)
    (repeat (refine em_pure hB kX8_clause rfl ?_))
    refine em_ia (L := 220) hB kX8_clause rfl rfl rfl rfl rfl (by omega) rfl ?_
    (repeat (refine em_pure hB kX8_clause rfl ?_))
    refine em_branch kX8_clause rfl (fun (h : I 77 bh = 59) => absurd (Or.inr h) hend) (fun _ => ?_)
    (repeat (refine em_pure hB kX8_clause rfl ?_))
    exact em_iret kX8_clause rfl rfl rfl rfl
  have ecl : em_cl2 (I 77) S s we nb ne bh = some (bh, s, v) := by rw [em_cl2, if_neg hcc, if_pos hend, hv]
  have tail : ∀ fin : Option Value × em_Hp, em_EW Γ 5 mX8_clause (em_lm n m dl I J rv F N) fin 191 [(0, .ref 53), (1, .int (nI p)), (2, .int (nI s)), (5, .int v), (7, .int (nI bh))] [] (em_lm n m dl I J rv F N) → em_EW Γ 5 mX8_clause (em_lm n m dl I J rv F N) fin 168 [(0, .ref 53), (1, .int (nI p)), (2, .int (nI s)), (5, .int v), (7, .int (nI bh))] [] (em_lm n m dl I J rv F N) := by
    intro fin k
    (repeat (refine em_pure hB kX8_clause rfl ?_))
    refine em_branch kX8_clause rfl (fun _ => k) (fun (h : ¬ I 53 35 ≤ nI bh) => ?_)
    have h1 : ¬ bh = S := fun z => h (by rw [z, hS]; exact nI_le (Nat.le_refl _) (by omega))
    (repeat (refine em_pure hB kX8_clause rfl ?_))
    refine em_ia (L := 220) hB kX8_clause rfl rfl rfl rfl rfl (by omega) rfl ?_
    (repeat (refine em_pure hB kX8_clause rfl ?_))
    exact em_branch kX8_clause rfl (fun _ => k) (fun h2 => absurd (hend.resolve_left h1) h2)
  by_cases hs0 : s = 0
  · subst hs0
    by_cases hag : (F >>> (v &&& 31)) &&& 1 = 1
    · refine ⟨F, N, -1, ?_, Or.inr ⟨fun bh' s' v' h => ?_, rfl, rfl, rfl⟩⟩
      · refine em_MC_of (Nat.le_refl _) (Nat.le_refl _) (by decide +kernel) rfl (Nat.le_of_ble_eq_true rfl) ?_
        refine front _ rfl rfl (mid _ (num _ h7 (back _ rfl rfl (tail _ ?_))))
        (repeat (refine em_pure hB kX8_clause rfl ?_))
        refine em_branch kX8_clause rfl (fun h => absurd rfl h) (fun _ => ?_)
        (repeat (refine em_pure hB kX8_clause rfl ?_))
        refine em_branch kX8_clause rfl (fun h => absurd hag h) (fun _ => ?_)
        (repeat (refine em_pure hB kX8_clause rfl ?_))
        refine em_branch kX8_clause rfl (fun h => absurd h (by decide)) (fun _ => ?_)
        (repeat (refine em_pure hB kX8_clause rfl ?_))
        exact em_iret kX8_clause rfl rfl rfl rfl
      · obtain ⟨rfl, rfl, rfl, -⟩ := cl2 _ _ _ h
        rw [em_tkM, if_pos rfl, if_neg (fun z => z.2 hag)]
    · refine ⟨F ||| (1 <<< (v &&& 31)), N, nI bh, ?_, Or.inl ⟨bh, 0, v, ecl, by rw [em_tkM, if_pos rfl, if_pos ⟨fun z => h7 ⟨rfl, z⟩, hag⟩], rfl⟩⟩
      refine em_MC_of (Nat.le_refl _) (Nat.le_refl _) (by decide +kernel) rfl (Nat.le_of_ble_eq_true rfl) ?_
      refine front _ rfl rfl (mid _ (num _ h7 (back _ rfl rfl (tail _ ?_))))
      (repeat (refine em_pure hB kX8_clause rfl ?_))
      refine em_branch kX8_clause rfl (fun h => absurd rfl h) (fun _ => ?_)
      (repeat (refine em_pure hB kX8_clause rfl ?_))
      refine em_branch kX8_clause rfl (fun _ => ?_) (fun h => absurd hag h)
      (repeat (refine em_pure hB kX8_clause rfl ?_))
      refine em_branch kX8_clause rfl (fun _ => ?_) (fun h => absurd rfl h)
      (repeat (refine em_pure hB kX8_clause rfl ?_))
      refine em_branch kX8_clause rfl (fun h => absurd rfl h) (fun _ => ?_)
      (repeat (refine em_pure hB kX8_clause rfl ?_))
      refine em_pi hB kX8_clause rfl rfl rfl rfl rfl rfl rfl ?_
      refine em_hpE em_lmF ?_
      (repeat (refine em_pure hB kX8_clause rfl ?_))
      exact em_iret kX8_clause rfl rfl rfl rfl
  · have hs1 : ¬ nI s = 0 := fun z => hs0 ((nI_eq (b := 0) (by omega) (by omega)).mp z)
    have es1 : nI s - 1 = nI (s - 1) := pk_sub (b := 1) (by omega)
    by_cases hag : N (s - 1) = -1
    · refine ⟨F, va_up N (s - 1) v, nI bh, ?_, Or.inl ⟨bh, s, v, ecl, by rw [em_tkM, if_neg hs0, if_pos hag], rfl⟩⟩
      refine em_MC_of (Nat.le_refl _) (Nat.le_refl _) (by decide +kernel) rfl (Nat.le_of_ble_eq_true rfl) ?_
      refine front _ rfl rfl (mid _ (num _ h7 (back _ rfl rfl (tail _ ?_))))
      (repeat (refine em_pure hB kX8_clause rfl ?_))
      refine em_branch kX8_clause rfl (fun _ => ?_) (fun h => absurd hs1 h)
      (repeat (refine em_pure hB kX8_clause rfl ?_))
      refine em_ia (L := 5) hB kX8_clause rfl rfl rfl rfl es1 (by omega) rfl ?_
      (repeat (refine em_pure hB kX8_clause rfl ?_))
      refine em_branch kX8_clause rfl (fun _ => ?_) (fun h => absurd hag h)
      (repeat (refine em_pure hB kX8_clause rfl ?_))
      refine em_branch kX8_clause rfl (fun _ => ?_) (fun h => absurd rfl h)
      (repeat (refine em_pure hB kX8_clause rfl ?_))
      refine em_branch kX8_clause rfl (fun _ => ?_) (fun h => absurd hs1 h)
      (repeat (refine em_pure hB kX8_clause rfl ?_))
      refine em_iw (L := 5) hB kX8_clause rfl rfl rfl rfl es1 (by omega) rfl ?_
      refine em_hpE (hp' := em_lm n m dl I J rv F (va_up N (s - 1) v)) (em_sI2 (em_hm n m dl (va_up I 53 (va_up (I 53) 39 F)) J rv) 81 N _) ?_
      (repeat (refine em_pure hB kX8_clause rfl ?_))
      exact em_iret kX8_clause rfl rfl rfl rfl
    · refine ⟨F, N, -1, ?_, Or.inr ⟨fun bh' s' v' h => ?_, rfl, rfl, rfl⟩⟩
      · refine em_MC_of (Nat.le_refl _) (Nat.le_refl _) (by decide +kernel) rfl (Nat.le_of_ble_eq_true rfl) ?_
        refine front _ rfl rfl (mid _ (num _ h7 (back _ rfl rfl (tail _ ?_))))
        (repeat (refine em_pure hB kX8_clause rfl ?_))
        refine em_branch kX8_clause rfl (fun _ => ?_) (fun h => absurd hs1 h)
        (repeat (refine em_pure hB kX8_clause rfl ?_))
        refine em_ia (L := 5) hB kX8_clause rfl rfl rfl rfl es1 (by omega) rfl ?_
        (repeat (refine em_pure hB kX8_clause rfl ?_))
        refine em_branch kX8_clause rfl (fun h => absurd h hag) (fun _ => ?_)
        (repeat (refine em_pure hB kX8_clause rfl ?_))
        refine em_branch kX8_clause rfl (fun h => absurd h (by decide)) (fun _ => ?_)
        (repeat (refine em_pure hB kX8_clause rfl ?_))
        exact em_iret kX8_clause rfl rfl rfl rfl
      · obtain ⟨rfl, rfl, rfl, -⟩ := cl2 _ _ _ h
        rw [em_tkM, if_neg hs0, if_neg hag]
end MFault
