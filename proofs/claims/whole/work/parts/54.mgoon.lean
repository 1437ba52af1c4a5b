/-! THE REFERENCE'S SEARCH, WALKED -/
section MTour2
variable {Γ : em_Cx} {n m : Nat} {dl : Nat → Nat} {I : Nat → Nat → Int32} {J : Nat → Nat → Int64} {rv : em_Rv}
theorem s_mGoOn (hB : 85 ≤ n) {T : Nat} (hT : I 53 4 = nI T) (hT8 : T ≤ 8) : ∀ (f d t : Nat) (ar br sn : Int32) (s : em_GS), em_un sn T < f → d + f ≤ 8 → t < T → em_MC Γ (f + 1) mX8_goOn [.ref 53, .int (nI d), .int (nI t), .int ar, .int br, .int sn] (em_mgr n m dl I J rv s) none (em_mgr n m dl I J rv (em_gon I T f d t ar br sn s)) := by
  intro f
  induction f with
  | zero =>
    intro d t ar br sn s hu hd ht
    omega
  | succ f ih =>
    intro d t ar br sn s hu hd ht
    refine em_MC_of (Nat.le_refl _) (Nat.le_refl _) (by decide +kernel) rfl (Nat.le_of_ble_eq_true rfl) ?_
    rw [em_gon]
    (repeat (refine em_pure hB kX8_goOn rfl ?_))
    refine em_ia (L := 8) hB kX8_goOn rfl rfl rfl rfl rfl (show t < 8 by omega) rfl ?_
    refine em_mmax (x := ar) (y := I 71 t) kX8_goOn rfl lM8 rfl (by omega) (Nat.le_of_ble_eq_true rfl) (Nat.le_refl _) (Nat.le_refl _) ?_
    (repeat (refine em_pure hB kX8_goOn rfl ?_))
    refine em_ia (L := 8) hB kX8_goOn rfl rfl rfl rfl rfl (show t < 8 by omega) rfl ?_
    refine em_branch kX8_goOn rfl (fun (h : em_atg I t ar ≤ I 72 t) => ?_) (fun (h : ¬ em_atg I t ar ≤ I 72 t) => ?_)
    case refine_2 =>
      rw [if_pos (show I 72 t < em_atg I t ar from Int32.not_le.mp h)]
      (repeat (refine em_pure hB kX8_goOn rfl ?_))
      exact em_vret kX8_goOn rfl rfl rfl
    rw [if_neg (show ¬ I 72 t < em_atg I t ar from Int32.not_lt.mpr h)]
    (repeat (refine em_pure hB kX8_goOn rfl ?_))
    refine em_iw (L := 8) hB kX8_goOn rfl rfl rfl rfl rfl (show d < 8 by omega) rfl ?_
    refine em_hpE em_mgr75 ?_
    (repeat (refine em_pure hB kX8_goOn rfl ?_))
    refine em_ia (L := 8) hB kX8_goOn rfl rfl rfl rfl rfl (show t < 8 by omega) rfl ?_
    (repeat (refine em_pureT 66 hB kX8_goOn rfl rfl ?_))
    refine em_loc (lc' := [(0, .ref 53), (1, .int (nI d)), (2, .int (nI t)), (3, .int ar), (4, .int br), (5, .int sn), (6, .int (em_atg I t ar)), (7, .int (br + I 73 t)), (8, .int (em_net I t ar br)), (9, .int (nI d + 1))]) rfl ?_
    refine em_hpE (hp' := em_mgr n m dl I J rv (em_g1s s d t)) rfl ?_
    rw [nI_1]
    generalize em_net I t ar br = v
    generalize em_atg I t ar = at'
    generalize em_g1s s d t = s1
    have second : ∀ (s2 : em_GS) e k, k + e = T → em_EW Γ (f + 1 + 1) mX8_goOn (em_mgr n m dl I J rv s) (none, em_mgr n m dl I J rv (em_fold (fun k s => if em_hs sn k then s else em_gon I T f (d + 1) k (at' + 1 + I 74 (8 * t + k)) (br + I 73 t) (sn ||| (1 <<< (nI k &&& 31))) s) T s2)) 156 [(0, .ref 53), (2, .int (nI t)), (5, .int sn), (6, .int at'), (7, .int (br + I 73 t)), (9, .int (nI (d + 1))), (10, .int (nI k))] [] (em_mgr n m dl I J rv (em_fold (fun k s => if em_hs sn k then s else em_gon I T f (d + 1) k (at' + 1 + I 74 (8 * t + k)) (br + I 73 t) (sn ||| (1 <<< (nI k &&& 31))) s) k s2)) := by
      intro s2 e
      induction e with
      | zero =>
        intro k hk
        obtain rfl : k = T := by omega
        (repeat (refine em_pure hB kX8_goOn rfl ?_))
        refine em_branch kX8_goOn rfl (fun _ => ?_) (fun z => absurd (by show I 53 4 ≤ nI k; rw [hT]; exact nI_le (Nat.le_refl k) (by omega)) z)
        (repeat (refine em_pure hB kX8_goOn rfl ?_))
        exact em_vret kX8_goOn rfl rfl rfl
      | succ e ihe =>
        intro k hk
        have ihk := ihe (k + 1) (by omega)
        generalize em_fold (fun k s => if em_hs sn k then s else em_gon I T f (d + 1) k (at' + 1 + I 74 (8 * t + k)) (br + I 73 t) (sn ||| (1 <<< (nI k &&& 31))) s) T s2 = res at *
        rw [em_fold] at ihk
        generalize em_fold (fun k s => if em_hs sn k then s else em_gon I T f (d + 1) k (at' + 1 + I 74 (8 * t + k)) (br + I 73 t) (sn ||| (1 <<< (nI k &&& 31))) s) k s2 = s3 at *
        (repeat (refine em_pure hB kX8_goOn rfl ?_))
        refine em_branch kX8_goOn rfl (fun z => absurd z (by show ¬ I 53 4 ≤ nI k; rw [hT]; exact nI_ge (by omega) (by omega))) (fun _ => ?_)
        (repeat (refine em_pure hB kX8_goOn rfl ?_))
        refine em_branch kX8_goOn rfl (fun (h : em_hs sn k) => ?_) (fun (h : ¬ em_hs sn k) => ?_)
        · rw [if_pos h] at ihk
          (repeat (refine em_pureT 156 hB kX8_goOn rfl rfl ?_))
          refine em_loc (lc' := [(0, .ref 53), (2, .int (nI t)), (5, .int sn), (6, .int at'), (7, .int (br + I 73 t)), (9, .int (nI (d + 1))), (10, .int (nI k + 1))]) rfl ?_
          rw [nI_1]
          exact ihk
        · rw [if_neg h] at ihk
          have hun := em_un_or sn (by omega) h T hT8
          rw [if_pos (show k < T by omega)] at hun
          (repeat (refine em_pure hB kX8_goOn rfl ?_))
          refine em_ia (L := 64) hB kX8_goOn rfl rfl rfl rfl em_w8' (show 8 * t + k < 64 by omega) rfl ?_
          (repeat (refine em_pure hB kX8_goOn rfl ?_))
          refine em_callV (μ' := mX8_goOn) (c1 := 8) kX8_goOn rfl lX8_184 tX8_goOn (by decide) rfl (em_ltB hB rfl) (ih (d + 1) k (at' + 1 + I 74 (8 * t + k)) (br + I 73 t) (sn ||| (1 <<< (nI k &&& 31))) s3 (by omega) (by omega) (by omega)) rfl rfl (Nat.le_refl _) (Nat.le_of_ble_eq_true rfl) (Nat.le_refl _) (Nat.le_refl _) ?_
          (repeat (refine em_pureT 156 hB kX8_goOn rfl rfl ?_))
          refine em_loc (lc' := [(0, .ref 53), (2, .int (nI t)), (5, .int sn), (6, .int at'), (7, .int (br + I 73 t)), (9, .int (nI (d + 1))), (10, .int (nI k + 1))]) rfl ?_
          rw [nI_1]
          exact ihk
    have next : ∀ s2 : em_GS, em_EW Γ (f + 1 + 1) mX8_goOn (em_mgr n m dl I J rv s) (none, em_mgr n m dl I J rv (em_fold (fun k s => if em_hs sn k then s else em_gon I T f (d + 1) k (at' + 1 + I 74 (8 * t + k)) (br + I 73 t) (sn ||| (1 <<< (nI k &&& 31))) s) T s2)) 153 [(0, .ref 53), (2, .int (nI t)), (5, .int sn), (6, .int at'), (7, .int (br + I 73 t)), (9, .int (nI (d + 1)))] [] (em_mgr n m dl I J rv s2) := by
      intro s2
      have z := second s2 T 0 (by omega)
      generalize em_fold (fun k s => if em_hs sn k then s else em_gon I T f (d + 1) k (at' + 1 + I 74 (8 * t + k)) (br + I 73 t) (sn ||| (1 <<< (nI k &&& 31))) s) T s2 = res at *
      (repeat (refine em_pureT 156 hB kX8_goOn rfl rfl ?_))
      refine em_loc (lc' := [(0, .ref 53), (2, .int (nI t)), (5, .int sn), (6, .int at'), (7, .int (br + I 73 t)), (9, .int (nI (d + 1))), (10, .int (nI 0))]) rfl ?_
      exact z
    have take : em_gbt s1 (d + 1) v → em_EW Γ (f + 1 + 1) mX8_goOn (em_mgr n m dl I J rv s) (none, em_mgr n m dl I J rv (em_fold (fun k s => if em_hs sn k then s else em_gon I T f (d + 1) k (at' + 1 + I 74 (8 * t + k)) (br + I 73 t) (sn ||| (1 <<< (nI k &&& 31))) s) T (em_gkp s1 (d + 1) v))) 111 [(0, .ref 53), (2, .int (nI t)), (5, .int sn), (6, .int at'), (7, .int (br + I 73 t)), (8, .int v), (9, .int (nI (d + 1)))] [] (em_mgr n m dl I J rv s1) := by
      intro h
      rw [em_gkp, if_pos h]
      have nx := next (nI (d + 1), v, va_cpy s1.2.2.2 s1.2.2.1 0 0 (d + 1), s1.2.2.2)
      generalize em_fold (fun k s => if em_hs sn k then s else em_gon I T f (d + 1) k (at' + 1 + I 74 (8 * t + k)) (br + I 73 t) (sn ||| (1 <<< (nI k &&& 31))) s) T (nI (d + 1), v, va_cpy s1.2.2.2 s1.2.2.1 0 0 (d + 1), s1.2.2.2) = res at *
      have copy : ∀ e k, k + e = d + 1 → em_EW Γ (f + 1 + 1) mX8_goOn (em_mgr n m dl I J rv s) (none, em_mgr n m dl I J rv res) 126 [(0, .ref 53), (2, .int (nI t)), (5, .int sn), (6, .int at'), (7, .int (br + I 73 t)), (9, .int (nI (d + 1))), (10, .int (nI k))] [] (em_mgr n m dl I J rv (nI (d + 1), v, va_cpy s1.2.2.2 s1.2.2.1 0 0 k, s1.2.2.2)) := by
        intro e
        induction e with
        | zero =>
          intro k hk
          obtain rfl : k = d + 1 := by omega
          (repeat (refine em_pure hB kX8_goOn rfl ?_))
          refine em_branch kX8_goOn rfl (fun _ => ?_) (fun z => absurd (nI_le (Nat.le_refl (d + 1)) (by omega)) z)
          exact em_loc rfl nx
        | succ e ihe =>
          intro k hk
          (repeat (refine em_pure hB kX8_goOn rfl ?_))
          refine em_branch kX8_goOn rfl (fun z => absurd z (nI_ge (by omega) (by omega))) (fun _ => ?_)
          (repeat (refine em_pure hB kX8_goOn rfl ?_))
          refine em_ia (L := 8) hB kX8_goOn rfl rfl rfl rfl rfl (show k < 8 by omega) rfl ?_
          refine em_iw (L := 8) hB kX8_goOn rfl rfl rfl rfl rfl (show k < 8 by omega) rfl ?_
          refine em_hpE em_mgr76 ?_
          refine em_hpE (hp' := em_mgr n m dl I J rv (nI (d + 1), v, va_cpy s1.2.2.2 s1.2.2.1 0 0 (k + 1), s1.2.2.2)) ?_ ?_
          · have z := em_cpyS s1.2.2.2 s1.2.2.1 0 k
            rw [Nat.zero_add] at z
            show em_mgr n m dl I J rv (nI (d + 1), v, va_up (va_cpy s1.2.2.2 s1.2.2.1 0 0 k) k (s1.2.2.2 k), s1.2.2.2) = _
            rw [z]
          (repeat (refine em_pureT 126 hB kX8_goOn rfl rfl ?_))
          refine em_loc (lc' := [(0, .ref 53), (2, .int (nI t)), (5, .int sn), (6, .int at'), (7, .int (br + I 73 t)), (9, .int (nI (d + 1))), (10, .int (nI k + 1))]) rfl ?_
          rw [nI_1]
          exact ihe (k + 1) (by omega)
      (repeat (refine em_pure hB kX8_goOn rfl ?_))
      refine em_pi hB kX8_goOn rfl rfl rfl rfl rfl rfl rfl ?_
      refine em_hpE em_mgr32 ?_
      (repeat (refine em_pure hB kX8_goOn rfl ?_))
      refine em_pi hB kX8_goOn rfl rfl rfl rfl rfl rfl rfl ?_
      refine em_hpE em_mgr31 ?_
      (repeat (refine em_pureT 126 hB kX8_goOn rfl rfl ?_))
      refine em_loc (lc' := [(0, .ref 53), (2, .int (nI t)), (5, .int sn), (6, .int at'), (7, .int (br + I 73 t)), (9, .int (nI (d + 1))), (10, .int (nI 0))]) rfl ?_
      have z := copy (d + 1) 0 (by omega)
      rw [em_cpy0] at z
      exact z
    have skip : ¬ em_gbt s1 (d + 1) v → em_EW Γ (f + 1 + 1) mX8_goOn (em_mgr n m dl I J rv s) (none, em_mgr n m dl I J rv (em_fold (fun k s => if em_hs sn k then s else em_gon I T f (d + 1) k (at' + 1 + I 74 (8 * t + k)) (br + I 73 t) (sn ||| (1 <<< (nI k &&& 31))) s) T (em_gkp s1 (d + 1) v))) 153 [(0, .ref 53), (2, .int (nI t)), (5, .int sn), (6, .int at'), (7, .int (br + I 73 t)), (9, .int (nI (d + 1)))] [] (em_mgr n m dl I J rv s1) := by
      intro h
      rw [em_gkp, if_neg h]
      exact next s1
    generalize em_fold (fun k s => if em_hs sn k then s else em_gon I T f (d + 1) k (at' + 1 + I 74 (8 * t + k)) (br + I 73 t) (sn ||| (1 <<< (nI k &&& 31))) s) T (em_gkp s1 (d + 1) v) = res at *
    (repeat (refine em_pure hB kX8_goOn rfl ?_))
    refine em_branch kX8_goOn rfl (fun (h1 : s1.2.1 < v) => em_loc rfl (take (Or.inl h1))) (fun (h1 : ¬ s1.2.1 < v) => ?_)
    (repeat (refine em_pure hB kX8_goOn rfl ?_))
    refine em_branch kX8_goOn rfl (fun (h2 : ¬ v = s1.2.1) => em_loc rfl (skip (fun z => z.elim h1 (fun z => h2 z.1)))) (fun (h2 : ¬ ¬ v = s1.2.1) => ?_)
    have h2 := Decidable.not_not.mp h2
    (repeat (refine em_pure hB kX8_goOn rfl ?_))
    refine em_branch kX8_goOn rfl (fun (h3 : nI (d + 1) < s1.1) => em_loc rfl (take (Or.inr ⟨h2, Or.inl h3⟩))) (fun (h3 : ¬ nI (d + 1) < s1.1) => ?_)
    (repeat (refine em_pure hB kX8_goOn rfl ?_))
    refine em_branch kX8_goOn rfl (fun (h4 : ¬ nI (d + 1) = s1.1) => em_loc rfl (skip (fun z => z.elim h1 (fun z => z.2.elim h3 (fun z => h4 z.1))))) (fun (h4 : ¬ ¬ nI (d + 1) = s1.1) => ?_)
    have h4 := Decidable.not_not.mp h4
    (repeat (refine em_pure hB kX8_goOn rfl ?_))
    refine em_callV (μ' := mX8_isLower) (c1 := 8) kX8_goOn rfl lX8_181 tX8_isLower (by decide) rfl (em_ltB hB rfl) (s_isLower hB (s := s1) (c := d + 1) (by omega)) rfl rfl (by omega) (Nat.le_of_ble_eq_true rfl) (Nat.le_refl _) (Nat.le_refl _) ?_
    refine em_bz kX8_goOn rfl (fun h5 => em_loc rfl (take (Or.inr ⟨h2, Or.inr ⟨h4, h5⟩⟩))) (fun h5 => em_loc rfl (skip (fun z => z.elim h1 (fun z => z.2.elim h3 (fun z => h5 z.2)))))
end MTour2
