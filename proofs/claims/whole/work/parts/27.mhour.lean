/-! THE REFERENCE'S HOUR -/
def em_obw (w : Nat → Int32) (c d : Nat) : Int32 := match em_nb1 c d with
  | none => -1
  | some o => if w o = 0 then nI o else -1
theorem em_RR_sw (a b c d : Nat) (s t : Bool) (k : Nat) (hk : ¬ k = 53) : em_RR (a, b, c, d, s) k = em_RR (a, b, c, d, t) k := by
  have h : Nat.beq k 53 = false := by
    cases hb : Nat.beq k 53 with
    | false => rfl
    | true => exact absurd (Nat.eq_of_beq_eq_true hb) hk
  funext j
  simp only [em_RR, h, cond_false]
theorem em_RR_swap (a b c d : Nat) (s : Bool) : va_up (va_up (em_RR (a, b, c, d, s)) 53 (va_up (em_RR (a, b, c, d, s) 53) 42 (some (em_mo (a, b, c, d, s))))) 53 (va_up (va_up (em_RR (a, b, c, d, s) 53) 42 (some (em_mo (a, b, c, d, s)))) 43 (some (em_mb (a, b, c, d, s)))) = em_RR (a, b, c, d, !s) := by
  rw [bx_uu]
  funext k
  by_cases hk : k = 53
  · subst hk
    rw [va_up_self]
    funext j
    by_cases h43 : j = 43
    · subst h43; rw [va_up_self]; cases s <;> rfl
    · rw [va_up_ne _ _ h43]
      by_cases h42 : j = 42
      · subst h42; rw [va_up_self]; cases s <;> rfl
      · rw [va_up_ne _ _ h42]
        have g3 : Nat.beq j 43 = false := by
          cases hb : Nat.beq j 43 with
          | false => rfl
          | true => exact absurd (Nat.eq_of_beq_eq_true hb) h43
        have g2 : Nat.beq j 42 = false := by
          cases hb : Nat.beq j 42 with
          | false => rfl
          | true => exact absurd (Nat.eq_of_beq_eq_true hb) h42
        show em_RR _ 53 j = em_RR _ 53 j
        simp only [em_RR, g3, g2, cond_false]
  · rw [va_up_ne _ _ hk]
    exact em_RR_sw a b c d s (!s) k hk
section MHour
variable {Γ : em_Cx} {n m : Nat} {dl : Nat → Nat} {I : Nat → Nat → Int32} {J : Nat → Nat → Int64} {rv : em_Rv}
theorem s_mBeside (hB : 85 ≤ n) {c d : Nat} (hc : c < 64) (hd : d < 4) : em_MC Γ 1 mX8_beside [.ref 53, .int (nI c), .int (nI d)] (em_hm n m dl I J rv) (some (.int (em_obw (I 82) c d))) (em_hm n m dl I J rv) := by
  refine em_MC_of (Nat.le_refl _) (Nat.le_refl _) (by decide +kernel) rfl (Nat.le_of_ble_eq_true rfl) ?_
  have e1 : nI c / 8 = nI (c / 8) := pk_div (d := 8) (by omega) (by omega) (by omega)
  have e2 : nI c - nI c / 8 * 8 = nI (c % 8) := pk_rem (d := 8) (by omega) (by omega) (by omega)
  have tail : ∀ (x y r : Int32), ((¬ (0 ≤ x ∧ x ≤ 7) ∧ r = -1) ∨ ((0 ≤ x ∧ x ≤ 7) ∧ ((¬ (0 ≤ y ∧ y ≤ 7) ∧ r = -1) ∨ ((0 ≤ y ∧ y ≤ 7) ∧ ∃ o, o < 64 ∧ 8 * y + x = nI o ∧ ((I 82 o = 0 ∧ r = nI o) ∨ (¬ I 82 o = 0 ∧ r = -1)))))) → em_EW Γ 1 mX8_beside (em_hm n m dl I J rv) (some (.int r), em_hm n m dl I J rv) 50 [(0, .ref 53), (3, .int x), (4, .int y)] [] (em_hm n m dl I J rv) := by
    intro x y r h
    (repeat (refine em_pure hB kX8_beside rfl ?_))
    refine em_callS (μ' := mX8_in) kX8_beside rfl lX8_112 tX8_in (s_in Γ _ x 0 7) rfl rfl (by decide) (Nat.le_of_ble_eq_true rfl) (Nat.le_refl _) (Nat.le_refl _) ?_
    rcases h with ⟨h, rfl⟩ | ⟨h, h2⟩
    · refine em_bz kX8_beside rfl (fun h1 => absurd h1 h) (fun _ => ?_)
      (repeat (refine em_pure hB kX8_beside rfl ?_))
      exact em_iret kX8_beside rfl rfl rfl rfl
    refine em_bz kX8_beside rfl (fun _ => ?_) (fun h1 => absurd h h1)
    (repeat (refine em_pure hB kX8_beside rfl ?_))
    refine em_callS (μ' := mX8_in) kX8_beside rfl lX8_112 tX8_in (s_in Γ _ y 0 7) rfl rfl (by decide) (Nat.le_of_ble_eq_true rfl) (Nat.le_refl _) (Nat.le_refl _) ?_
    rcases h2 with ⟨h2, rfl⟩ | ⟨h2, o, ho, he, h3⟩
    · refine em_bz kX8_beside rfl (fun h1 => absurd h1 h2) (fun _ => ?_)
      (repeat (refine em_pure hB kX8_beside rfl ?_))
      exact em_iret kX8_beside rfl rfl rfl rfl
    refine em_bz kX8_beside rfl (fun _ => ?_) (fun h1 => absurd h2 h1)
    (repeat (refine em_pure hB kX8_beside rfl ?_))
    refine em_za (L := 64) hB kX8_beside rfl rfl rfl rfl he ho rfl ?_
    (repeat (refine em_pure hB kX8_beside rfl ?_))
    rcases h3 with ⟨h3, rfl⟩ | ⟨h3, rfl⟩
    · refine em_branch kX8_beside rfl (fun h4 => absurd h3 h4) (fun _ => ?_)
      (repeat (refine em_pure hB kX8_beside rfl ?_))
      exact em_iret kX8_beside rfl rfl rfl (by rw [← he])
    · refine em_branch kX8_beside rfl (fun _ => ?_) (fun h4 => absurd h3 h4)
      (repeat (refine em_pure hB kX8_beside rfl ?_))
      exact em_iret kX8_beside rfl rfl rfl rfl
  have hx8 : (0 : Int32) ≤ nI (c % 8) ∧ nI (c % 8) ≤ 7 := ⟨nI_pos' (by omega), nI_le (b := 7) (by omega) (by omega)⟩
  have hy8 : (0 : Int32) ≤ nI (c / 8) ∧ nI (c / 8) ≤ 7 := ⟨nI_pos' (by omega), nI_le (b := 7) (by omega) (by omega)⟩
  have hsum : ∀ p q : Nat, 8 * nI p + nI q = nI (8 * p + q) := fun p q => by rw [show (8 : Int32) = nI 8 from rfl, pk_mul, nI_add]
  have hm1 : ¬ ((0 : Int32) ≤ nI 0 + (-1) ∧ nI 0 + (-1) ≤ 7) := by decide
  have h8 : ¬ ((0 : Int32) ≤ nI 7 + 1 ∧ nI 7 + 1 ≤ 7) := by decide
  have cellR : ∀ o, o < 64 → (I 82 o = 0 ∧ (if I 82 o = 0 then nI o else -1) = nI o) ∨ (¬ I 82 o = 0 ∧ (if I 82 o = 0 then nI o else -1) = (-1 : Int32)) := fun o _ => by
    by_cases hz : I 82 o = 0
    · exact Or.inl ⟨hz, if_pos hz⟩
    · exact Or.inr ⟨hz, if_neg hz⟩
  (repeat (refine em_pure hB kX8_beside rfl ?_))
  refine em_irem kX8_beside rfl (by decide) ?_
  rw [e2]
  (repeat (refine em_pure hB kX8_beside rfl ?_))
  rcases (show d = 0 ∨ d = 1 ∨ d = 2 ∨ d = 3 by omega) with rfl | rfl | rfl | rfl
  · refine em_branch kX8_beside rfl (fun _ => ?_) (fun h => absurd (by decide) h)
    (repeat (refine em_pure hB kX8_beside rfl ?_))
    refine em_branch kX8_beside rfl (fun _ => ?_) (fun h => absurd (by decide) h)
    (repeat (refine em_pure hB kX8_beside rfl ?_))
    refine em_idiv kX8_beside rfl (by decide) ?_
    rw [e1]
    (repeat (refine em_pure hB kX8_beside rfl ?_))
    refine em_branch kX8_beside rfl (fun h => absurd h (by decide)) (fun _ => ?_)
    (repeat (refine em_pureT 50 hB kX8_beside rfl rfl ?_))
    refine em_loc (lc' := [(0, .ref 53), (3, .int (nI (c % 8) + 0)), (4, .int (nI (c / 8) + (-1)))]) rfl ?_
    rw [Int32.add_zero]
    refine tail _ _ _ (Or.inr ⟨hx8, ?_⟩)
    rcases Nat.eq_zero_or_pos (c / 8) with hz | hz
    · rw [hz]
      exact Or.inl ⟨hm1, by simp [em_obw, em_nb1, hz]⟩
    · obtain ⟨q, hq⟩ : ∃ q, c / 8 = q + 1 := ⟨c / 8 - 1, by omega⟩
      rw [hq, pk_m1]
      refine Or.inr ⟨⟨nI_pos' (by omega), nI_le (b := 7) (by omega) (by omega)⟩, c - 8, by omega, by rw [hsum]; congr 1; omega, ?_⟩
      have e5 : em_obw (I 82) c 0 = if I 82 (c - 8) = 0 then nI (c - 8) else -1 := by simp [em_obw, em_nb1, hz]
      rw [e5]
      exact cellR _ (by omega)
  · refine em_branch kX8_beside rfl (fun _ => ?_) (fun h => absurd (by decide) h)
    (repeat (refine em_pure hB kX8_beside rfl ?_))
    refine em_branch kX8_beside rfl (fun _ => ?_) (fun h => absurd (by decide) h)
    (repeat (refine em_pure hB kX8_beside rfl ?_))
    refine em_idiv kX8_beside rfl (by decide) ?_
    rw [e1]
    (repeat (refine em_pure hB kX8_beside rfl ?_))
    refine em_branch kX8_beside rfl (fun _ => ?_) (fun h => absurd (by decide) h)
    (repeat (refine em_pure hB kX8_beside rfl ?_))
    refine em_branch kX8_beside rfl (fun h => absurd h (by decide)) (fun _ => ?_)
    (repeat (refine em_pureT 50 hB kX8_beside rfl rfl ?_))
    refine em_loc (lc' := [(0, .ref 53), (3, .int (nI (c % 8) + 0)), (4, .int (nI (c / 8) + 1))]) rfl ?_
    rw [Int32.add_zero]
    refine tail _ _ _ (Or.inr ⟨hx8, ?_⟩)
    by_cases hz : c / 8 < 7
    · rw [nI_1]
      refine Or.inr ⟨⟨nI_pos' (by omega), nI_le (b := 7) (by omega) (by omega)⟩, c + 8, by omega, by rw [hsum]; congr 1; omega, ?_⟩
      have e5 : em_obw (I 82) c 1 = if I 82 (c + 8) = 0 then nI (c + 8) else -1 := by simp [em_obw, em_nb1, hz]
      rw [e5]
      exact cellR _ (by omega)
    · rw [show c / 8 = 7 by omega]
      exact Or.inl ⟨h8, by simp [em_obw, em_nb1, hz]⟩
  · refine em_branch kX8_beside rfl (fun h => absurd h (by decide)) (fun _ => ?_)
    (repeat (refine em_pure hB kX8_beside rfl ?_))
    refine em_idiv kX8_beside rfl (by decide) ?_
    rw [e1]
    (repeat (refine em_pure hB kX8_beside rfl ?_))
    refine em_branch kX8_beside rfl (fun _ => ?_) (fun h => absurd (by decide) h)
    (repeat (refine em_pure hB kX8_beside rfl ?_))
    refine em_branch kX8_beside rfl (fun _ => ?_) (fun h => absurd (by decide) h)
    (repeat (refine em_pureT 50 hB kX8_beside rfl rfl ?_))
    refine em_loc (lc' := [(0, .ref 53), (3, .int (nI (c % 8) + (-1))), (4, .int (nI (c / 8) + 0))]) rfl ?_
    rw [Int32.add_zero]
    refine tail _ _ _ ?_
    rcases Nat.eq_zero_or_pos (c % 8) with hz | hz
    · rw [hz]
      exact Or.inl ⟨hm1, by simp [em_obw, em_nb1, hz]⟩
    · obtain ⟨q, hq⟩ : ∃ q, c % 8 = q + 1 := ⟨c % 8 - 1, by omega⟩
      rw [hq, pk_m1]
      refine Or.inr ⟨⟨nI_pos' (by omega), nI_le (b := 7) (by omega) (by omega)⟩, Or.inr ⟨hy8, c - 1, by omega, by rw [hsum]; congr 1; omega, ?_⟩⟩
      have e5 : em_obw (I 82) c 2 = if I 82 (c - 1) = 0 then nI (c - 1) else -1 := by simp [em_obw, em_nb1, hz]
      rw [e5]
      exact cellR _ (by omega)
  · refine em_branch kX8_beside rfl (fun _ => ?_) (fun h => absurd (by decide) h)
    (repeat (refine em_pure hB kX8_beside rfl ?_))
    refine em_branch kX8_beside rfl (fun h => absurd h (by decide)) (fun _ => ?_)
    (repeat (refine em_pure hB kX8_beside rfl ?_))
    refine em_idiv kX8_beside rfl (by decide) ?_
    rw [e1]
    (repeat (refine em_pure hB kX8_beside rfl ?_))
    refine em_branch kX8_beside rfl (fun _ => ?_) (fun h => absurd (by decide) h)
    (repeat (refine em_pure hB kX8_beside rfl ?_))
    refine em_branch kX8_beside rfl (fun _ => ?_) (fun h => absurd (by decide) h)
    (repeat (refine em_pureT 50 hB kX8_beside rfl rfl ?_))
    refine em_loc (lc' := [(0, .ref 53), (3, .int (nI (c % 8) + 1)), (4, .int (nI (c / 8) + 0))]) rfl ?_
    rw [Int32.add_zero]
    refine tail _ _ _ ?_
    by_cases hz : c % 8 < 7
    · rw [nI_1]
      refine Or.inr ⟨⟨nI_pos' (by omega), nI_le (b := 7) (by omega) (by omega)⟩, Or.inr ⟨hy8, c + 1, by omega, by rw [hsum]; congr 1; omega, ?_⟩⟩
      have e5 : em_obw (I 82) c 3 = if I 82 (c + 1) = 0 then nI (c + 1) else -1 := by simp [em_obw, em_nb1, hz]
      rw [e5]
      exact cellR _ (by omega)
    · rw [show c % 8 = 7 by omega]
      exact Or.inl ⟨h8, by simp [em_obw, em_nb1, hz]⟩
theorem s_mHour_no (hB : 85 ≤ n) (h : I 53 6 = -1 ∨ I 53 7 = 20) : em_MC Γ 2 mX8_hour [.ref 53] (em_hm n m dl I J rv) (some (.int (-1))) (em_hm n m dl I J rv) := by
  refine em_MC_of (Nat.le_refl _) (Nat.le_refl _) (by decide +kernel) rfl (Nat.le_of_ble_eq_true rfl) ?_
  (repeat (refine em_pure hB kX8_hour rfl ?_))
  refine em_branch kX8_hour rfl (fun (h1 : I 53 6 = -1) => ?_) (fun (h1 : ¬ I 53 6 = -1) => ?_)
  · (repeat (refine em_pure hB kX8_hour rfl ?_))
    exact em_iret kX8_hour rfl rfl rfl rfl
  · (repeat (refine em_pure hB kX8_hour rfl ?_))
    refine em_branch kX8_hour rfl (fun (h2 : ¬ I 53 7 = 20) => absurd (h.resolve_left h1) h2) (fun _ => ?_)
    (repeat (refine em_pure hB kX8_hour rfl ?_))
    exact em_iret kX8_hour rfl rfl rfl rfl
theorem s_mHour_ok0 (hB : 85 ≤ n) {aL a1 a2 a3 : Nat} (h1 : ¬ I 53 6 = -1) (h2 : ¬ I 53 7 = 20) : em_MC Γ 2 mX8_hour [.ref 53] (em_hm n m dl I J (aL, a1, a2, a3, false)) (some (.int (I 53 7 + 1))) (em_hm n m dl (va_up I 53 (va_up (I 53) 7 (I 53 7 + 1))) (va_up J 84 (em_hr (I 82) (J 83) (em_fil (J 84) 0 64) 64)) (aL, a1, a2, a3, true)) := by
  refine em_MC_of (Nat.le_refl _) (Nat.le_refl _) (by decide +kernel) rfl (Nat.le_of_ble_eq_true rfl) ?_
  (repeat (refine em_pure hB kX8_hour rfl ?_))
  refine em_branch kX8_hour rfl (fun h => absurd h h1) (fun _ => ?_)
  (repeat (refine em_pure hB kX8_hour rfl ?_))
  refine em_branch kX8_hour rfl (fun _ => ?_) (fun h => absurd h2 h)
  generalize hfin : (some (Value.int (I 53 7 + 1)), em_hm n m dl (va_up I 53 (va_up (I 53) 7 (I 53 7 + 1))) (va_up J 84 (em_hr (I 82) (J 83) (em_fil (J 84) 0 64) 64)) (aL, a1, a2, a3, true)) = fin
  have hfn : em_n fin.2 = n := by rw [← hfin]
  have loop2 : ∀ e c, c + e = 64 → em_EW Γ 2 mX8_hour (em_hm n m dl I J (aL, a1, a2, a3, false)) fin 42 [(0, .ref 53), (1, .int (nI c))] [] (em_sJ (em_hm n m dl I J (aL, a1, a2, a3, false)) 84 (em_hr (I 82) (J 83) (em_fil (J 84) 0 64) c)) := by
    intro e
    induction e with
    | zero =>
      intro c hc
      obtain rfl : c = 64 := by omega
      (repeat (refine em_pure hB kX8_hour rfl ?_))
      refine em_branch kX8_hour rfl (fun _ => ?_) (fun h => absurd (by decide) h)
      (repeat (refine em_pure hB kX8_hour rfl ?_))
      refine em_putR (c := 8) (j := 42) kX8_hour rfl rfl (by decide) (em_ltB hB rfl) rfl (Or.inl rfl) (Or.inr ⟨_, rfl⟩) ?_
      (repeat (refine em_pure hB kX8_hour rfl ?_))
      refine em_putR (c := 8) (j := 43) kX8_hour rfl rfl (by decide) (em_ltB hB rfl) rfl (Or.inl rfl) (Or.inr ⟨_, rfl⟩) ?_
      refine em_hpE (hp' := em_hm n m dl I (va_up J 84 (em_hr (I 82) (J 83) (em_fil (J 84) 0 64) 64)) (aL, a1, a2, a3, true)) ?_ ?_
      · have hsw := em_RR_swap aL a1 a2 a3 false
        show (_, _, _, _, va_up (va_up (em_RR (aL, a1, a2, a3, false)) 53 _) 53 (va_up (va_up (em_RR (aL, a1, a2, a3, false)) 53 (va_up (em_RR (aL, a1, a2, a3, false) 53) 42 (some 84)) 53) 43 (some 83))) = (_, _, _, _, em_RR (aL, a1, a2, a3, true))
        rw [va_up_self]
        exact congrArg (fun R => ((n, m), dl, I, va_up J 84 (em_hr (I 82) (J 83) (em_fil (J 84) 0 64) 64), R)) hsw
      (repeat (refine em_pure hB kX8_hour rfl ?_))
      refine em_pi hB kX8_hour rfl rfl rfl rfl rfl rfl rfl ?_
      (repeat (refine em_pure hB kX8_hour rfl ?_))
      exact em_iret kX8_hour rfl rfl rfl hfin.symm
    | succ e ih =>
      intro c hc
      generalize hF : em_hr (I 82) (J 83) (em_fil (J 84) 0 64) c = F at *
      have loop3 : ∀ e d, d + e = 4 → em_EW Γ 2 mX8_hour (em_hm n m dl I J (aL, a1, a2, a3, false)) fin 52 [(0, .ref 53), (1, .int (nI c)), (2, .int (nI (5 - (em_sd (I 82) (J 83 c) c d F).2))), (3, .int (nI d))] [] (em_sJ (em_hm n m dl I J (aL, a1, a2, a3, false)) 84 (em_sd (I 82) (J 83 c) c d F).1) := by
        intro e
        induction e with
        | zero =>
          intro d hd
          obtain rfl : d = 4 := by omega
          (repeat (refine em_pure hB kX8_hour rfl ?_))
          refine em_branch kX8_hour rfl (fun _ => ?_) (fun h => absurd (by decide) h)
          (repeat (refine em_pure hB kX8_hour rfl ?_))
          refine em_ja (L := 64) hB kX8_hour rfl rfl rfl rfl rfl (by omega) rfl ?_
          (repeat (refine em_pure hB kX8_hour rfl ?_))
          refine em_ja (L := 64) hB kX8_hour rfl rfl rfl rfl rfl (by omega) rfl ?_
          (repeat (refine em_pure hB kX8_hour rfl ?_))
          refine em_jw (L := 64) hB kX8_hour rfl rfl rfl rfl rfl (by omega) rfl ?_
          refine em_hpE (hp' := em_sJ (em_hm n m dl I J (aL, a1, a2, a3, false)) 84 (em_hr (I 82) (J 83) (em_fil (J 84) 0 64) (c + 1))) ?_ ?_
          · refine (em_sJ2 (em_hm n m dl I J (aL, a1, a2, a3, false)) 84 (em_sd (I 82) (J 83 c) c 4 F).1 (va_up (em_sd (I 82) (J 83 c) c 4 F).1 c ((em_sd (I 82) (J 83 c) c 4 F).1 c + (nI (5 - (em_sd (I 82) (J 83 c) c 4 F).2)).toInt64 * J 83 c))).trans ?_
            show em_sJ _ 84 (va_up _ c (_ + (nI (5 - (em_sd (I 82) (J 83 c) c 4 F).2)).toInt64 * J 83 c)) = em_sJ _ 84 (em_sp (I 82) (J 83 c) c (em_hr (I 82) (J 83) (em_fil (J 84) 0 64) c))
            rw [Int64.mul_comm, hF]
            rfl
          (repeat (refine em_pureT 42 hB kX8_hour rfl rfl ?_))
          refine em_loc (lc' := [(0, .ref 53), (1, .int (nI c + 1))]) rfl ?_
          rw [nI_1]
          exact ih (c + 1) (by omega)
        | succ e ih3 =>
          intro d hd
          have hle := em_sd_le (I 82) (J 83 c) c F d
          have next : ∀ (f : Nat → Int64) (k : Nat), em_sd (I 82) (J 83 c) c (d + 1) F = (f, k) → em_EW Γ 2 mX8_hour (em_hm n m dl I J (aL, a1, a2, a3, false)) fin 90 [(0, .ref 53), (1, .int (nI c)), (2, .int (nI (5 - k))), (3, .int (nI d))] [] (em_sJ (em_hm n m dl I J (aL, a1, a2, a3, false)) 84 f) := by
            intro f k hfk
            (repeat (refine em_pureT 52 hB kX8_hour rfl rfl ?_))
            refine em_loc (lc' := [(0, .ref 53), (1, .int (nI c)), (2, .int (nI (5 - k))), (3, .int (nI d + 1))]) rfl ?_
            have h4 := ih3 (d + 1) (by omega)
            rw [hfk] at h4
            rw [nI_1]
            exact h4
          (repeat (refine em_pure hB kX8_hour rfl ?_))
          refine em_branch kX8_hour rfl (fun (h : (4 : Int32) ≤ nI d) => absurd h (nI_ge (b := 4) (by omega) (by omega))) (fun _ => ?_)
          (repeat (refine em_pure hB kX8_hour rfl ?_))
          refine em_callV (μ' := mX8_beside) (c1 := 8) kX8_hour rfl lX8_246 tX8_beside (by decide) rfl (em_ltB hB rfl) (s_mBeside (J := va_up J 84 (em_sd (I 82) (J 83 c) c d F).1) hB (c := c) (d := d) (by omega) (by omega)) rfl rfl (by decide) (Nat.le_of_ble_eq_true rfl) (by rw [← hfin]; exact Nat.le_refl _) (by rw [← hfin]; exact Nat.le_refl _) ?_
          cases hnb : em_nb1 c d with
          | none =>
            have e0 : em_obw (I 82) c d = -1 := by simp [em_obw, hnb]
            rw [e0]
            (repeat (refine em_pure hB kX8_hour rfl ?_))
            refine em_branch kX8_hour rfl (fun _ => ?_) (fun h => absurd rfl h)
            refine em_loc (lc' := [(0, .ref 53), (1, .int (nI c)), (2, .int (nI (5 - (em_sd (I 82) (J 83 c) c d F).2))), (3, .int (nI d))]) rfl ?_
            exact next _ _ (by rw [em_sd, hnb])
          | some o =>
            have ho := em_nb1_lt (by omega) hnb
            by_cases hw : I 82 o = 0
            · have e0 : em_obw (I 82) c d = nI o := by simp [em_obw, hnb, hw]
              rw [e0]
              (repeat (refine em_pure hB kX8_hour rfl ?_))
              refine em_branch kX8_hour rfl (fun (h : nI o = -1) => absurd h (by intro z; have := congrArg Int32.toInt z; rw [nI_toInt (by omega)] at this; have h5 : (-1 : Int32).toInt = -1 := rfl; rw [h5] at this; omega)) (fun _ => ?_)
              (repeat (refine em_pure hB kX8_hour rfl ?_))
              refine em_ja (L := 64) hB kX8_hour rfl rfl rfl rfl rfl ho rfl ?_
              (repeat (refine em_pure hB kX8_hour rfl ?_))
              refine em_ja (L := 64) hB kX8_hour rfl rfl rfl rfl rfl (by omega) rfl ?_
              (repeat (refine em_pure hB kX8_hour rfl ?_))
              refine em_jw (L := 64) hB kX8_hour rfl rfl rfl rfl rfl ho rfl ?_
              refine em_hpE (hp' := em_sJ (em_hm n m dl I J (aL, a1, a2, a3, false)) 84 (va_up (em_sd (I 82) (J 83 c) c d F).1 o ((em_sd (I 82) (J 83 c) c d F).1 o + J 83 c))) (em_sJ2 (em_hm n m dl I J (aL, a1, a2, a3, false)) 84 _ _) ?_
              (repeat (refine em_pureT 90 hB kX8_hour rfl rfl ?_))
              refine em_loc (lc' := [(0, .ref 53), (1, .int (nI c)), (2, .int (nI (5 - (em_sd (I 82) (J 83 c) c d F).2) + (-1))), (3, .int (nI d))]) rfl ?_
              rw [show 5 - (em_sd (I 82) (J 83 c) c d F).2 = (5 - ((em_sd (I 82) (J 83 c) c d F).2 + 1)) + 1 by omega, pk_m1]
              exact next _ _ (by rw [em_sd, hnb]; simp only [if_pos hw])
            · have e0 : em_obw (I 82) c d = -1 := by simp [em_obw, hnb, hw]
              rw [e0]
              (repeat (refine em_pure hB kX8_hour rfl ?_))
              refine em_branch kX8_hour rfl (fun _ => ?_) (fun h => absurd rfl h)
              refine em_loc (lc' := [(0, .ref 53), (1, .int (nI c)), (2, .int (nI (5 - (em_sd (I 82) (J 83 c) c d F).2))), (3, .int (nI d))]) rfl ?_
              exact next _ _ (by rw [em_sd, hnb]; simp only [if_neg hw])
      (repeat (refine em_pure hB kX8_hour rfl ?_))
      refine em_branch kX8_hour rfl (fun (h : (64 : Int32) ≤ nI c) => absurd h (nI_ge (b := 64) (by omega) (by omega))) (fun _ => ?_)
      (repeat (refine em_pureT 52 hB kX8_hour rfl rfl ?_))
      refine em_loc (lc' := [(0, .ref 53), (1, .int (nI c)), (2, .int (nI 5)), (3, .int (nI 0))]) rfl ?_
      exact loop3 4 0 (by omega)
  have loop1 : ∀ e c, c + e = 64 → em_EW Γ 2 mX8_hour (em_hm n m dl I J (aL, a1, a2, a3, false)) fin 21 [(0, .ref 53), (1, .int (nI c))] [] (em_sJ (em_hm n m dl I J (aL, a1, a2, a3, false)) 84 (em_fil (J 84) 0 c)) := by
    intro e
    induction e with
    | zero =>
      intro c hc
      obtain rfl : c = 64 := by omega
      (repeat (refine em_pure hB kX8_hour rfl ?_))
      refine em_branch kX8_hour rfl (fun _ => ?_) (fun h => absurd (by decide) h)
      (repeat (refine em_pureT 42 hB kX8_hour rfl rfl ?_))
      refine em_loc (lc' := [(0, .ref 53), (1, .int (nI 0))]) rfl ?_
      exact loop2 64 0 (by omega)
    | succ e ih =>
      intro c hc
      (repeat (refine em_pure hB kX8_hour rfl ?_))
      refine em_branch kX8_hour rfl (fun (h : (64 : Int32) ≤ nI c) => absurd h (nI_ge (b := 64) (by omega) (by omega))) (fun _ => ?_)
      (repeat (refine em_pure hB kX8_hour rfl ?_))
      refine em_jw (L := 64) hB kX8_hour rfl rfl rfl rfl rfl (by omega) rfl ?_
      refine em_hpE (hp' := em_sJ (em_hm n m dl I J (aL, a1, a2, a3, false)) 84 (em_fil (J 84) 0 (c + 1))) ((em_sJ2 (em_hm n m dl I J (aL, a1, a2, a3, false)) 84 (em_fil (J 84) 0 c) (va_up (em_fil (J 84) 0 c) c 0)).trans (congrArg (em_sJ (em_hm n m dl I J (aL, a1, a2, a3, false)) 84) (em_fil_s _ _ _))) ?_
      (repeat (refine em_pureT 21 hB kX8_hour rfl rfl ?_))
      refine em_loc (lc' := [(0, .ref 53), (1, .int (nI c + 1))]) rfl ?_
      rw [nI_1]
      exact ih (c + 1) (by omega)
  (repeat (refine em_pureT 21 hB kX8_hour rfl rfl ?_))
  refine em_loc (lc' := [(0, .ref 53), (1, .int (nI 0))]) rfl ?_
  have h0 := loop1 64 0 (by omega)
  rw [em_fil_0] at h0
  exact em_hpE (em_sJ_id (em_hm n m dl I J (aL, a1, a2, a3, false)) 84).symm h0
theorem s_mHour_ok1 (hB : 85 ≤ n) {aL a1 a2 a3 : Nat} (h1 : ¬ I 53 6 = -1) (h2 : ¬ I 53 7 = 20) : em_MC Γ 2 mX8_hour [.ref 53] (em_hm n m dl I J (aL, a1, a2, a3, true)) (some (.int (I 53 7 + 1))) (em_hm n m dl (va_up I 53 (va_up (I 53) 7 (I 53 7 + 1))) (va_up J 83 (em_hr (I 82) (J 84) (em_fil (J 83) 0 64) 64)) (aL, a1, a2, a3, false)) := by
  refine em_MC_of (Nat.le_refl _) (Nat.le_refl _) (by decide +kernel) rfl (Nat.le_of_ble_eq_true rfl) ?_
  (repeat (refine em_pure hB kX8_hour rfl ?_))
  refine em_branch kX8_hour rfl (fun h => absurd h h1) (fun _ => ?_)
  (repeat (refine em_pure hB kX8_hour rfl ?_))
  refine em_branch kX8_hour rfl (fun _ => ?_) (fun h => absurd h2 h)
  generalize hfin : (some (Value.int (I 53 7 + 1)), em_hm n m dl (va_up I 53 (va_up (I 53) 7 (I 53 7 + 1))) (va_up J 83 (em_hr (I 82) (J 84) (em_fil (J 83) 0 64) 64)) (aL, a1, a2, a3, false)) = fin
  have hfn : em_n fin.2 = n := by rw [← hfin]
  have loop2 : ∀ e c, c + e = 64 → em_EW Γ 2 mX8_hour (em_hm n m dl I J (aL, a1, a2, a3, true)) fin 42 [(0, .ref 53), (1, .int (nI c))] [] (em_sJ (em_hm n m dl I J (aL, a1, a2, a3, true)) 83 (em_hr (I 82) (J 84) (em_fil (J 83) 0 64) c)) := by
    intro e
    induction e with
    | zero =>
      intro c hc
      obtain rfl : c = 64 := by omega
      (repeat (refine em_pure hB kX8_hour rfl ?_))
      refine em_branch kX8_hour rfl (fun _ => ?_) (fun h => absurd (by decide) h)
      (repeat (refine em_pure hB kX8_hour rfl ?_))
      refine em_putR (c := 8) (j := 42) kX8_hour rfl rfl (by decide) (em_ltB hB rfl) rfl (Or.inl rfl) (Or.inr ⟨_, rfl⟩) ?_
      (repeat (refine em_pure hB kX8_hour rfl ?_))
      refine em_putR (c := 8) (j := 43) kX8_hour rfl rfl (by decide) (em_ltB hB rfl) rfl (Or.inl rfl) (Or.inr ⟨_, rfl⟩) ?_
      refine em_hpE (hp' := em_hm n m dl I (va_up J 83 (em_hr (I 82) (J 84) (em_fil (J 83) 0 64) 64)) (aL, a1, a2, a3, false)) ?_ ?_
      · have hsw := em_RR_swap aL a1 a2 a3 true
        show (_, _, _, _, va_up (va_up (em_RR (aL, a1, a2, a3, true)) 53 _) 53 (va_up (va_up (em_RR (aL, a1, a2, a3, true)) 53 (va_up (em_RR (aL, a1, a2, a3, true) 53) 42 (some 83)) 53) 43 (some 84))) = (_, _, _, _, em_RR (aL, a1, a2, a3, false))
        rw [va_up_self]
        exact congrArg (fun R => ((n, m), dl, I, va_up J 83 (em_hr (I 82) (J 84) (em_fil (J 83) 0 64) 64), R)) hsw
      (repeat (refine em_pure hB kX8_hour rfl ?_))
      refine em_pi hB kX8_hour rfl rfl rfl rfl rfl rfl rfl ?_
      (repeat (refine em_pure hB kX8_hour rfl ?_))
      exact em_iret kX8_hour rfl rfl rfl hfin.symm
    | succ e ih =>
      intro c hc
      generalize hF : em_hr (I 82) (J 84) (em_fil (J 83) 0 64) c = F at *
      have loop3 : ∀ e d, d + e = 4 → em_EW Γ 2 mX8_hour (em_hm n m dl I J (aL, a1, a2, a3, true)) fin 52 [(0, .ref 53), (1, .int (nI c)), (2, .int (nI (5 - (em_sd (I 82) (J 84 c) c d F).2))), (3, .int (nI d))] [] (em_sJ (em_hm n m dl I J (aL, a1, a2, a3, true)) 83 (em_sd (I 82) (J 84 c) c d F).1) := by
        intro e
        induction e with
        | zero =>
          intro d hd
          obtain rfl : d = 4 := by omega
          (repeat (refine em_pure hB kX8_hour rfl ?_))
          refine em_branch kX8_hour rfl (fun _ => ?_) (fun h => absurd (by decide) h)
          (repeat (refine em_pure hB kX8_hour rfl ?_))
          refine em_ja (L := 64) hB kX8_hour rfl rfl rfl rfl rfl (by omega) rfl ?_
          (repeat (refine em_pure hB kX8_hour rfl ?_))
          refine em_ja (L := 64) hB kX8_hour rfl rfl rfl rfl rfl (by omega) rfl ?_
          (repeat (refine em_pure hB kX8_hour rfl ?_))
          refine em_jw (L := 64) hB kX8_hour rfl rfl rfl rfl rfl (by omega) rfl ?_
          refine em_hpE (hp' := em_sJ (em_hm n m dl I J (aL, a1, a2, a3, true)) 83 (em_hr (I 82) (J 84) (em_fil (J 83) 0 64) (c + 1))) ?_ ?_
          · refine (em_sJ2 (em_hm n m dl I J (aL, a1, a2, a3, true)) 83 (em_sd (I 82) (J 84 c) c 4 F).1 (va_up (em_sd (I 82) (J 84 c) c 4 F).1 c ((em_sd (I 82) (J 84 c) c 4 F).1 c + (nI (5 - (em_sd (I 82) (J 84 c) c 4 F).2)).toInt64 * J 84 c))).trans ?_
            show em_sJ _ 83 (va_up _ c (_ + (nI (5 - (em_sd (I 82) (J 84 c) c 4 F).2)).toInt64 * J 84 c)) = em_sJ _ 83 (em_sp (I 82) (J 84 c) c (em_hr (I 82) (J 84) (em_fil (J 83) 0 64) c))
            rw [Int64.mul_comm, hF]
            rfl
          (repeat (refine em_pureT 42 hB kX8_hour rfl rfl ?_))
          refine em_loc (lc' := [(0, .ref 53), (1, .int (nI c + 1))]) rfl ?_
          rw [nI_1]
          exact ih (c + 1) (by omega)
        | succ e ih3 =>
          intro d hd
          have hle := em_sd_le (I 82) (J 84 c) c F d
          have next : ∀ (f : Nat → Int64) (k : Nat), em_sd (I 82) (J 84 c) c (d + 1) F = (f, k) → em_EW Γ 2 mX8_hour (em_hm n m dl I J (aL, a1, a2, a3, true)) fin 90 [(0, .ref 53), (1, .int (nI c)), (2, .int (nI (5 - k))), (3, .int (nI d))] [] (em_sJ (em_hm n m dl I J (aL, a1, a2, a3, true)) 83 f) := by
            intro f k hfk
            (repeat (refine em_pureT 52 hB kX8_hour rfl rfl ?_))
            refine em_loc (lc' := [(0, .ref 53), (1, .int (nI c)), (2, .int (nI (5 - k))), (3, .int (nI d + 1))]) rfl ?_
            have h4 := ih3 (d + 1) (by omega)
            rw [hfk] at h4
            rw [nI_1]
            exact h4
          (repeat (refine em_pure hB kX8_hour rfl ?_))
          refine em_branch kX8_hour rfl (fun (h : (4 : Int32) ≤ nI d) => absurd h (nI_ge (b := 4) (by omega) (by omega))) (fun _ => ?_)
          (repeat (refine em_pure hB kX8_hour rfl ?_))
          refine em_callV (μ' := mX8_beside) (c1 := 8) kX8_hour rfl lX8_246 tX8_beside (by decide) rfl (em_ltB hB rfl) (s_mBeside (J := va_up J 83 (em_sd (I 82) (J 84 c) c d F).1) hB (c := c) (d := d) (by omega) (by omega)) rfl rfl (by decide) (Nat.le_of_ble_eq_true rfl) (by rw [← hfin]; exact Nat.le_refl _) (by rw [← hfin]; exact Nat.le_refl _) ?_
          cases hnb : em_nb1 c d with
          | none =>
            have e0 : em_obw (I 82) c d = -1 := by simp [em_obw, hnb]
            rw [e0]
            (repeat (refine em_pure hB kX8_hour rfl ?_))
            refine em_branch kX8_hour rfl (fun _ => ?_) (fun h => absurd rfl h)
            refine em_loc (lc' := [(0, .ref 53), (1, .int (nI c)), (2, .int (nI (5 - (em_sd (I 82) (J 84 c) c d F).2))), (3, .int (nI d))]) rfl ?_
            exact next _ _ (by rw [em_sd, hnb])
          | some o =>
            have ho := em_nb1_lt (by omega) hnb
            by_cases hw : I 82 o = 0
            · have e0 : em_obw (I 82) c d = nI o := by simp [em_obw, hnb, hw]
              rw [e0]
              (repeat (refine em_pure hB kX8_hour rfl ?_))
              refine em_branch kX8_hour rfl (fun (h : nI o = -1) => absurd h (by intro z; have := congrArg Int32.toInt z; rw [nI_toInt (by omega)] at this; have h5 : (-1 : Int32).toInt = -1 := rfl; rw [h5] at this; omega)) (fun _ => ?_)
              (repeat (refine em_pure hB kX8_hour rfl ?_))
              refine em_ja (L := 64) hB kX8_hour rfl rfl rfl rfl rfl ho rfl ?_
              (repeat (refine em_pure hB kX8_hour rfl ?_))
              refine em_ja (L := 64) hB kX8_hour rfl rfl rfl rfl rfl (by omega) rfl ?_
              (repeat (refine em_pure hB kX8_hour rfl ?_))
              refine em_jw (L := 64) hB kX8_hour rfl rfl rfl rfl rfl ho rfl ?_
              refine em_hpE (hp' := em_sJ (em_hm n m dl I J (aL, a1, a2, a3, true)) 83 (va_up (em_sd (I 82) (J 84 c) c d F).1 o ((em_sd (I 82) (J 84 c) c d F).1 o + J 84 c))) (em_sJ2 (em_hm n m dl I J (aL, a1, a2, a3, true)) 83 _ _) ?_
              (repeat (refine em_pureT 90 hB kX8_hour rfl rfl ?_))
              refine em_loc (lc' := [(0, .ref 53), (1, .int (nI c)), (2, .int (nI (5 - (em_sd (I 82) (J 84 c) c d F).2) + (-1))), (3, .int (nI d))]) rfl ?_
              rw [show 5 - (em_sd (I 82) (J 84 c) c d F).2 = (5 - ((em_sd (I 82) (J 84 c) c d F).2 + 1)) + 1 by omega, pk_m1]
              exact next _ _ (by rw [em_sd, hnb]; simp only [if_pos hw])
            · have e0 : em_obw (I 82) c d = -1 := by simp [em_obw, hnb, hw]
              rw [e0]
              (repeat (refine em_pure hB kX8_hour rfl ?_))
              refine em_branch kX8_hour rfl (fun _ => ?_) (fun h => absurd rfl h)
              refine em_loc (lc' := [(0, .ref 53), (1, .int (nI c)), (2, .int (nI (5 - (em_sd (I 82) (J 84 c) c d F).2))), (3, .int (nI d))]) rfl ?_
              exact next _ _ (by rw [em_sd, hnb]; simp only [if_neg hw])
      (repeat (refine em_pure hB kX8_hour rfl ?_))
      refine em_branch kX8_hour rfl (fun (h : (64 : Int32) ≤ nI c) => absurd h (nI_ge (b := 64) (by omega) (by omega))) (fun _ => ?_)
      (repeat (refine em_pureT 52 hB kX8_hour rfl rfl ?_))
      refine em_loc (lc' := [(0, .ref 53), (1, .int (nI c)), (2, .int (nI 5)), (3, .int (nI 0))]) rfl ?_
      exact loop3 4 0 (by omega)
  have loop1 : ∀ e c, c + e = 64 → em_EW Γ 2 mX8_hour (em_hm n m dl I J (aL, a1, a2, a3, true)) fin 21 [(0, .ref 53), (1, .int (nI c))] [] (em_sJ (em_hm n m dl I J (aL, a1, a2, a3, true)) 83 (em_fil (J 83) 0 c)) := by
    intro e
    induction e with
    | zero =>
      intro c hc
      obtain rfl : c = 64 := by omega
      (repeat (refine em_pure hB kX8_hour rfl ?_))
      refine em_branch kX8_hour rfl (fun _ => ?_) (fun h => absurd (by decide) h)
      (repeat (refine em_pureT 42 hB kX8_hour rfl rfl ?_))
      refine em_loc (lc' := [(0, .ref 53), (1, .int (nI 0))]) rfl ?_
      exact loop2 64 0 (by omega)
    | succ e ih =>
      intro c hc
      (repeat (refine em_pure hB kX8_hour rfl ?_))
      refine em_branch kX8_hour rfl (fun (h : (64 : Int32) ≤ nI c) => absurd h (nI_ge (b := 64) (by omega) (by omega))) (fun _ => ?_)
      (repeat (refine em_pure hB kX8_hour rfl ?_))
      refine em_jw (L := 64) hB kX8_hour rfl rfl rfl rfl rfl (by omega) rfl ?_
      refine em_hpE (hp' := em_sJ (em_hm n m dl I J (aL, a1, a2, a3, true)) 83 (em_fil (J 83) 0 (c + 1))) ((em_sJ2 (em_hm n m dl I J (aL, a1, a2, a3, true)) 83 (em_fil (J 83) 0 c) (va_up (em_fil (J 83) 0 c) c 0)).trans (congrArg (em_sJ (em_hm n m dl I J (aL, a1, a2, a3, true)) 83) (em_fil_s _ _ _))) ?_
      (repeat (refine em_pureT 21 hB kX8_hour rfl rfl ?_))
      refine em_loc (lc' := [(0, .ref 53), (1, .int (nI c + 1))]) rfl ?_
      rw [nI_1]
      exact ih (c + 1) (by omega)
  (repeat (refine em_pureT 21 hB kX8_hour rfl rfl ?_))
  refine em_loc (lc' := [(0, .ref 53), (1, .int (nI 0))]) rfl ?_
  have h0 := loop1 64 0 (by omega)
  rw [em_fil_0] at h0
  exact em_hpE (em_sJ_id (em_hm n m dl I J (aL, a1, a2, a3, true)) 83).symm h0
end MHour
