/-! RATIONS BY DIFFERENCES -/
theorem ei_acc (f : Nat → Int32) : ∀ k d, em_acc f k d = if d ≤ k then bx_sum f (d + 1) else f d
  | 0, d => by
    rw [em_acc]
    by_cases h : d ≤ 0
    · obtain rfl : d = 0 := by omega
      rw [if_pos h]
      show f 0 = 0 + f 0
      rw [Int32.zero_add]
    · rw [if_neg h]
  | k + 1, d => by
    rw [em_acc]
    by_cases h : d = k + 1
    · subst h
      rw [va_up_self, if_pos (Nat.le_refl _), ei_acc f k (k + 1), ei_acc f k k, if_neg (by omega), if_pos (Nat.le_refl _), Int32.add_comm]
      rfl
    · rw [va_up_ne _ _ h, ei_acc f k d]
      by_cases h2 : d ≤ k
      · rw [if_pos h2, if_pos (by omega)]
      · rw [if_neg h2, if_neg (by omega)]
theorem ei_sum_up (f : Nat → Int32) (j : Nat) (x : Int32) : ∀ n, bx_sum (va_up f j (f j + x)) n = bx_sum f n + (if j < n then x else 0)
  | 0 => by
    rw [if_neg (by omega)]
    rfl
  | n + 1 => by
    show bx_sum (va_up f j (f j + x)) n + va_up f j (f j + x) n = bx_sum f n + f n + _
    rw [ei_sum_up f j x n]
    by_cases h : n = j
    · subst h
      rw [va_up_self, if_neg (by omega), if_pos (by omega), Int32.add_zero, Int32.add_assoc]
    · rw [va_up_ne _ _ h]
      by_cases h2 : j < n
      · rw [if_pos h2, if_pos (by omega), Int32.add_assoc, Int32.add_assoc, Int32.add_comm x]
      · rw [if_neg h2, if_neg (by omega), Int32.add_zero, Int32.add_zero]
theorem ei_sum_0 (f : Nat → Int32) : ∀ n, (∀ k, k < n → f k = 0) → bx_sum f n = 0
  | 0, _ => rfl
  | n + 1, h => by
    show bx_sum f n + f n = 0
    rw [ei_sum_0 f n (fun k hk => h k (by omega)), h n (by omega)]
    rfl
theorem ei_dif {I : Nat → Nat → Int32} {g f0 : Nat → Int32} {d t : Nat} (ht : t ≤ 400) (hd : d ≤ t) (h0 : ∀ k, k < 401 → f0 k = 0) : ∀ N, (∀ b, b < N → ∃ k, k ≤ t ∧ I 6 b = nI k) → (∀ b, b < N → ∃ k, k ≤ t ∧ I 5 b = nI k) → (∀ b, b < N → g b = -1 ∨ ∃ k, k ≤ t ∧ g b = nI k ∧ I 5 b ≤ nI k) → bx_sum (em_dif I g f0 N) (d + 1) = em_eat I g (nI d) (nI t) N
  | 0, _, _, _ => ei_sum_0 f0 (d + 1) (fun k hk => h0 k (by omega))
  | b + 1, h6, h5, hg => by
    have ih := ei_dif (g := g) ht hd h0 b (fun k hk => h6 k (by omega)) (fun k hk => h5 k (by omega)) (fun k hk => hg k (by omega))
    obtain ⟨k6, a6, e6⟩ := h6 b (by omega)
    obtain ⟨k5, a5, e5⟩ := h5 b (by omega)
    have s1 : ∀ x : Int32, bx_sum (va_up (em_dif I g f0 b) (I 5 b).toNatClampNeg (em_dif I g f0 b (I 5 b).toNatClampNeg + x)) (d + 1) = em_eat I g (nI d) (nI t) b + (if k5 < d + 1 then x else 0) := by
      intro x
      rw [e5, nI_clamp (by omega), ei_sum_up, ih]
    have h6t : I 6 b ≤ nI t := by rw [e6]; exact nI_le a6 (by omega)
    have h5d : I 5 b ≤ nI d ↔ k5 ≤ d := by rw [e5]; exact nI_leI (by omega) (by omega)
    show _ = em_eat I g (nI d) (nI t) b + (if em_std I g b (nI d) (nI t) then I 2 (I 4 b).toNatClampNeg else 0)
    generalize hx : I 2 (I 4 b).toNatClampNeg = x
    rw [em_dif, hx]
    by_cases hgb : g b = -1
    · rw [if_pos hgb, s1 x]
      by_cases hk : k5 ≤ d
      · rw [if_pos (by omega), if_pos ⟨⟨h6t, h5d.mpr hk⟩, Or.inl hgb⟩]
      · rw [if_neg (by omega), if_neg (fun z => hk (h5d.mp z.1.2))]
    · rw [if_neg hgb]
      rcases hg b (by omega) with h | ⟨k, hk, e, h57⟩
      · exact absurd h hgb
      · have hle : k5 ≤ k := by rw [e5] at h57; exact (nI_leI (by omega) (by omega)).mp h57
        have hdg : nI d < g b ↔ d < k := by rw [e]; exact nI_ltI (by omega) (by omega)
        have s2 : ∀ (f : Nat → Int32) (y : Int32), bx_sum (va_up f (g b).toNatClampNeg (f (g b).toNatClampNeg - y)) (d + 1) = bx_sum f (d + 1) + (if k < d + 1 then -y else 0) := by
          intro f y
          rw [e, nI_clamp (by omega), Int32.sub_eq_add_neg, ei_sum_up]
        rw [s2, s1 x]
        by_cases hk5 : k5 ≤ d
        · rw [if_pos (show k5 < d + 1 by omega)]
          by_cases hkd : d < k
          · rw [if_neg (by omega), if_pos ⟨⟨h6t, h5d.mpr hk5⟩, Or.inr (hdg.mpr hkd)⟩, Int32.add_zero]
          · rw [if_pos (by omega), if_neg (fun z => z.2.elim hgb (fun z => hkd (hdg.mp z))), Int32.add_assoc, ← Int32.sub_eq_add_neg, Int32.sub_self]
        · rw [if_neg (show ¬ k5 < d + 1 by omega), if_neg (show ¬ k < d + 1 by omega), if_neg (fun z => hk5 (h5d.mp z.1.2)), Int32.add_zero]
theorem ei_gf {I : Nat → Nat → Int32} {N G t : Nat} (hA : em_gA I N G t) {q : Int32} {b : Nat} (hb : b < N) : em_gf I G q b = -1 ∨ ∃ k, k ≤ t ∧ em_gf I G q b = nI k ∧ I 5 b ≤ nI k := by
  have hN := hA.n2
  have ht := hA.t2
  rw [ei_till hA.e60 hA.e61 hA.e62 (by omega) hN G hA.gb hA.gs]
  have : ∀ H, H ≤ G → em_till I (nI b) q H = -1 ∨ ∃ k, k ≤ t ∧ em_till I (nI b) q H = nI k ∧ I 5 b ≤ nI k := by
    intro H
    induction H with
    | zero => intro _; exact Or.inl rfl
    | succ i ih =>
      intro h
      rw [em_till]
      by_cases hc : I 60 i = nI b ∧ I 62 i ≤ q
      · rw [if_pos hc, hA.e61]
        rcases hA.gf i (by omega) with e | ⟨k, b', hk, hb', e, e7, h5⟩
        · exact Or.inl e
        · right
          refine ⟨k, hk, e, ?_⟩
          have : b' = b := (nI_eq (by omega) (by omega)).mp (by rw [← e7, ← hA.e60]; exact hc.1)
          rw [← this]
          exact h5
      · rw [if_neg hc]
        exact ih (by omega)
  exact this G (Nat.le_refl _)
theorem ei_rations {I : Nat → Nat → Int32} {N G t d : Nat} (hA : em_gA I N G t) (hd : d ≤ t) : em_acc (em_dif I (em_gf I G (nI t)) (em_fil (I 11) 0 401) N) t d = em_meat I G (nI d) (nI t) N := by
  rw [ei_acc, if_pos hd, ← ei_eat hA, ei_dif hA.t2 hd (fun k hk => by rw [em_fil, if_pos hk]) N hA.tl hA.fr (fun b hb => ei_gf hA hb)]
theorem ei_due_eq {f f' u u' : Nat → Int32} : ∀ D, (∀ d, d < D → f d = f' d) → (∀ d, d < D → u d = u' d) → em_due f u D = em_due f' u' D
  | 0, _, _ => rfl
  | d + 1, h, h' => by rw [em_due, em_due, h d (by omega), h' d (by omega), ei_due_eq d (fun k hk => h k (by omega)) (fun k hk => h' k (by omega))]
