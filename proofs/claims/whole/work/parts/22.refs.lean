/-! THE HEAP BETWEEN THE LAW'S CALLS: the references stand, but for the rows of lines (class: rv.1; reference: three) and the reference's two rows of maybes -/
abbrev em_Rv : Type := Nat × Nat × Nat × Nat × Bool
def em_RR (rv : em_Rv) (k j : Nat) : Option Nat := (bif Nat.blt k 35 then
  (bif Nat.blt k 21 then
  (bif Nat.blt k 12 then
  (bif Nat.blt k 1 then
  (bif Nat.beq k 0 then (bif Nat.blt j 4 then (bif Nat.blt j 2 then (bif Nat.blt j 1 then (bif Nat.beq j 0 then some 1 else none) else (bif Nat.beq j 1 then some 12 else none)) else (bif Nat.blt j 3 then (bif Nat.beq j 2 then some 15 else none) else (bif Nat.beq j 3 then some 21 else none))) else (bif Nat.blt j 6 then (bif Nat.blt j 5 then (bif Nat.beq j 4 then some 28 else none) else (bif Nat.beq j 5 then some 30 else none)) else (bif Nat.blt j 7 then (bif Nat.beq j 6 then some 47 else none) else (bif Nat.beq j 7 then some 49 else none)))) else none) else
  (bif Nat.beq k 1 then (bif Nat.blt j 7 then (bif Nat.blt j 3 then (bif Nat.blt j 1 then (bif Nat.beq j 0 then some 2 else none) else (bif Nat.beq j 1 then some 3 else none)) else (bif Nat.blt j 4 then (bif Nat.beq j 3 then some 4 else none) else (bif Nat.blt j 5 then (bif Nat.beq j 4 then some 5 else none) else (bif Nat.beq j 5 then some 6 else none)))) else (bif Nat.blt j 9 then (bif Nat.blt j 8 then (bif Nat.beq j 7 then some 7 else none) else (bif Nat.beq j 8 then some 8 else none)) else (bif Nat.blt j 11 then (bif Nat.beq j 9 then some 9 else none) else (bif Nat.blt j 12 then (bif Nat.beq j 11 then some 10 else none) else (bif Nat.beq j 12 then some 11 else none))))) else none)) else
  (bif Nat.blt k 15 then
  (bif Nat.beq k 12 then (bif Nat.blt j 2 then (bif Nat.beq j 0 then some 13 else none) else (bif Nat.beq j 2 then some rv.1 else none)) else none) else
  (bif Nat.beq k 15 then (bif Nat.blt j 3 then (bif Nat.blt j 1 then (bif Nat.beq j 0 then some 1 else none) else (bif Nat.blt j 2 then (bif Nat.beq j 1 then some 16 else none) else (bif Nat.beq j 2 then some 17 else none))) else (bif Nat.blt j 4 then (bif Nat.beq j 3 then some 18 else none) else (bif Nat.blt j 5 then (bif Nat.beq j 4 then some 19 else none) else (bif Nat.beq j 5 then some 20 else none)))) else none))) else
  (bif Nat.blt k 30 then
  (bif Nat.blt k 28 then
  (bif Nat.beq k 21 then (bif Nat.blt j 4 then (bif Nat.blt j 2 then (bif Nat.beq j 1 then some 22 else none) else (bif Nat.blt j 3 then (bif Nat.beq j 2 then some 23 else none) else (bif Nat.beq j 3 then some 24 else none))) else (bif Nat.blt j 8 then (bif Nat.beq j 4 then some 25 else none) else (bif Nat.blt j 11 then (bif Nat.beq j 8 then some 26 else none) else (bif Nat.beq j 11 then some 27 else none)))) else none) else
  (bif Nat.beq k 28 then (bif Nat.beq j 0 then some 29 else none) else none)) else
  (bif Nat.blt k 31 then
  (bif Nat.beq k 30 then (some (31 + 2 * j)) else none) else
  (bif Nat.blt k 33 then
  (bif Nat.beq k 31 then (bif Nat.beq j 1 then some 32 else none) else none) else
  (bif Nat.beq k 33 then (bif Nat.beq j 1 then some 34 else none) else none))))) else
  (bif Nat.blt k 43 then
  (bif Nat.blt k 39 then
  (bif Nat.blt k 37 then
  (bif Nat.beq k 35 then (bif Nat.beq j 1 then some 36 else none) else none) else
  (bif Nat.beq k 37 then (bif Nat.beq j 1 then some 38 else none) else none)) else
  (bif Nat.blt k 41 then
  (bif Nat.beq k 39 then (bif Nat.beq j 1 then some 40 else none) else none) else
  (bif Nat.beq k 41 then (bif Nat.beq j 1 then some 42 else none) else none))) else
  (bif Nat.blt k 47 then
  (bif Nat.blt k 45 then
  (bif Nat.beq k 43 then (bif Nat.beq j 1 then some 44 else none) else none) else
  (bif Nat.beq k 45 then (bif Nat.beq j 1 then some 46 else none) else none)) else
  (bif Nat.blt k 49 then
  (bif Nat.beq k 47 then (bif Nat.beq j 1 then some 48 else none) else none) else
  (bif Nat.blt k 53 then
  (bif Nat.beq k 49 then (bif Nat.blt j 1 then (bif Nat.beq j 0 then some 50 else none) else (bif Nat.blt j 2 then (bif Nat.beq j 1 then some 51 else none) else (bif Nat.beq j 2 then some 52 else none))) else none) else
  (bif Nat.beq k 53 then (bif Nat.blt j 23 then (bif Nat.blt j 15 then (bif Nat.blt j 11 then (bif Nat.blt j 9 then (bif Nat.beq j 8 then some 54 else none) else (bif Nat.blt j 10 then (bif Nat.beq j 9 then some 55 else none) else (bif Nat.beq j 10 then some 56 else none))) else (bif Nat.blt j 13 then (bif Nat.blt j 12 then (bif Nat.beq j 11 then some 57 else none) else (bif Nat.beq j 12 then some 58 else none)) else (bif Nat.blt j 14 then (bif Nat.beq j 13 then some 59 else none) else (bif Nat.beq j 14 then some 60 else none)))) else (bif Nat.blt j 19 then (bif Nat.blt j 17 then (bif Nat.blt j 16 then (bif Nat.beq j 15 then some 61 else none) else (bif Nat.beq j 16 then some 62 else none)) else (bif Nat.blt j 18 then (bif Nat.beq j 17 then some 63 else none) else (bif Nat.beq j 18 then some rv.2.1 else none))) else (bif Nat.blt j 21 then (bif Nat.blt j 20 then (bif Nat.beq j 19 then some rv.2.2.1 else none) else (bif Nat.beq j 20 then some rv.2.2.2.1 else none)) else (bif Nat.blt j 22 then (bif Nat.beq j 21 then some 67 else none) else (bif Nat.beq j 22 then some 68 else none))))) else (bif Nat.blt j 34 then (bif Nat.blt j 27 then (bif Nat.blt j 25 then (bif Nat.blt j 24 then (bif Nat.beq j 23 then some 69 else none) else (bif Nat.beq j 24 then some 70 else none)) else (bif Nat.blt j 26 then (bif Nat.beq j 25 then some 71 else none) else (bif Nat.beq j 26 then some 72 else none))) else (bif Nat.blt j 29 then (bif Nat.blt j 28 then (bif Nat.beq j 27 then some 73 else none) else (bif Nat.beq j 28 then some 74 else none)) else (bif Nat.blt j 30 then (bif Nat.beq j 29 then some 75 else none) else (bif Nat.beq j 30 then some 76 else none)))) else (bif Nat.blt j 40 then (bif Nat.blt j 37 then (bif Nat.blt j 36 then (bif Nat.beq j 34 then some 77 else none) else (bif Nat.beq j 36 then some 78 else none)) else (bif Nat.blt j 38 then (bif Nat.beq j 37 then some 79 else none) else (bif Nat.beq j 38 then some 80 else none))) else (bif Nat.blt j 42 then (bif Nat.blt j 41 then (bif Nat.beq j 40 then some 81 else none) else (bif Nat.beq j 41 then some 82 else none)) else (bif Nat.blt j 43 then (bif Nat.beq j 42 then some (bif rv.2.2.2.2 then 84 else 83) else none) else (bif Nat.beq j 43 then some (bif rv.2.2.2.2 then 83 else 84) else none)))))) else none))))))
abbrev em_hm (n m : Nat) (dl : Nat → Nat) (I : Nat → Nat → Int32) (J : Nat → Nat → Int64) (rv : em_Rv) : em_Hp := ((n, m), dl, I, J, em_RR rv)
theorem em_sI2 (hp : em_Hp) (k : Nat) (r r' : Nat → Int32) : em_sI (em_sI hp k r) k r' = em_sI hp k r' := by
  show (_, _, va_up (va_up _ k r) k r', _) = (_, _, va_up _ k r', _)
  rw [bx_uu]
theorem em_sJ2 (hp : em_Hp) (k : Nat) (r r' : Nat → Int64) : em_sJ (em_sJ hp k r) k r' = em_sJ hp k r' := by
  show (_, _, _, va_up (va_up _ k r) k r', _) = (_, _, _, va_up _ k r', _)
  rw [bx_uu]
theorem em_I1 (hp : em_Hp) (k : Nat) (r : Nat → Int32) : em_I (em_sI hp k r) k = r := va_up_self _ _ _
theorem em_J1 (hp : em_Hp) (k : Nat) (r : Nat → Int64) : em_J (em_sJ hp k r) k = r := va_up_self _ _ _
/-- a row filled below a place -/
def em_fil {α : Type} (f : Nat → α) (v : α) (n : Nat) : Nat → α := fun q => if q < n then v else f q
theorem em_fil_0 {α : Type} (f : Nat → α) (v : α) : em_fil f v 0 = f := by funext q; simp [em_fil]
theorem em_fil_s {α : Type} (f : Nat → α) (v : α) (n : Nat) : va_up (em_fil f v n) n v = em_fil f v (n + 1) := by
  funext q
  by_cases h : q = n
  · subst h; simp [va_up, em_fil]
  · by_cases h2 : q < n
    · simp [va_up, em_fil, h, h2, Nat.lt_succ_of_lt h2]
    · have h3 : ¬ q < n + 1 := by omega
      simp [va_up, em_fil, h, h2, h3]
theorem em_sI_id (hp : em_Hp) (k : Nat) : em_sI hp k (em_I hp k) = hp := by
  obtain ⟨a, b, I, J, R⟩ := hp
  have : va_up I k (I k) = I := by
    funext q
    by_cases h : q = k
    · subst h; simp [va_up]
    · simp [va_up, h]
  show (a, b, va_up I k (I k), J, R) = (a, b, I, J, R)
  rw [this]
theorem em_sJ_id (hp : em_Hp) (k : Nat) : em_sJ hp k (em_J hp k) = hp := by
  obtain ⟨a, b, I, J, R⟩ := hp
  have : va_up J k (J k) = J := by
    funext q
    by_cases h : q = k
    · subst h; simp [va_up]
    · simp [va_up, h]
  show (a, b, I, va_up J k (J k), R) = (a, b, I, J, R)
  rw [this]
theorem s_fillI (Γ : em_Cx) (hp : em_Hp) {k L : Nat} (v : Int32) (hk : em_k k = 9) (hn : k < em_n hp) (hL : em_ln hp k = L) (hb : L < 100000) : em_MC Γ 0 mJ7_fill_53178 [.ref k, .int v] hp none (em_sI hp k (em_fil (em_I hp k) v L)) := by
  refine em_MC_of (Nat.le_refl _) (Nat.le_refl _) (by decide +kernel) rfl (Nat.le_of_ble_eq_true rfl) ?_
  (repeat (refine em_pure (Nat.zero_le _) kJ7_fill_53178 rfl ?_))
  refine em_alen kJ7_fill_53178 rfl (Or.inl hk) hn ?_
  (repeat (refine em_pureT 5 (Nat.zero_le _) kJ7_fill_53178 rfl rfl ?_))
  rw [hL]
  have loop : ∀ d j, j + d = L → em_EW Γ 0 mJ7_fill_53178 hp (none, em_sI hp k (em_fil (em_I hp k) v L)) 5 [(0, .ref k), (1, .int v), (2, .int (nI j)), (3, .int (nI L))] [] (em_sI hp k (em_fil (em_I hp k) v j)) := by
    intro d
    induction d with
    | zero =>
      intro j hj
      obtain rfl : j = L := by omega
      (repeat (refine em_pure (Nat.zero_le _) kJ7_fill_53178 rfl ?_))
      refine em_branch kJ7_fill_53178 rfl (fun _ => ?_) (fun h1 => absurd (nI_le (Nat.le_refl j) (by omega)) h1)
      (repeat (refine em_pure (Nat.zero_le _) kJ7_fill_53178 rfl ?_))
      exact em_vret kJ7_fill_53178 rfl rfl rfl
    | succ d ih =>
      intro j hj
      (repeat (refine em_pure (Nat.zero_le _) kJ7_fill_53178 rfl ?_))
      refine em_branch kJ7_fill_53178 rfl (fun h1 => absurd h1 (nI_ge (by omega) (by omega))) (fun _ => ?_)
      (repeat (refine em_pure (Nat.zero_le _) kJ7_fill_53178 rfl ?_))
      refine em_iast kJ7_fill_53178 rfl hk hn (by show vp_in (nI j) (em_ln hp k); rw [hL]; exact vp_in_nI (by omega) (by omega)) ?_
      rw [nI_clamp (by omega), em_sI2, em_I1, em_fil_s]
      (repeat (refine em_pureT 5 (Nat.zero_le _) kJ7_fill_53178 rfl rfl ?_))
      refine em_loc (lc' := [(0, .ref k), (1, .int v), (2, .int (nI j + 1)), (3, .int (nI L))]) rfl ?_
      rw [nI_1]
      exact ih (j + 1) (by omega)
  refine em_loc (lc' := [(0, .ref k), (1, .int v), (2, .int (nI 0)), (3, .int (nI L))]) rfl ?_
  have h0 := loop L 0 (by omega)
  rw [em_fil_0, em_sI_id] at h0
  exact h0
