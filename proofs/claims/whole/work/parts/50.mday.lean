/-! THE REFERENCE'S DAY -/
def em_lin (f : Nat → Int32) (t : Int32) (c0 : Nat) (F0 : Nat → Int32 × Int32 × Int32) (u0 : Nat → Int32) : Nat → Nat × (Nat → Int32 × Int32 × Int32) × (Nat → Int32)
  | 0 => (c0, F0, u0)
  | d + 1 => if f d - (em_lin f t c0 F0 u0 d).2.2 d = 0 then em_lin f t c0 F0 u0 d else ((em_lin f t c0 F0 u0 d).1 + 1, va_up (em_lin f t c0 F0 u0 d).2.1 (em_lin f t c0 F0 u0 d).1 (t, nI d, f d - (em_lin f t c0 F0 u0 d).2.2 d), va_up (em_lin f t c0 F0 u0 d).2.2 d ((em_lin f t c0 F0 u0 d).2.2 d + (f d - (em_lin f t c0 F0 u0 d).2.2 d)))
theorem em_lin_u (f : Nat → Int32) (t : Int32) (c0 : Nat) (F0 : Nat → Int32 × Int32 × Int32) (u0 : Nat → Int32) : ∀ d q, d ≤ q → (em_lin f t c0 F0 u0 d).2.2 q = u0 q
  | 0, _, _ => rfl
  | d + 1, q, h => by
    rw [em_lin]
    split
    · exact em_lin_u f t c0 F0 u0 d q (by omega)
    · show va_up _ d _ q = _
      rw [va_up_ne _ _ (by omega)]
      exact em_lin_u f t c0 F0 u0 d q (by omega)
theorem em_lin_c (f : Nat → Int32) (t : Int32) (c0 : Nat) (F0 : Nat → Int32 × Int32 × Int32) (u0 : Nat → Int32) : ∀ d, (em_lin f t c0 F0 u0 d).1 = c0 + em_due f u0 d
  | 0 => rfl
  | d + 1 => by
    have hu := em_lin_u f t c0 F0 u0 d d (Nat.le_refl _)
    rw [em_lin, em_due]
    by_cases h : f d = u0 d
    · rw [if_pos (by rw [hu, em_sub0]; exact h), if_pos h]
      exact em_lin_c f t c0 F0 u0 d
    · rw [if_neg (by rw [hu, em_sub0]; exact h), if_neg h]
      show (em_lin f t c0 F0 u0 d).1 + 1 = _
      rw [em_lin_c f t c0 F0 u0 d]
      omega
theorem em_RR_53 (rv rv' : em_Rv) (j0 x : Nat) (h0 : rv'.1 = rv.1) (hj0 : em_RR rv' 53 j0 = some x) (h : ∀ j, ¬ j = j0 → em_RR rv' 53 j = em_RR rv 53 j) : va_up (em_RR rv) 53 (va_up (em_RR rv 53) j0 (some x)) = em_RR rv' := by
  funext k
  by_cases hk : k = 53
  · subst hk
    rw [va_up_self]
    funext j
    by_cases h2 : j = j0
    · subst h2; rw [va_up_self, hj0]
    · rw [va_up_ne _ _ h2, h j h2]
  · rw [va_up_ne _ _ hk]
    have h : Nat.beq k 53 = false := by
      cases hb : Nat.beq k 53 with
      | false => rfl
      | true => exact absurd (Nat.eq_of_beq_eq_true hb) hk
    funext j
    simp only [em_RR, h, cond_false, h0]
theorem em_neb {j k : Nat} (h : ¬ j = k) : Nat.beq j k = false := by
  cases hb : Nat.beq j k with
  | false => rfl
  | true => exact absurd (Nat.eq_of_beq_eq_true hb) h
theorem em_RR_18 (rv : em_Rv) (x : Nat) : va_up (em_RR rv) 53 (va_up (em_RR rv 53) 18 (some x)) = em_RR (rv.1, x, rv.2.2) :=
  em_RR_53 rv (rv.1, x, rv.2.2) 18 x rfl rfl (fun j hj => by simp only [em_RR, em_neb hj, cond_false])
theorem em_RR_19 (rv : em_Rv) (x : Nat) : va_up (em_RR rv) 53 (va_up (em_RR rv 53) 19 (some x)) = em_RR (rv.1, rv.2.1, x, rv.2.2.2) :=
  em_RR_53 rv (rv.1, rv.2.1, x, rv.2.2.2) 19 x rfl rfl (fun j hj => by simp only [em_RR, em_neb hj, cond_false])
theorem em_RR_20 (rv : em_Rv) (x : Nat) : va_up (em_RR rv) 53 (va_up (em_RR rv 53) 20 (some x)) = em_RR (rv.1, rv.2.1, rv.2.2.1, x, rv.2.2.2.2) :=
  em_RR_53 rv (rv.1, rv.2.1, rv.2.2.1, x, rv.2.2.2.2) 20 x rfl rfl (fun j hj => by simp only [em_RR, em_neb hj, cond_false])
def em_MB (n m : Nat) (dl : Nat → Nat) (I : Nat → Nat → Int32) (rv : em_Rv) (lam : Nat) (n' m' : Nat) (dl' : Nat → Nat) (I' : Nat → Nat → Int32) (rv' : em_Rv) (lam' : Nat) (s : Nat × (Nat → Int32 × Int32 × Int32) × (Nat → Int32)) : Prop := (n ≤ n') ∧ (m' + 6 * lam = m + 6 * lam') ∧ (lam ≤ lam') ∧ (n' + 3 * lam ≤ n + 3 * lam') ∧ (rv'.1 = rv.1) ∧ (rv'.2.2.2.2 = rv.2.2.2.2) ∧ (∀ k, k < n → ¬ k = 53 → ¬ k = 63 → ¬ k = rv.2.1 → ¬ k = rv.2.2.1 → ¬ k = rv.2.2.2.1 → I' k = I k) ∧ (I' 53 = va_up (I 53) 3 (nI s.1)) ∧ (I' 63 = s.2.2) ∧ (∀ k, k < n → em_lnd dl' k = em_lnd dl k) ∧ (rv'.2.1 = rv.2.1 ∨ n ≤ rv'.2.1) ∧ (rv'.2.2.1 = rv.2.2.1 ∨ n ≤ rv'.2.2.1) ∧ (rv'.2.2.2.1 = rv.2.2.2.1 ∨ n ≤ rv'.2.2.2.1) ∧ (em_rk rv'.2.1 64) ∧ (em_rk rv'.2.2.1 65) ∧ (em_rk rv'.2.2.2.1 66) ∧ (rv'.2.1 < n') ∧ (rv'.2.2.1 < n') ∧ (rv'.2.2.2.1 < n') ∧ (em_lnd dl' rv'.2.1 = lam') ∧ (em_lnd dl' rv'.2.2.1 = lam') ∧ (em_lnd dl' rv'.2.2.2.1 = lam') ∧ (¬ rv'.2.1 = rv'.2.2.1) ∧ (¬ rv'.2.1 = rv'.2.2.2.1) ∧ (¬ rv'.2.2.1 = rv'.2.2.2.1) ∧ (lam' ≤ 40000) ∧ (s.1 ≤ lam') ∧ (∀ i, i < s.1 → I' rv'.2.1 i = (s.2.1 i).1 ∧ I' rv'.2.2.1 i = (s.2.1 i).2.1 ∧ I' rv'.2.2.2.1 i = (s.2.1 i).2.2)
theorem em_MB.hn {n m : Nat} {dl : Nat → Nat} {I : Nat → Nat → Int32} {rv : em_Rv} {lam : Nat} {n' m' : Nat} {dl' : Nat → Nat} {I' : Nat → Nat → Int32} {rv' : em_Rv} {lam' : Nat} {s : Nat × (Nat → Int32 × Int32 × Int32) × (Nat → Int32)} (h0_ : em_MB n m dl I rv lam n' m' dl' I' rv' lam' s) : n ≤ n' := h0_.1
theorem em_MB.hm {n m : Nat} {dl : Nat → Nat} {I : Nat → Nat → Int32} {rv : em_Rv} {lam : Nat} {n' m' : Nat} {dl' : Nat → Nat} {I' : Nat → Nat → Int32} {rv' : em_Rv} {lam' : Nat} {s : Nat × (Nat → Int32 × Int32 × Int32) × (Nat → Int32)} (h0_ : em_MB n m dl I rv lam n' m' dl' I' rv' lam' s) : m' + 6 * lam = m + 6 * lam' := h0_.2.1
theorem em_MB.hlm {n m : Nat} {dl : Nat → Nat} {I : Nat → Nat → Int32} {rv : em_Rv} {lam : Nat} {n' m' : Nat} {dl' : Nat → Nat} {I' : Nat → Nat → Int32} {rv' : em_Rv} {lam' : Nat} {s : Nat × (Nat → Int32 × Int32 × Int32) × (Nat → Int32)} (h0_ : em_MB n m dl I rv lam n' m' dl' I' rv' lam' s) : lam ≤ lam' := h0_.2.2.1
theorem em_MB.hnc {n m : Nat} {dl : Nat → Nat} {I : Nat → Nat → Int32} {rv : em_Rv} {lam : Nat} {n' m' : Nat} {dl' : Nat → Nat} {I' : Nat → Nat → Int32} {rv' : em_Rv} {lam' : Nat} {s : Nat × (Nat → Int32 × Int32 × Int32) × (Nat → Int32)} (h0_ : em_MB n m dl I rv lam n' m' dl' I' rv' lam' s) : n' + 3 * lam ≤ n + 3 * lam' := h0_.2.2.2.1
theorem em_MB.r1 {n m : Nat} {dl : Nat → Nat} {I : Nat → Nat → Int32} {rv : em_Rv} {lam : Nat} {n' m' : Nat} {dl' : Nat → Nat} {I' : Nat → Nat → Int32} {rv' : em_Rv} {lam' : Nat} {s : Nat × (Nat → Int32 × Int32 × Int32) × (Nat → Int32)} (h0_ : em_MB n m dl I rv lam n' m' dl' I' rv' lam' s) : rv'.1 = rv.1 := h0_.2.2.2.2.1
theorem em_MB.r5 {n m : Nat} {dl : Nat → Nat} {I : Nat → Nat → Int32} {rv : em_Rv} {lam : Nat} {n' m' : Nat} {dl' : Nat → Nat} {I' : Nat → Nat → Int32} {rv' : em_Rv} {lam' : Nat} {s : Nat × (Nat → Int32 × Int32 × Int32) × (Nat → Int32)} (h0_ : em_MB n m dl I rv lam n' m' dl' I' rv' lam' s) : rv'.2.2.2.2 = rv.2.2.2.2 := h0_.2.2.2.2.2.1
theorem em_MB.same {n m : Nat} {dl : Nat → Nat} {I : Nat → Nat → Int32} {rv : em_Rv} {lam : Nat} {n' m' : Nat} {dl' : Nat → Nat} {I' : Nat → Nat → Int32} {rv' : em_Rv} {lam' : Nat} {s : Nat × (Nat → Int32 × Int32 × Int32) × (Nat → Int32)} (h0_ : em_MB n m dl I rv lam n' m' dl' I' rv' lam' s) : ∀ k, k < n → ¬ k = 53 → ¬ k = 63 → ¬ k = rv.2.1 → ¬ k = rv.2.2.1 → ¬ k = rv.2.2.2.1 → I' k = I k := h0_.2.2.2.2.2.2.1
theorem em_MB.i53 {n m : Nat} {dl : Nat → Nat} {I : Nat → Nat → Int32} {rv : em_Rv} {lam : Nat} {n' m' : Nat} {dl' : Nat → Nat} {I' : Nat → Nat → Int32} {rv' : em_Rv} {lam' : Nat} {s : Nat × (Nat → Int32 × Int32 × Int32) × (Nat → Int32)} (h0_ : em_MB n m dl I rv lam n' m' dl' I' rv' lam' s) : I' 53 = va_up (I 53) 3 (nI s.1) := h0_.2.2.2.2.2.2.2.1
theorem em_MB.i63 {n m : Nat} {dl : Nat → Nat} {I : Nat → Nat → Int32} {rv : em_Rv} {lam : Nat} {n' m' : Nat} {dl' : Nat → Nat} {I' : Nat → Nat → Int32} {rv' : em_Rv} {lam' : Nat} {s : Nat × (Nat → Int32 × Int32 × Int32) × (Nat → Int32)} (h0_ : em_MB n m dl I rv lam n' m' dl' I' rv' lam' s) : I' 63 = s.2.2 := h0_.2.2.2.2.2.2.2.2.1
theorem em_MB.dls {n m : Nat} {dl : Nat → Nat} {I : Nat → Nat → Int32} {rv : em_Rv} {lam : Nat} {n' m' : Nat} {dl' : Nat → Nat} {I' : Nat → Nat → Int32} {rv' : em_Rv} {lam' : Nat} {s : Nat × (Nat → Int32 × Int32 × Int32) × (Nat → Int32)} (h0_ : em_MB n m dl I rv lam n' m' dl' I' rv' lam' s) : ∀ k, k < n → em_lnd dl' k = em_lnd dl k := h0_.2.2.2.2.2.2.2.2.2.1
theorem em_MB.a1 {n m : Nat} {dl : Nat → Nat} {I : Nat → Nat → Int32} {rv : em_Rv} {lam : Nat} {n' m' : Nat} {dl' : Nat → Nat} {I' : Nat → Nat → Int32} {rv' : em_Rv} {lam' : Nat} {s : Nat × (Nat → Int32 × Int32 × Int32) × (Nat → Int32)} (h0_ : em_MB n m dl I rv lam n' m' dl' I' rv' lam' s) : rv'.2.1 = rv.2.1 ∨ n ≤ rv'.2.1 := h0_.2.2.2.2.2.2.2.2.2.2.1
theorem em_MB.a2 {n m : Nat} {dl : Nat → Nat} {I : Nat → Nat → Int32} {rv : em_Rv} {lam : Nat} {n' m' : Nat} {dl' : Nat → Nat} {I' : Nat → Nat → Int32} {rv' : em_Rv} {lam' : Nat} {s : Nat × (Nat → Int32 × Int32 × Int32) × (Nat → Int32)} (h0_ : em_MB n m dl I rv lam n' m' dl' I' rv' lam' s) : rv'.2.2.1 = rv.2.2.1 ∨ n ≤ rv'.2.2.1 := h0_.2.2.2.2.2.2.2.2.2.2.2.1
theorem em_MB.a3 {n m : Nat} {dl : Nat → Nat} {I : Nat → Nat → Int32} {rv : em_Rv} {lam : Nat} {n' m' : Nat} {dl' : Nat → Nat} {I' : Nat → Nat → Int32} {rv' : em_Rv} {lam' : Nat} {s : Nat × (Nat → Int32 × Int32 × Int32) × (Nat → Int32)} (h0_ : em_MB n m dl I rv lam n' m' dl' I' rv' lam' s) : rv'.2.2.2.1 = rv.2.2.2.1 ∨ n ≤ rv'.2.2.2.1 := h0_.2.2.2.2.2.2.2.2.2.2.2.2.1
theorem em_MB.k1 {n m : Nat} {dl : Nat → Nat} {I : Nat → Nat → Int32} {rv : em_Rv} {lam : Nat} {n' m' : Nat} {dl' : Nat → Nat} {I' : Nat → Nat → Int32} {rv' : em_Rv} {lam' : Nat} {s : Nat × (Nat → Int32 × Int32 × Int32) × (Nat → Int32)} (h0_ : em_MB n m dl I rv lam n' m' dl' I' rv' lam' s) : em_rk rv'.2.1 64 := h0_.2.2.2.2.2.2.2.2.2.2.2.2.2.1
theorem em_MB.k2 {n m : Nat} {dl : Nat → Nat} {I : Nat → Nat → Int32} {rv : em_Rv} {lam : Nat} {n' m' : Nat} {dl' : Nat → Nat} {I' : Nat → Nat → Int32} {rv' : em_Rv} {lam' : Nat} {s : Nat × (Nat → Int32 × Int32 × Int32) × (Nat → Int32)} (h0_ : em_MB n m dl I rv lam n' m' dl' I' rv' lam' s) : em_rk rv'.2.2.1 65 := h0_.2.2.2.2.2.2.2.2.2.2.2.2.2.2.1
theorem em_MB.k3 {n m : Nat} {dl : Nat → Nat} {I : Nat → Nat → Int32} {rv : em_Rv} {lam : Nat} {n' m' : Nat} {dl' : Nat → Nat} {I' : Nat → Nat → Int32} {rv' : em_Rv} {lam' : Nat} {s : Nat × (Nat → Int32 × Int32 × Int32) × (Nat → Int32)} (h0_ : em_MB n m dl I rv lam n' m' dl' I' rv' lam' s) : em_rk rv'.2.2.2.1 66 := h0_.2.2.2.2.2.2.2.2.2.2.2.2.2.2.2.1
theorem em_MB.t1 {n m : Nat} {dl : Nat → Nat} {I : Nat → Nat → Int32} {rv : em_Rv} {lam : Nat} {n' m' : Nat} {dl' : Nat → Nat} {I' : Nat → Nat → Int32} {rv' : em_Rv} {lam' : Nat} {s : Nat × (Nat → Int32 × Int32 × Int32) × (Nat → Int32)} (h0_ : em_MB n m dl I rv lam n' m' dl' I' rv' lam' s) : rv'.2.1 < n' := h0_.2.2.2.2.2.2.2.2.2.2.2.2.2.2.2.2.1
theorem em_MB.t2 {n m : Nat} {dl : Nat → Nat} {I : Nat → Nat → Int32} {rv : em_Rv} {lam : Nat} {n' m' : Nat} {dl' : Nat → Nat} {I' : Nat → Nat → Int32} {rv' : em_Rv} {lam' : Nat} {s : Nat × (Nat → Int32 × Int32 × Int32) × (Nat → Int32)} (h0_ : em_MB n m dl I rv lam n' m' dl' I' rv' lam' s) : rv'.2.2.1 < n' := h0_.2.2.2.2.2.2.2.2.2.2.2.2.2.2.2.2.2.1
theorem em_MB.t3 {n m : Nat} {dl : Nat → Nat} {I : Nat → Nat → Int32} {rv : em_Rv} {lam : Nat} {n' m' : Nat} {dl' : Nat → Nat} {I' : Nat → Nat → Int32} {rv' : em_Rv} {lam' : Nat} {s : Nat × (Nat → Int32 × Int32 × Int32) × (Nat → Int32)} (h0_ : em_MB n m dl I rv lam n' m' dl' I' rv' lam' s) : rv'.2.2.2.1 < n' := h0_.2.2.2.2.2.2.2.2.2.2.2.2.2.2.2.2.2.2.1
theorem em_MB.l1 {n m : Nat} {dl : Nat → Nat} {I : Nat → Nat → Int32} {rv : em_Rv} {lam : Nat} {n' m' : Nat} {dl' : Nat → Nat} {I' : Nat → Nat → Int32} {rv' : em_Rv} {lam' : Nat} {s : Nat × (Nat → Int32 × Int32 × Int32) × (Nat → Int32)} (h0_ : em_MB n m dl I rv lam n' m' dl' I' rv' lam' s) : em_lnd dl' rv'.2.1 = lam' := h0_.2.2.2.2.2.2.2.2.2.2.2.2.2.2.2.2.2.2.2.1
theorem em_MB.l2 {n m : Nat} {dl : Nat → Nat} {I : Nat → Nat → Int32} {rv : em_Rv} {lam : Nat} {n' m' : Nat} {dl' : Nat → Nat} {I' : Nat → Nat → Int32} {rv' : em_Rv} {lam' : Nat} {s : Nat × (Nat → Int32 × Int32 × Int32) × (Nat → Int32)} (h0_ : em_MB n m dl I rv lam n' m' dl' I' rv' lam' s) : em_lnd dl' rv'.2.2.1 = lam' := h0_.2.2.2.2.2.2.2.2.2.2.2.2.2.2.2.2.2.2.2.2.1
theorem em_MB.l3 {n m : Nat} {dl : Nat → Nat} {I : Nat → Nat → Int32} {rv : em_Rv} {lam : Nat} {n' m' : Nat} {dl' : Nat → Nat} {I' : Nat → Nat → Int32} {rv' : em_Rv} {lam' : Nat} {s : Nat × (Nat → Int32 × Int32 × Int32) × (Nat → Int32)} (h0_ : em_MB n m dl I rv lam n' m' dl' I' rv' lam' s) : em_lnd dl' rv'.2.2.2.1 = lam' := h0_.2.2.2.2.2.2.2.2.2.2.2.2.2.2.2.2.2.2.2.2.2.1
theorem em_MB.d12 {n m : Nat} {dl : Nat → Nat} {I : Nat → Nat → Int32} {rv : em_Rv} {lam : Nat} {n' m' : Nat} {dl' : Nat → Nat} {I' : Nat → Nat → Int32} {rv' : em_Rv} {lam' : Nat} {s : Nat × (Nat → Int32 × Int32 × Int32) × (Nat → Int32)} (h0_ : em_MB n m dl I rv lam n' m' dl' I' rv' lam' s) : ¬ rv'.2.1 = rv'.2.2.1 := h0_.2.2.2.2.2.2.2.2.2.2.2.2.2.2.2.2.2.2.2.2.2.2.1
theorem em_MB.d13 {n m : Nat} {dl : Nat → Nat} {I : Nat → Nat → Int32} {rv : em_Rv} {lam : Nat} {n' m' : Nat} {dl' : Nat → Nat} {I' : Nat → Nat → Int32} {rv' : em_Rv} {lam' : Nat} {s : Nat × (Nat → Int32 × Int32 × Int32) × (Nat → Int32)} (h0_ : em_MB n m dl I rv lam n' m' dl' I' rv' lam' s) : ¬ rv'.2.1 = rv'.2.2.2.1 := h0_.2.2.2.2.2.2.2.2.2.2.2.2.2.2.2.2.2.2.2.2.2.2.2.1
theorem em_MB.d23 {n m : Nat} {dl : Nat → Nat} {I : Nat → Nat → Int32} {rv : em_Rv} {lam : Nat} {n' m' : Nat} {dl' : Nat → Nat} {I' : Nat → Nat → Int32} {rv' : em_Rv} {lam' : Nat} {s : Nat × (Nat → Int32 × Int32 × Int32) × (Nat → Int32)} (h0_ : em_MB n m dl I rv lam n' m' dl' I' rv' lam' s) : ¬ rv'.2.2.1 = rv'.2.2.2.1 := h0_.2.2.2.2.2.2.2.2.2.2.2.2.2.2.2.2.2.2.2.2.2.2.2.2.1
theorem em_MB.hlam {n m : Nat} {dl : Nat → Nat} {I : Nat → Nat → Int32} {rv : em_Rv} {lam : Nat} {n' m' : Nat} {dl' : Nat → Nat} {I' : Nat → Nat → Int32} {rv' : em_Rv} {lam' : Nat} {s : Nat × (Nat → Int32 × Int32 × Int32) × (Nat → Int32)} (h0_ : em_MB n m dl I rv lam n' m' dl' I' rv' lam' s) : lam' ≤ 40000 := h0_.2.2.2.2.2.2.2.2.2.2.2.2.2.2.2.2.2.2.2.2.2.2.2.2.2.1
theorem em_MB.hc {n m : Nat} {dl : Nat → Nat} {I : Nat → Nat → Int32} {rv : em_Rv} {lam : Nat} {n' m' : Nat} {dl' : Nat → Nat} {I' : Nat → Nat → Int32} {rv' : em_Rv} {lam' : Nat} {s : Nat × (Nat → Int32 × Int32 × Int32) × (Nat → Int32)} (h0_ : em_MB n m dl I rv lam n' m' dl' I' rv' lam' s) : s.1 ≤ lam' := h0_.2.2.2.2.2.2.2.2.2.2.2.2.2.2.2.2.2.2.2.2.2.2.2.2.2.2.1
theorem em_MB.ln {n m : Nat} {dl : Nat → Nat} {I : Nat → Nat → Int32} {rv : em_Rv} {lam : Nat} {n' m' : Nat} {dl' : Nat → Nat} {I' : Nat → Nat → Int32} {rv' : em_Rv} {lam' : Nat} {s : Nat × (Nat → Int32 × Int32 × Int32) × (Nat → Int32)} (h0_ : em_MB n m dl I rv lam n' m' dl' I' rv' lam' s) : ∀ i, i < s.1 → I' rv'.2.1 i = (s.2.1 i).1 ∧ I' rv'.2.2.1 i = (s.2.1 i).2.1 ∧ I' rv'.2.2.2.1 i = (s.2.1 i).2.2 := h0_.2.2.2.2.2.2.2.2.2.2.2.2.2.2.2.2.2.2.2.2.2.2.2.2.2.2.2
theorem em_MB.mk {n m : Nat} {dl : Nat → Nat} {I : Nat → Nat → Int32} {rv : em_Rv} {lam : Nat} {n' m' : Nat} {dl' : Nat → Nat} {I' : Nat → Nat → Int32} {rv' : em_Rv} {lam' : Nat} {s : Nat × (Nat → Int32 × Int32 × Int32) × (Nat → Int32)} (hn : n ≤ n') (hm : m' + 6 * lam = m + 6 * lam') (hlm : lam ≤ lam') (hnc : n' + 3 * lam ≤ n + 3 * lam') (r1 : rv'.1 = rv.1) (r5 : rv'.2.2.2.2 = rv.2.2.2.2) (same : ∀ k, k < n → ¬ k = 53 → ¬ k = 63 → ¬ k = rv.2.1 → ¬ k = rv.2.2.1 → ¬ k = rv.2.2.2.1 → I' k = I k) (i53 : I' 53 = va_up (I 53) 3 (nI s.1)) (i63 : I' 63 = s.2.2) (dls : ∀ k, k < n → em_lnd dl' k = em_lnd dl k) (a1 : rv'.2.1 = rv.2.1 ∨ n ≤ rv'.2.1) (a2 : rv'.2.2.1 = rv.2.2.1 ∨ n ≤ rv'.2.2.1) (a3 : rv'.2.2.2.1 = rv.2.2.2.1 ∨ n ≤ rv'.2.2.2.1) (k1 : em_rk rv'.2.1 64) (k2 : em_rk rv'.2.2.1 65) (k3 : em_rk rv'.2.2.2.1 66) (t1 : rv'.2.1 < n') (t2 : rv'.2.2.1 < n') (t3 : rv'.2.2.2.1 < n') (l1 : em_lnd dl' rv'.2.1 = lam') (l2 : em_lnd dl' rv'.2.2.1 = lam') (l3 : em_lnd dl' rv'.2.2.2.1 = lam') (d12 : ¬ rv'.2.1 = rv'.2.2.1) (d13 : ¬ rv'.2.1 = rv'.2.2.2.1) (d23 : ¬ rv'.2.2.1 = rv'.2.2.2.1) (hlam : lam' ≤ 40000) (hc : s.1 ≤ lam') (ln : ∀ i, i < s.1 → I' rv'.2.1 i = (s.2.1 i).1 ∧ I' rv'.2.2.1 i = (s.2.1 i).2.1 ∧ I' rv'.2.2.2.1 i = (s.2.1 i).2.2) : em_MB n m dl I rv lam n' m' dl' I' rv' lam' s := ⟨hn, hm, hlm, hnc, r1, r5, same, i53, i63, dls, a1, a2, a3, k1, k2, k3, t1, t2, t3, l1, l2, l3, d12, d13, d23, hlam, hc, ln⟩
abbrev em_cp0 (f : Nat → Int32) (lam : Nat) : Nat → Int32 := va_cpy f (fun _ => 0) 0 0 lam
theorem em_cp0_lt {f : Nat → Int32} {lam i : Nat} (h : i < lam) : em_cp0 f lam i = f i := by
  show va_cpy f (fun _ => 0) 0 0 lam i = f i
  rw [va_cpy, if_pos (by omega)]
  congr 1
  omega
section MBp
variable {n m : Nat} {dl : Nat → Nat} {I : Nat → Nat → Int32} {rv : em_Rv} {lam n' m' : Nat} {dl' : Nat → Nat} {I' : Nat → Nat → Int32} {rv' : em_Rv} {lam' : Nat} {s : Nat × (Nat → Int32 × Int32 × Int32) × (Nat → Int32)}
abbrev em_g1 (I' : Nat → Nat → Int32) (rv' : em_Rv) (n' lam' : Nat) : Nat → Nat → Int32 := va_up I' n' (em_cp0 (I' rv'.2.1) lam')
abbrev em_g2 (I' : Nat → Nat → Int32) (rv' : em_Rv) (n' lam' : Nat) : Nat → Nat → Int32 := va_up (em_g1 I' rv' n' lam') (n' + 1) (em_cp0 (I' rv'.2.2.1) lam')
abbrev em_g3 (I' : Nat → Nat → Int32) (rv' : em_Rv) (n' lam' : Nat) : Nat → Nat → Int32 := va_up (em_g2 I' rv' n' lam') (n' + 2) (em_cp0 (I' rv'.2.2.2.1) lam')
abbrev em_gd (dl' : Nat → Nat) (n' l : Nat) : Nat → Nat := va_up (va_up (va_up dl' n' l) (n' + 1) l) (n' + 2) l
theorem em_MB_0 {c : Nat} (h3 : I 53 3 = nI c) (hc : c ≤ lam) (hlam : lam ≤ 40000) (k1 : em_rk rv.2.1 64) (k2 : em_rk rv.2.2.1 65) (k3 : em_rk rv.2.2.2.1 66) (t1 : rv.2.1 < n) (t2 : rv.2.2.1 < n) (t3 : rv.2.2.2.1 < n) (l1 : em_lnd dl rv.2.1 = lam) (l2 : em_lnd dl rv.2.2.1 = lam) (l3 : em_lnd dl rv.2.2.2.1 = lam) (d12 : ¬ rv.2.1 = rv.2.2.1) (d13 : ¬ rv.2.1 = rv.2.2.2.1) (d23 : ¬ rv.2.2.1 = rv.2.2.2.1) : em_MB n m dl I rv lam n m dl I rv lam (c, fun i => (I rv.2.1 i, I rv.2.2.1 i, I rv.2.2.2.1 i), I 63) :=
  em_MB.mk (hn := Nat.le_refl _) (hm := rfl) (hlm := Nat.le_refl _) (hnc := Nat.le_refl _) (r1 := rfl) (r5 := rfl) (same := fun _ _ _ _ _ _ _ => rfl) (i53 := by show I 53 = va_up (I 53) 3 (nI c); rw [← h3, em_va_id]) (i63 := rfl) (dls := fun _ _ => rfl) (a1 := Or.inl rfl) (a2 := Or.inl rfl) (a3 := Or.inl rfl) (k1 := k1) (k2 := k2) (k3 := k3) (t1 := t1) (t2 := t2) (t3 := t3) (l1 := l1) (l2 := l2) (l3 := l3) (d12 := d12) (d13 := d13) (d23 := d23) (hlam := hlam) (hc := hc) (ln := fun _ _ => ⟨rfl, rfl, rfl⟩)
theorem em_MB_grow (hB : 85 ≤ n) (h : em_MB n m dl I rv lam n' m' dl' I' rv' lam' s) (h1 : 1 ≤ lam) (hs2 : lam' ≤ 20000) :
    em_MB n m dl I rv lam (n' + 3) (m' + 2 * lam' + 2 * lam' + 2 * lam') (em_gd dl' n' (2 * lam')) (em_g3 I' rv' n' lam') (rv'.1, n', n' + 1, n' + 2, rv'.2.2.2.2) (2 * lam') s := by
  have hn := h.hn
  have hm := h.hm
  have hlm := h.hlm
  have hnc := h.hnc
  have hc := h.hc
  have lo : ∀ k, k < n' → em_g3 I' rv' n' lam' k = I' k := fun k hk => by
    show va_up (va_up (va_up I' n' _) (n' + 1) _) (n' + 2) _ k = _
    rw [va_up_ne _ _ (by omega), va_up_ne _ _ (by omega), va_up_ne _ _ (by omega)]
  exact em_MB.mk
    (hn := by omega)
    (hm := by omega)
    (hlm := by omega)
    (hnc := by omega)
    (r1 := h.r1)
    (r5 := h.r5)
    (same := fun k kn k53 k63 ka1 ka2 ka3 => by rw [lo k (by omega)]; exact h.same k kn k53 k63 ka1 ka2 ka3)
    (i53 := by rw [lo 53 (by omega), h.i53])
    (i63 := by rw [lo 63 (by omega), h.i63])
    (dls := fun k hk => by rw [em_lnd_up (by omega), em_lnd_up (by omega), em_lnd_up (by omega)]; exact h.dls k hk)
    (a1 := Or.inr hn)
    (a2 := Or.inr (by show n ≤ n' + 1; omega))
    (a3 := Or.inr (by show n ≤ n' + 2; omega))
    (k1 := Or.inr (by show 85 ≤ n'; omega))
    (k2 := Or.inr (by show 85 ≤ n' + 1; omega))
    (k3 := Or.inr (by show 85 ≤ n' + 2; omega))
    (t1 := by show n' < n' + 3; omega)
    (t2 := by show n' + 1 < n' + 3; omega)
    (t3 := by show n' + 2 < n' + 3; omega)
    (l1 := by show em_lnd (em_gd dl' n' (2 * lam')) n' = _; rw [em_lnd_up (by omega), em_lnd_up (by omega), em_lnd_n (by omega)])
    (l2 := by show em_lnd (em_gd dl' n' (2 * lam')) (n' + 1) = _; rw [em_lnd_up (by omega), em_lnd_n (by omega)])
    (l3 := by show em_lnd (em_gd dl' n' (2 * lam')) (n' + 2) = _; rw [em_lnd_n (by omega)])
    (d12 := by show ¬ n' = n' + 1; omega)
    (d13 := by show ¬ n' = n' + 2; omega)
    (d23 := by show ¬ n' + 1 = n' + 2; omega)
    (hlam := by omega)
    (hc := by omega)
    (ln := fun i hi => by
      obtain ⟨l1, l2, l3⟩ := h.ln i hi
      refine ⟨?_, ?_, ?_⟩
      · show va_up (va_up (va_up I' n' _) (n' + 1) _) (n' + 2) _ n' i = _
        rw [va_up_ne _ _ (by omega), va_up_ne _ _ (by omega), va_up_self, em_cp0_lt (by omega), l1]
      · show va_up (va_up (va_up I' n' _) (n' + 1) _) (n' + 2) _ (n' + 1) i = _
        rw [va_up_ne _ _ (by omega), va_up_self, em_cp0_lt (by omega), l2]
      · show va_up (va_up (va_up I' n' _) (n' + 1) _) (n' + 2) _ (n' + 2) i = _
        rw [va_up_self, em_cp0_lt (by omega), l3])
abbrev em_v1 (I' : Nat → Nat → Int32) (rv' : em_Rv) (c : Nat) (t : Int32) : Nat → Nat → Int32 := va_up I' rv'.2.1 (va_up (I' rv'.2.1) c t)
abbrev em_v2 (I' : Nat → Nat → Int32) (rv' : em_Rv) (c : Nat) (t d : Int32) : Nat → Nat → Int32 := va_up (em_v1 I' rv' c t) rv'.2.2.1 (va_up (em_v1 I' rv' c t rv'.2.2.1) c d)
abbrev em_v3 (I' : Nat → Nat → Int32) (rv' : em_Rv) (c : Nat) (t d x : Int32) : Nat → Nat → Int32 := va_up (em_v2 I' rv' c t d) rv'.2.2.2.1 (va_up (em_v2 I' rv' c t d rv'.2.2.2.1) c x)
abbrev em_v4 (I' : Nat → Nat → Int32) (rv' : em_Rv) (c : Nat) (t d x : Int32) : Nat → Nat → Int32 := va_up (em_v3 I' rv' c t d x) 53 (va_up (em_v3 I' rv' c t d x 53) 3 (em_v3 I' rv' c t d x 53 3 + 1))
abbrev em_v5 (I' : Nat → Nat → Int32) (rv' : em_Rv) (c : Nat) (t : Int32) (d : Nat) (x : Int32) : Nat → Nat → Int32 := va_up (em_v4 I' rv' c t (nI d) x) 63 (va_up (em_v4 I' rv' c t (nI d) x 63) d (em_v4 I' rv' c t (nI d) x 63 d + x))
theorem em_v3_at {c k : Nat} {t d x : Int32} (h1 : ¬ k = rv'.2.1) (h2 : ¬ k = rv'.2.2.1) (h3 : ¬ k = rv'.2.2.2.1) : em_v3 I' rv' c t d x k = I' k := by
  show va_up (va_up (va_up I' rv'.2.1 _) rv'.2.2.1 _) rv'.2.2.2.1 _ k = _
  rw [va_up_ne _ _ h3, va_up_ne _ _ h2, va_up_ne _ _ h1]
theorem em_MB_write (h : em_MB n m dl I rv lam n' m' dl' I' rv' lam' s) (hs : s.1 < lam') (t x : Int32) (d : Nat) :
    em_MB n m dl I rv lam n' m' dl' (em_v5 I' rv' s.1 t d x) rv' lam' (s.1 + 1, va_up s.2.1 s.1 (t, nI d, x), va_up s.2.2 d (s.2.2 d + x)) := by
  have hk1 := h.k1
  have hk2 := h.k2
  have hk3 := h.k3
  have d12 := h.d12
  have d13 := h.d13
  have d23 := h.d23
  have e53 : em_v3 I' rv' s.1 t (nI d) x 53 = va_up (I 53) 3 (nI s.1) := by rw [em_v3_at (by omega) (by omega) (by omega), h.i53]
  have e63 : em_v4 I' rv' s.1 t (nI d) x 63 = s.2.2 := by
    show va_up (em_v3 I' rv' s.1 t (nI d) x) 53 _ 63 = _
    rw [va_up_ne _ _ (by decide), em_v3_at (by omega) (by omega) (by omega), h.i63]
  have hhi : ∀ k, ¬ k = 53 → ¬ k = 63 → em_v5 I' rv' s.1 t d x k = em_v3 I' rv' s.1 t (nI d) x k := by
    intro k k53 k63
    show va_up (va_up (em_v3 I' rv' s.1 t (nI d) x) 53 _) 63 _ k = _
    rw [va_up_ne _ _ k63, va_up_ne _ _ k53]
  have r1 : em_v3 I' rv' s.1 t (nI d) x rv'.2.1 = va_up (I' rv'.2.1) s.1 t := by
    show va_up (va_up (va_up I' rv'.2.1 _) rv'.2.2.1 _) rv'.2.2.2.1 _ rv'.2.1 = _
    rw [va_up_ne _ _ d13, va_up_ne _ _ d12, va_up_self]
  have r2 : em_v3 I' rv' s.1 t (nI d) x rv'.2.2.1 = va_up (I' rv'.2.2.1) s.1 (nI d) := by
    show va_up (va_up (va_up I' rv'.2.1 _) rv'.2.2.1 (va_up (va_up I' rv'.2.1 _ rv'.2.2.1) _ _)) rv'.2.2.2.1 _ rv'.2.2.1 = _
    rw [va_up_ne _ _ d23, va_up_self, va_up_ne _ _ (fun z => d12 z.symm)]
  have r3 : em_v3 I' rv' s.1 t (nI d) x rv'.2.2.2.1 = va_up (I' rv'.2.2.2.1) s.1 x := by
    show va_up (va_up (va_up I' rv'.2.1 _) rv'.2.2.1 _) rv'.2.2.2.1 (va_up (va_up (va_up I' rv'.2.1 _) rv'.2.2.1 _ rv'.2.2.2.1) _ _) rv'.2.2.2.1 = _
    rw [va_up_self, va_up_ne _ _ (fun z => d23 z.symm), va_up_ne _ _ (fun z => d13 z.symm)]
  exact em_MB.mk
    (hn := h.hn)
    (hm := h.hm)
    (hlm := h.hlm)
    (hnc := h.hnc)
    (r1 := h.r1)
    (r5 := h.r5)
    (same := fun k kn k53 k63 ka1 ka2 ka3 => by
      rw [hhi k k53 k63, em_v3_at (by have := h.a1; omega) (by have := h.a2; omega) (by have := h.a3; omega)]
      exact h.same k kn k53 k63 ka1 ka2 ka3)
    (i53 := by
      show va_up (va_up (em_v3 I' rv' s.1 t (nI d) x) 53 (va_up (em_v3 I' rv' s.1 t (nI d) x 53) 3 (em_v3 I' rv' s.1 t (nI d) x 53 3 + 1))) 63 _ 53 = _
      rw [va_up_ne _ _ (by decide), va_up_self, e53, va_up_self, bx_uu, nI_1])
    (i63 := by
      show va_up _ 63 (va_up (em_v4 I' rv' s.1 t (nI d) x 63) d (em_v4 I' rv' s.1 t (nI d) x 63 d + x)) 63 = _
      rw [va_up_self, e63])
    (dls := h.dls)
    (a1 := h.a1)
    (a2 := h.a2)
    (a3 := h.a3)
    (k1 := h.k1)
    (k2 := h.k2)
    (k3 := h.k3)
    (t1 := h.t1)
    (t2 := h.t2)
    (t3 := h.t3)
    (l1 := h.l1)
    (l2 := h.l2)
    (l3 := h.l3)
    (d12 := h.d12)
    (d13 := h.d13)
    (d23 := h.d23)
    (hlam := h.hlam)
    (hc := hs)
    (ln := fun i hi => by
      rw [hhi _ (by omega) (by omega), hhi _ (by omega) (by omega), hhi _ (by omega) (by omega), r1, r2, r3]
      by_cases e : i = s.1
      · rw [e, va_up_self, va_up_self, va_up_self]
        show _ = (va_up s.2.1 s.1 (t, nI d, x) s.1).1 ∧ _ = (va_up s.2.1 s.1 (t, nI d, x) s.1).2.1 ∧ _ = (va_up s.2.1 s.1 (t, nI d, x) s.1).2.2
        rw [va_up_self]
        exact ⟨rfl, rfl, rfl⟩
      · rw [va_up_ne _ _ e, va_up_ne _ _ e, va_up_ne _ _ e]
        show _ = (va_up s.2.1 s.1 (t, nI d, x) i).1 ∧ _ = (va_up s.2.1 s.1 (t, nI d, x) i).2.1 ∧ _ = (va_up s.2.1 s.1 (t, nI d, x) i).2.2
        rw [va_up_ne _ _ e]
        exact h.ln i (by have : i < s.1 + 1 := hi; omega))
end MBp
section MDay
variable {Γ : em_Cx} {n m : Nat} {dl : Nat → Nat} {I : Nat → Nat → Int32} {J : Nat → Nat → Int64} {rv : em_Rv}
theorem s_mDay_max (hB : 85 ≤ n) (h : I 53 0 = 400) : em_MC Γ 2 mX8_day [.ref 53] (em_hm n m dl I J rv) (some (.int (-1))) (em_hm n m dl I J rv) := by
  refine em_MC_of (Nat.le_refl _) (Nat.le_refl _) (by decide +kernel) rfl (Nat.le_of_ble_eq_true rfl) ?_
  (repeat (refine em_pure hB kX8_day rfl ?_))
  refine em_branch kX8_day rfl (fun (h1 : ¬ I 53 0 = 400) => absurd h h1) (fun _ => ?_)
  (repeat (refine em_pure hB kX8_day rfl ?_))
  exact em_iret kX8_day rfl rfl rfl rfl
abbrev em_fd (I : Nat → Nat → Int32) (G N : Nat) : Nat → Int32 := fun d => em_meat I G (nI d) (I 53 0) N
theorem em_day1 (hB : 85 ≤ n) {N G t : Nat} {fin : Option Value × em_Hp} (f1 : n ≤ em_n fin.2) (f2 : m ≤ em_m fin.2) (hx : I 53 1 = nI N) (hN : N ≤ 40) (hg : I 53 2 = nI G) (hG : G ≤ 200) (hk : ∀ b, b < N → ∃ k, k < 8 ∧ I 56 b = nI k) (ht : I 53 0 = nI t) (ht2 : t < 400)
    (kk : em_EW Γ 2 mX8_day (em_hm n m dl I J rv) fin 56 [(0, .ref 53), (1, .int (nI (em_due (em_fd I G N) (I 63) (t + 1))))] [] (em_hm n m dl I J rv)) : em_EW Γ 2 mX8_day (em_hm n m dl I J rv) fin 0 [(0, .ref 53)] [] (em_hm n m dl I J rv) := by
  have loop : ∀ e d, d + e = t + 1 → em_EW Γ 2 mX8_day (em_hm n m dl I J rv) fin 16 [(0, .ref 53), (1, .int (nI (em_due (em_fd I G N) (I 63) d))), (2, .int (nI d))] [] (em_hm n m dl I J rv) := by
    intro e
    induction e with
    | zero =>
      intro d hd
      obtain rfl : d = t + 1 := by omega
      (repeat (refine em_pure hB kX8_day rfl ?_))
      refine em_branch kX8_day rfl (fun _ => ?_) (fun h => absurd (show I 53 0 < nI (t + 1) by rw [ht]; exact nI_lt (by omega) (by omega)) h)
      exact em_loc rfl kk
    | succ e ih =>
      intro d hd
      have next : ∀ z, z = (if em_fd I G N d = I 63 d then (0 : Int32) else 1) → em_EW Γ 2 mX8_day (em_hm n m dl I J rv) fin 48 [(0, .ref 53), (1, .int (nI (em_due (em_fd I G N) (I 63) d))), (2, .int (nI d))] [.int z, .int (nI (em_due (em_fd I G N) (I 63) d))] (em_hm n m dl I J rv) := by
        intro z hz
        (repeat (refine em_pureT 16 hB kX8_day rfl rfl ?_))
        refine em_loc (lc' := [(0, .ref 53), (1, .int (nI (em_due (em_fd I G N) (I 63) d) + z)), (2, .int (nI d + 1))]) rfl ?_
        have ihd := ih (d + 1) (by omega)
        rw [em_due] at ihd
        rw [nI_1, hz]
        by_cases h0 : em_fd I G N d = I 63 d
        · rw [if_pos h0] at ihd
          rw [if_pos h0, Int32.add_zero]
          exact ihd
        · rw [if_neg h0] at ihd
          rw [if_neg h0, nI_1]
          exact ihd
      (repeat (refine em_pure hB kX8_day rfl ?_))
      refine em_branch kX8_day rfl (fun h => absurd h (show ¬ I 53 0 < nI d by rw [ht]; exact nI_nlt (by omega) (by omega))) (fun _ => ?_)
      (repeat (refine em_pure hB kX8_day rfl ?_))
      refine em_callV (μ' := mX8_rationOf) (c1 := 8) kX8_day rfl lX8_136 tX8_rationOf (by decide) rfl (em_ltB hB rfl) (s_mRationOf hB (d := nI d) (q := I 53 0) hx hN hg hG hk) rfl rfl (by decide) (Nat.le_of_ble_eq_true rfl) f1 f2 ?_
      (repeat (refine em_pure hB kX8_day rfl ?_))
      refine em_ia (L := 402) hB kX8_day rfl rfl rfl rfl rfl (show d < 402 by omega) rfl ?_
      (repeat (refine em_pure hB kX8_day rfl ?_))
      refine em_branch kX8_day rfl (fun (h : em_fd I G N d = I 63 d) => ?_) (fun (h : ¬ em_fd I G N d = I 63 d) => ?_)
      · (repeat (refine em_pureT 48 hB kX8_day rfl rfl ?_))
        exact next 0 (by rw [if_pos h])
      · (repeat (refine em_pureT 48 hB kX8_day rfl rfl ?_))
        exact next 1 (by rw [if_neg h])
  (repeat (refine em_pure hB kX8_day rfl ?_))
  refine em_branch kX8_day rfl (fun _ => ?_) (fun (h : ¬ ¬ I 53 0 = 400) => absurd (fun z => by rw [ht] at z; have := (nI_eq (b := 400) (by omega) (by omega)).mp z; omega) h)
  (repeat (refine em_pureT 16 hB kX8_day rfl rfl ?_))
  refine em_loc (lc' := [(0, .ref 53), (1, .int (nI 0)), (2, .int (nI 0))]) rfl ?_
  exact loop (t + 1) 0 (by omega)
theorem s_mDay_no (hB : 85 ≤ n) {N G t c : Nat} (hx : I 53 1 = nI N) (hN : N ≤ 40) (hg : I 53 2 = nI G) (hG : G ≤ 200) (hk : ∀ b, b < N → ∃ k, k < 8 ∧ I 56 b = nI k) (ht : I 53 0 = nI t) (ht2 : t < 400) (hc : I 53 3 = nI c) (hc2 : c ≤ 20000) (h : 20000 < c + em_due (em_fd I G N) (I 63) (t + 1)) : em_MC Γ 2 mX8_day [.ref 53] (em_hm n m dl I J rv) (some (.int (-1))) (em_hm n m dl I J rv) := by
  refine em_MC_of (Nat.le_refl _) (Nat.le_refl _) (by decide +kernel) rfl (Nat.le_of_ble_eq_true rfl) ?_
  have hd := em_due_le (em_fd I G N) (I 63) (t + 1)
  refine em_day1 hB (Nat.le_refl _) (Nat.le_refl _) hx hN hg hG hk ht ht2 ?_
  (repeat (refine em_pure hB kX8_day rfl ?_))
  refine em_branch kX8_day rfl (fun h1 => absurd h1 (show ¬ I 53 3 + nI (em_due (em_fd I G N) (I 63) (t + 1)) ≤ 20000 by rw [hc, nI_add]; exact nI_ge (a := 20000) h (by omega))) (fun _ => ?_)
  (repeat (refine em_pure hB kX8_day rfl ?_))
  exact em_iret kX8_day rfl rfl rfl rfl
theorem em_day3 {n0 m0 : Nat} {dl0 : Nat → Nat} {I0 : Nat → Nat → Int32} {rv0 : em_Rv} {lam0 lam : Nat} {s : Nat × (Nat → Int32 × Int32 × Int32) × (Nat → Int32)} {fin : Option Value × em_Hp} {hp0 : em_Hp} {t c d : Nat} {x w : Int32} (hB : 85 ≤ n) (h : em_MB n0 m0 dl0 I0 rv0 lam0 n m dl I rv lam s) (hs : s.1 < lam) (ht : I0 53 0 = nI t) (hd : d < 402)
    (kk : em_EW Γ 2 mX8_day hp0 fin 77 [(0, .ref 53), (1, .int w), (2, .int (nI c)), (3, .int (nI (d + 1)))] [] (em_hm n m dl (em_v5 I rv s.1 (nI t) d x) J rv)) : em_EW Γ 2 mX8_day hp0 fin 156 [(0, .ref 53), (1, .int w), (2, .int (nI c)), (3, .int (nI d)), (4, .int x)] [] (em_hm n m dl I J rv) := by
  have hk1 := h.k1
  have hk2 := h.k2
  have hk3 := h.k3
  have hl := h.hlam
  have e53 := h.i53
  have e0 : I 53 0 = nI t := by rw [e53, va_up_ne _ _ (by decide), ht]
  have e3 : I 53 3 = nI s.1 := by rw [e53, va_up_self]
  (repeat (refine em_pure hB kX8_day rfl ?_))
  refine em_iwD (j := s.1) (len := lam) kX8_day rfl (em_rk9 (Or.inl h.k1)) h.t1 h.l1 e3 hs (by omega) ?_
  refine em_hpE (hp' := em_hm n m dl (em_v1 I rv s.1 (nI t)) J rv) (by show em_hm n m dl (va_up I rv.2.1 (va_up (I rv.2.1) s.1 (I 53 0))) J rv = _; rw [e0]) ?_
  have g1 : em_v1 I rv s.1 (nI t) 53 = I 53 := va_up_ne _ _ (by omega)
  (repeat (refine em_pure hB kX8_day rfl ?_))
  refine em_iwD (j := s.1) (len := lam) kX8_day rfl (em_rk9 (Or.inr (Or.inl h.k2))) h.t2 h.l2 (by show em_v1 I rv s.1 (nI t) 53 3 = _; rw [g1, e3]) hs (by omega) ?_
  refine em_hpE (hp' := em_hm n m dl (em_v2 I rv s.1 (nI t) (nI d)) J rv) rfl ?_
  have g2 : em_v2 I rv s.1 (nI t) (nI d) 53 = I 53 := by
    show va_up (em_v1 I rv s.1 (nI t)) rv.2.2.1 _ 53 = _
    rw [va_up_ne _ _ (by omega), g1]
  (repeat (refine em_pure hB kX8_day rfl ?_))
  refine em_iwD (j := s.1) (len := lam) kX8_day rfl (em_rk9 (Or.inr (Or.inr h.k3))) h.t3 h.l3 (by show em_v2 I rv s.1 (nI t) (nI d) 53 3 = _; rw [g2, e3]) hs (by omega) ?_
  refine em_hpE (hp' := em_hm n m dl (em_v3 I rv s.1 (nI t) (nI d) x) J rv) rfl ?_
  (repeat (refine em_pure hB kX8_day rfl ?_))
  refine em_pi hB kX8_day rfl rfl rfl rfl rfl rfl rfl ?_
  refine em_hpE (hp' := em_hm n m dl (em_v4 I rv s.1 (nI t) (nI d) x) J rv) rfl ?_
  (repeat (refine em_pure hB kX8_day rfl ?_))
  refine em_ia (L := 402) hB kX8_day rfl rfl rfl rfl rfl hd rfl ?_
  (repeat (refine em_pure hB kX8_day rfl ?_))
  refine em_iw (L := 402) hB kX8_day rfl rfl rfl rfl rfl hd rfl ?_
  refine em_hpE (hp' := em_hm n m dl (em_v5 I rv s.1 (nI t) d x) J rv) rfl ?_
  (repeat (refine em_pureT 77 hB kX8_day rfl rfl ?_))
  refine em_loc (lc' := [(0, .ref 53), (1, .int w), (2, .int (nI c)), (3, .int (nI d + 1))]) rfl ?_
  rw [nI_1]
  exact kk
theorem em_day4 {n0 m0 : Nat} {dl0 : Nat → Nat} {I0 : Nat → Nat → Int32} {rv0 : em_Rv} {lam0 lam : Nat} {s : Nat × (Nat → Int32 × Int32 × Int32) × (Nat → Int32)} {fin : Option Value × em_Hp} {hp0 : em_Hp} {lc : List (Nat × Value)} (hB0 : 85 ≤ n0) (h : em_MB n0 m0 dl0 I0 rv0 lam0 n m dl I rv lam s) (hs2 : lam ≤ 20000) (f1 : n + 3 ≤ em_n fin.2) (f2 : m + 2 * lam + 2 * lam + 2 * lam ≤ em_m fin.2)
    (kk : em_EW Γ 2 mX8_day hp0 fin 156 ((0, .ref 53) :: lc) [] (em_hm (n + 3) (m + 2 * lam + 2 * lam + 2 * lam) (em_gd dl n (2 * lam)) (em_g3 I rv n lam) J (rv.1, n, n + 1, n + 2, rv.2.2.2.2))) : em_EW Γ 2 mX8_day hp0 fin 123 ((0, .ref 53) :: lc) [] (em_hm n m dl I J rv) := by
  have hn := h.hn
  have t1 := h.t1
  have t2 := h.t2
  have t3 := h.t3
  have hB : 85 ≤ n := by omega
  (repeat (refine em_pure hB kX8_day rfl ?_))
  refine em_callS (μ' := mX8_longer) kX8_day rfl lX8_143 tX8_longer (s_longer Γ hB (em_rk9 (Or.inl h.k1)) h.t1 h.l1 (by omega)) rfl rfl (by decide) (Nat.le_of_ble_eq_true rfl) (show n + 1 ≤ em_n fin.2 by omega) (show m + 2 * lam ≤ em_m fin.2 by omega) ?_
  refine em_putR (c := 8) (j := 18) kX8_day rfl rfl (by decide) (show 53 < n + 1 by omega) rfl (Or.inl rfl) (Or.inr ⟨_, rfl⟩) ?_
  refine em_hpE (hp' := em_hm (n + 1) (m + 2 * lam) (va_up dl n (2 * lam)) (em_g1 I rv n lam) J (rv.1, n, rv.2.2)) ?_ ?_
  · show (_, _, _, _, va_up (em_RR rv) 53 (va_up (em_RR rv 53) 18 (some n))) = (_, _, _, _, em_RR (rv.1, n, rv.2.2))
    rw [em_RR_18]
  have hB1 : 85 ≤ n + 1 := by omega
  (repeat (refine em_pure hB1 kX8_day rfl ?_))
  refine em_callS (μ' := mX8_longer) kX8_day rfl lX8_143 tX8_longer (s_longer Γ hB1 (L := rv.2.2.1) (lam := lam) (em_rk9 (Or.inr (Or.inl h.k2))) (by omega) (by rw [em_lnd_up t2]; exact h.l2) (by omega)) rfl rfl (by decide) (Nat.le_of_ble_eq_true rfl) (show n + 1 + 1 ≤ em_n fin.2 by omega) (show m + 2 * lam + 2 * lam ≤ em_m fin.2 by omega) ?_
  refine em_putR (c := 8) (j := 19) kX8_day rfl rfl (by decide) (show 53 < n + 1 + 1 by omega) rfl (Or.inl rfl) (Or.inr ⟨_, rfl⟩) ?_
  refine em_hpE (hp' := em_hm (n + 2) (m + 2 * lam + 2 * lam) (va_up (va_up dl n (2 * lam)) (n + 1) (2 * lam)) (em_g2 I rv n lam) J (rv.1, n, n + 1, rv.2.2.2)) ?_ ?_
  · show (_, _, va_up (em_g1 I rv n lam) (n + 1) (va_cpy (em_g1 I rv n lam rv.2.2.1) (fun _ => 0) 0 0 lam), _, va_up (em_RR (rv.1, n, rv.2.2)) 53 (va_up (em_RR (rv.1, n, rv.2.2) 53) 19 (some (n + 1)))) = (_, _, _, _, em_RR (rv.1, n, n + 1, rv.2.2.2))
    have e : em_g1 I rv n lam rv.2.2.1 = I rv.2.2.1 := va_up_ne _ _ (by omega)
    rw [em_RR_19, e]
  have hB2 : 85 ≤ n + 2 := by omega
  (repeat (refine em_pure hB2 kX8_day rfl ?_))
  refine em_callS (μ' := mX8_longer) kX8_day rfl lX8_143 tX8_longer (s_longer Γ hB2 (L := rv.2.2.2.1) (lam := lam) (em_rk9 (Or.inr (Or.inr h.k3))) (by omega) (by rw [em_lnd_up (by omega), em_lnd_up t3]; exact h.l3) (by omega)) rfl rfl (by decide) (Nat.le_of_ble_eq_true rfl) (show n + 2 + 1 ≤ em_n fin.2 by omega) (show m + 2 * lam + 2 * lam + 2 * lam ≤ em_m fin.2 by omega) ?_
  refine em_putR (c := 8) (j := 20) kX8_day rfl rfl (by decide) (show 53 < n + 2 + 1 by omega) rfl (Or.inl rfl) (Or.inr ⟨_, rfl⟩) ?_
  refine em_hpE ?_ kk
  show (_, _, va_up (em_g2 I rv n lam) (n + 2) (va_cpy (em_g2 I rv n lam rv.2.2.2.1) (fun _ => 0) 0 0 lam), _, va_up (em_RR (rv.1, n, n + 1, rv.2.2.2)) 53 (va_up (em_RR (rv.1, n, n + 1, rv.2.2.2) 53) 20 (some (n + 2)))) = (_, _, _, _, em_RR (rv.1, n, n + 1, n + 2, rv.2.2.2.2))
  have e : em_g2 I rv n lam rv.2.2.2.1 = I rv.2.2.2.1 := by
    show va_up (va_up I n _) (n + 1) _ rv.2.2.2.1 = _
    rw [va_up_ne _ _ (by omega), va_up_ne _ _ (by omega)]
  rw [em_RR_20, e]
theorem em_nIs (a b : Nat) : nI (a + b) - nI a = nI b := by rw [← nI_add, Int32.add_comm, Int32.add_sub_cancel]
theorem em_day2 (hB : 85 ≤ n) {N G t c lam : Nat} {w : Int32} {F0 : Nat → Int32 × Int32 × Int32} (hx : I 53 1 = nI N) (hN : N ≤ 40) (hg : I 53 2 = nI G) (hG : G ≤ 200) (hk : ∀ b, b < N → ∃ k, k < 8 ∧ I 56 b = nI k) (ht : I 53 0 = nI t) (ht2 : t < 400) (k1 : em_rk rv.2.1 64) (k2 : em_rk rv.2.2.1 65) (k3 : em_rk rv.2.2.2.1 66) (h1 : 1 ≤ lam) (hc : c + em_due (em_fd I G N) (I 63) (t + 1) ≤ 20000) : ∀ e d, d + e = t + 1 → ∀ (n' m' : Nat) (dl' : Nat → Nat) (I' : Nat → Nat → Int32) (rv' : em_Rv) (lam' : Nat), em_MB n m dl I rv lam n' m' dl' I' rv' lam' (em_lin (em_fd I G N) (nI t) c F0 (I 63) d) →
    ∃ (n2 m2 : Nat) (dl2 : Nat → Nat) (I2 : Nat → Nat → Int32) (rv2 : em_Rv) (lam2 : Nat), n' ≤ n2 ∧ m' ≤ m2 ∧ em_MB n m dl I rv lam n2 m2 dl2 I2 rv2 lam2 (em_lin (em_fd I G N) (nI t) c F0 (I 63) (t + 1)) ∧ em_EW Γ 2 mX8_day (em_hm n m dl I J rv) (some (.int (nI (em_due (em_fd I G N) (I 63) (t + 1)))), em_hm n2 m2 dl2 (va_up I2 53 (va_up (I2 53) 0 (nI (t + 1)))) J rv2) 77 [(0, .ref 53), (1, .int w), (2, .int (nI c)), (3, .int (nI d))] [] (em_hm n' m' dl' I' J rv') := by
  have hB0 := hB
  intro e
  induction e with
  | zero =>
    intro d hd n' m' dl' I' rv' lam' h
    obtain rfl : d = t + 1 := by omega
    refine ⟨n', m', dl', I', rv', lam', Nat.le_refl _, Nat.le_refl _, h, ?_⟩
    have hn := h.hn
    have hB : 85 ≤ n' := by omega
    have e53 := h.i53
    have e0 : I' 53 0 = nI t := by rw [e53, va_up_ne _ _ (by decide), ht]
    have e3 : I' 53 3 = nI (c + em_due (em_fd I G N) (I 63) (t + 1)) := by rw [e53, va_up_self, em_lin_c]
    generalize em_lin (em_fd I G N) (nI t) c F0 (I 63) (t + 1) = res at *
    (repeat (refine em_pure hB kX8_day rfl ?_))
    refine em_branch kX8_day rfl (fun _ => ?_) (fun h => absurd (show I' 53 0 < nI (t + 1) by rw [e0]; exact nI_lt (by omega) (by omega)) h)
    (repeat (refine em_pure hB kX8_day rfl ?_))
    refine em_pi hB kX8_day rfl rfl rfl rfl rfl rfl rfl ?_
    refine em_hpE (hp' := em_hm n' m' dl' (va_up I' 53 (va_up (I' 53) 0 (nI (t + 1)))) J rv') (by show em_hm n' m' dl' (va_up I' 53 (va_up (I' 53) 0 (I' 53 0 + 1))) J rv' = _; rw [e0, nI_1]) ?_
    (repeat (refine em_pure hB kX8_day rfl ?_))
    refine em_iret kX8_day rfl rfl rfl ?_
    show _ = (some (Value.int (va_up I' 53 (va_up (I' 53) 0 (nI (t + 1))) 53 3 - nI c)), _)
    rw [va_up_self, va_up_ne _ _ (by decide), e3, em_nIs]
  | succ e ih =>
    intro d hd n' m' dl' I' rv' lam' h
    have hn := h.hn
    have hB : 85 ≤ n' := by omega
    have e53 := h.i53
    have e0 : I' 53 0 = nI t := by rw [e53, va_up_ne _ _ (by decide), ht]
    have e00 : I' 53 0 = I 53 0 := by rw [e0, ht]
    have e3 : I' 53 3 = nI (em_lin (em_fd I G N) (nI t) c F0 (I 63) d).1 := by rw [e53, va_up_self]
    have e1 : I' 53 1 = nI N := by rw [e53, va_up_ne _ _ (by decide), hx]
    have e2 : I' 53 2 = nI G := by rw [e53, va_up_ne _ _ (by decide), hg]
    have h63 := h.i63
    have sm : ∀ k, k < 63 → ¬ k = 53 → I' k = I k := fun k hk hk2 => h.same k (by omega) hk2 (by omega) (by omega) (by omega) (by omega)
    have hk' : ∀ b, b < N → ∃ k, k < 8 ∧ I' 56 b = nI k := by rw [sm 56 (by decide) (by decide)]; exact hk
    have em : em_meat I' G (nI d) (I' 53 0) N = em_fd I G N d := by
      rw [e00]
      exact em_meat_eq (sm 54 (by decide) (by decide)) (sm 56 (by decide) (by decide)) (sm 57 (by decide) (by decide)) (sm 58 (by decide) (by decide)) (sm 60 (by decide) (by decide)) (sm 61 (by decide) (by decide)) (sm 62 (by decide) (by decide)) G (nI d) (I 53 0) N
    have hcc := em_lin_c (em_fd I G N) (nI t) c F0 (I 63) d
    have hcn := em_lin_c (em_fd I G N) (nI t) c F0 (I 63) (d + 1)
    have hmo := em_due_mono (em_fd I G N) (I 63) (d + 1) e
    rw [show d + 1 + e = t + 1 by omega] at hmo
    have ihd := ih (d + 1) (by omega)
    generalize em_lin (em_fd I G N) (nI t) c F0 (I 63) (t + 1) = res at *
    rw [em_lin] at ihd hcn
    generalize em_lin (em_fd I G N) (nI t) c F0 (I 63) d = s at *
    have start : ∀ fin, n' ≤ em_n fin.2 → m' ≤ em_m fin.2 → em_EW Γ 2 mX8_day (em_hm n m dl I J rv) fin 103 [(0, .ref 53), (1, .int w), (2, .int (nI c)), (3, .int (nI d)), (4, .int (em_fd I G N d - s.2.2 d))] [] (em_hm n' m' dl' I' J rv') → em_EW Γ 2 mX8_day (em_hm n m dl I J rv) fin 77 [(0, .ref 53), (1, .int w), (2, .int (nI c)), (3, .int (nI d))] [] (em_hm n' m' dl' I' J rv') := by
      intro fin f1 f2 kk
      (repeat (refine em_pure hB kX8_day rfl ?_))
      refine em_branch kX8_day rfl (fun h => absurd h (show ¬ I' 53 0 < nI d by rw [e0]; exact nI_nlt (by omega) (by omega))) (fun _ => ?_)
      (repeat (refine em_pure hB kX8_day rfl ?_))
      refine em_callV (μ' := mX8_rationOf) (c1 := 8) kX8_day rfl lX8_136 tX8_rationOf (by decide) rfl (em_ltB hB rfl) (s_mRationOf hB (d := nI d) (q := I' 53 0) e1 hN e2 hG hk') rfl rfl (by decide) (Nat.le_of_ble_eq_true rfl) f1 f2 ?_
      rw [em]
      (repeat (refine em_pure hB kX8_day rfl ?_))
      refine em_ia (L := 402) hB kX8_day rfl rfl rfl rfl rfl (show d < 402 by omega) rfl ?_
      (repeat (refine em_pureT 103 hB kX8_day rfl rfl ?_))
      refine em_loc (lc' := [(0, .ref 53), (1, .int w), (2, .int (nI c)), (3, .int (nI d)), (4, .int (em_fd I G N d - I' 63 d))]) rfl ?_
      rw [h63]
      exact kk
    by_cases h0 : em_fd I G N d - s.2.2 d = 0
    · rw [if_pos h0] at ihd
      obtain ⟨n2, m2, dl2, I2, rv2, lam2, g1, g2, g3, g4⟩ := ihd n' m' dl' I' rv' lam' h
      refine ⟨n2, m2, dl2, I2, rv2, lam2, g1, g2, g3, start _ g1 g2 ?_⟩
      (repeat (refine em_pure hB kX8_day rfl ?_))
      refine em_branch kX8_day rfl (fun h1 => absurd h0 h1) (fun _ => ?_)
      (repeat (refine em_pureT 77 hB kX8_day rfl rfl ?_))
      refine em_loc (lc' := [(0, .ref 53), (1, .int w), (2, .int (nI c)), (3, .int (nI d + 1))]) rfl ?_
      rw [nI_1]
      exact g4
    · rw [if_neg h0] at ihd hcn
      have hcn : s.1 + 1 = c + em_due (em_fd I G N) (I 63) (d + 1) := hcn
      have hsc := h.hc
      by_cases hgr : s.1 = lam'
      · have h2 := em_MB_grow hB0 h h1 (by omega)
        have hlm := h.hlm
        obtain ⟨n2, m2, dl2, I2, rv2, lam2, g1, g2, g3, g4⟩ := ihd _ _ _ _ _ _ (em_MB_write h2 (by omega) (nI t) (em_fd I G N d - s.2.2 d) d)
        refine ⟨n2, m2, dl2, I2, rv2, lam2, by omega, by omega, g3, start _ (show n' ≤ n2 by omega) (show m' ≤ m2 by omega) ?_⟩
        (repeat (refine em_pure hB kX8_day rfl ?_))
        refine em_branch kX8_day rfl (fun _ => ?_) (fun h1 => absurd h0 h1)
        (repeat (refine em_pure hB kX8_day rfl ?_))
        refine em_alen kX8_day rfl (Or.inl (em_rk9 (Or.inl h.k1))) h.t1 ?_
        refine em_branch kX8_day rfl (fun (h1 : ¬ I' 53 3 = nI (em_lnd dl' rv'.2.1)) => absurd (by rw [e3, h.l1, hgr]) h1) (fun _ => ?_)
        refine em_day4 hB0 h (by omega) g1 g2 ?_
        exact em_day3 (show 85 ≤ n' + 3 by omega) h2 (by omega) ht (by omega) g4
      · obtain ⟨n2, m2, dl2, I2, rv2, lam2, g1, g2, g3, g4⟩ := ihd _ _ _ _ _ _ (em_MB_write h (by omega) (nI t) (em_fd I G N d - s.2.2 d) d)
        refine ⟨n2, m2, dl2, I2, rv2, lam2, g1, g2, g3, start _ g1 g2 ?_⟩
        (repeat (refine em_pure hB kX8_day rfl ?_))
        refine em_branch kX8_day rfl (fun _ => ?_) (fun h1 => absurd h0 h1)
        (repeat (refine em_pure hB kX8_day rfl ?_))
        refine em_alen kX8_day rfl (Or.inl (em_rk9 (Or.inl h.k1))) h.t1 ?_
        refine em_branch kX8_day rfl (fun _ => ?_) (fun (h1 : ¬ ¬ I' 53 3 = nI (em_lnd dl' rv'.2.1)) => absurd (fun z => hgr (by rw [e3, h.l1] at z; exact (nI_eq (by omega) (by have := h.hlam; omega)).mp z)) h1)
        exact em_day3 hB h (by omega) ht (by omega) g4
theorem s_mDay_ok (hB : 85 ≤ n) {N G t c lam : Nat} (hx : I 53 1 = nI N) (hN : N ≤ 40) (hg : I 53 2 = nI G) (hG : G ≤ 200) (hk : ∀ b, b < N → ∃ k, k < 8 ∧ I 56 b = nI k) (ht : I 53 0 = nI t) (ht2 : t < 400) (h1 : 1 ≤ lam) (h3 : I 53 3 = nI c) (hc : c + em_due (em_fd I G N) (I 63) (t + 1) ≤ 20000) (hb : em_MB n m dl I rv lam n m dl I rv lam (c, fun i => (I rv.2.1 i, I rv.2.2.1 i, I rv.2.2.2.1 i), I 63)) :
    ∃ (n2 m2 : Nat) (dl2 : Nat → Nat) (I2 : Nat → Nat → Int32) (rv2 : em_Rv) (lam2 : Nat), em_MB n m dl I rv lam n2 m2 dl2 I2 rv2 lam2 (em_lin (em_fd I G N) (nI t) c (fun i => (I rv.2.1 i, I rv.2.2.1 i, I rv.2.2.2.1 i)) (I 63) (t + 1)) ∧ em_MC Γ 2 mX8_day [.ref 53] (em_hm n m dl I J rv) (some (.int (nI (em_due (em_fd I G N) (I 63) (t + 1))))) (em_hm n2 m2 dl2 (va_up I2 53 (va_up (I2 53) 0 (nI (t + 1)))) J rv2) := by
  obtain ⟨n2, m2, dl2, I2, rv2, lam2, g1, g2, g3, g4⟩ := em_day2 (Γ := Γ) (J := J) hB (w := nI (em_due (em_fd I G N) (I 63) (t + 1))) hx hN hg hG hk ht ht2 hb.k1 hb.k2 hb.k3 h1 hc (t + 1) 0 (by omega) n m dl I rv lam hb
  refine ⟨n2, m2, dl2, I2, rv2, lam2, g3, ?_⟩
  refine em_MC_of g1 g2 (by decide +kernel) rfl (Nat.le_of_ble_eq_true rfl) ?_
  refine em_day1 hB g1 g2 hx hN hg hG hk ht ht2 ?_
  have hd := em_due_le (em_fd I G N) (I 63) (t + 1)
  (repeat (refine em_pure hB kX8_day rfl ?_))
  refine em_branch kX8_day rfl (fun _ => ?_) (fun h => absurd (show I 53 3 + nI (em_due (em_fd I G N) (I 63) (t + 1)) ≤ 20000 by rw [h3, nI_add]; exact nI_le (b := 20000) hc (by omega)) h)
  (repeat (refine em_pureT 77 hB kX8_day rfl rfl ?_))
  refine em_loc (lc' := [(0, .ref 53), (1, .int (nI (em_due (em_fd I G N) (I 63) (t + 1)))), (2, .int (I 53 3)), (3, .int (nI 0))]) rfl ?_
  rw [h3]
  exact g4
end MDay
