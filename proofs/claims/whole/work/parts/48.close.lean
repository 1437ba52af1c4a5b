/-! THE BOOK IS CLOSED -/
def em_w3r (r : Nat → Int32) (c : Nat) (t d x : Int32) : Nat → Int32 := va_up (va_up (va_up r (3 * c) t) (3 * c + 1) d) (3 * c + 2) x
def em_cdd (f : Nat → Int32) (t : Int32) (c0 : Nat) (r0 u0 : Nat → Int32) (a0 : Int32) : Nat → Nat × (Nat → Int32) × (Nat → Int32) × Int32
  | 0 => (c0, r0, u0, a0)
  | d + 1 => if f d - (em_cdd f t c0 r0 u0 a0 d).2.2.1 d = 0 then em_cdd f t c0 r0 u0 a0 d else ((em_cdd f t c0 r0 u0 a0 d).1 + 1, em_w3r (em_cdd f t c0 r0 u0 a0 d).2.1 (em_cdd f t c0 r0 u0 a0 d).1 t (nI d) (f d - (em_cdd f t c0 r0 u0 a0 d).2.2.1 d), va_up (em_cdd f t c0 r0 u0 a0 d).2.2.1 d ((em_cdd f t c0 r0 u0 a0 d).2.2.1 d + (f d - (em_cdd f t c0 r0 u0 a0 d).2.2.1 d)), (em_cdd f t c0 r0 u0 a0 d).2.2.2 + (f d - (em_cdd f t c0 r0 u0 a0 d).2.2.1 d))
theorem em_sub0 {x y : Int32} : x - y = 0 ↔ x = y := by
  constructor
  · intro h
    have := Int32.sub_add_cancel x y
    rw [h, Int32.zero_add] at this
    exact this.symm
  · intro h
    rw [h, Int32.sub_self]
theorem em_cdd_u (f : Nat → Int32) (t : Int32) (c0 : Nat) (r0 u0 : Nat → Int32) (a0 : Int32) : ∀ d q, d ≤ q → (em_cdd f t c0 r0 u0 a0 d).2.2.1 q = u0 q
  | 0, _, _ => rfl
  | d + 1, q, h => by
    rw [em_cdd]
    split
    · exact em_cdd_u f t c0 r0 u0 a0 d q (by omega)
    · show va_up _ d _ q = _
      rw [va_up_ne _ _ (by omega)]
      exact em_cdd_u f t c0 r0 u0 a0 d q (by omega)
theorem em_cdd_c (f : Nat → Int32) (t : Int32) (c0 : Nat) (r0 u0 : Nat → Int32) (a0 : Int32) : ∀ d, (em_cdd f t c0 r0 u0 a0 d).1 = c0 + em_due f u0 d
  | 0 => rfl
  | d + 1 => by
    have hu := em_cdd_u f t c0 r0 u0 a0 d d (Nat.le_refl _)
    rw [em_cdd, em_due]
    by_cases h : f d = u0 d
    · rw [if_pos (by rw [hu, em_sub0]; exact h), if_pos h]
      exact em_cdd_c f t c0 r0 u0 a0 d
    · rw [if_neg (by rw [hu, em_sub0]; exact h), if_neg h]
      show (em_cdd f t c0 r0 u0 a0 d).1 + 1 = _
      rw [em_cdd_c f t c0 r0 u0 a0 d]
      omega
theorem em_due_mono (f u : Nat → Int32) : ∀ d e, em_due f u d ≤ em_due f u (d + e)
  | _, 0 => Nat.le_refl _
  | d, e + 1 => by
    have := em_due_mono f u d e
    rw [← Nat.add_assoc, em_due]
    split <;> omega
section Close
variable {Γ : em_Cx} {n m : Nat} {dl : Nat → Nat} {I : Nat → Nat → Int32} {J : Nat → Nat → Int64} {rv : em_Rv}
abbrev em_bk (n m : Nat) (dl : Nat → Nat) (I : Nat → Nat → Int32) (J : Nat → Nat → Int64) (rv : em_Rv) (r u b : Nat → Int32) : em_Hp := em_hm n m dl (va_up (va_up (va_up I rv.1 r) 13 u) 12 b) J rv
theorem em_bkL {r u b : Nat → Int32} (hL : em_rl rv.1) : em_I (em_bk n m dl I J rv r u b) rv.1 = r := by
  show va_up (va_up (va_up I rv.1 r) 13 u) 12 b rv.1 = r
  rw [va_up_ne _ _ (by omega), va_up_ne _ _ (by omega), va_up_self]
theorem em_bk11 {r u b : Nat → Int32} (hL : em_rl rv.1) : em_I (em_bk n m dl I J rv r u b) 11 = I 11 := by
  show va_up I rv.1 r 11 = _
  rw [va_up_ne _ _ (by omega)]
theorem em_bk_wL {r u b r' : Nat → Int32} (hL : em_rl rv.1) : em_sI (em_bk n m dl I J rv r u b) rv.1 r' = em_bk n m dl I J rv r' u b := by
  show em_hm n m dl (va_up (va_up (va_up (va_up I rv.1 r) 13 u) 12 b) rv.1 r') J rv = em_hm n m dl (va_up (va_up (va_up I rv.1 r') 13 u) 12 b) J rv
  rw [em_upc _ b r' (show ¬ 12 = rv.1 by omega), em_u2 _ _ _ _ (show ¬ rv.1 = 13 by omega)]
theorem em_bk_w13 {r u b u' : Nat → Int32} : em_sI (em_bk n m dl I J rv r u b) 13 u' = em_bk n m dl I J rv r u' b := by
  show em_hm n m dl (va_up (va_up (va_up (va_up I rv.1 r) 13 u) 12 b) 13 u') J rv = _
  rw [em_u2 _ _ _ _ (by decide)]
theorem em_bk_w12 {r u b b' : Nat → Int32} : em_sI (em_bk n m dl I J rv r u b) 12 b' = em_bk n m dl I J rv r u b' := by
  show em_hm n m dl (va_up (va_up (va_up (va_up I rv.1 r) 13 u) 12 b) 12 b') J rv = _
  rw [bx_uu]
theorem s_write (hB : 85 ≤ n) {t x : Int32} {d c lam : Nat} {r u b : Nat → Int32} (hL : em_rl rv.1) (hLn : rv.1 < n) (hl : em_lnd dl rv.1 = lam) (hl2 : lam < 100000) (hc : b 3 = nI c) (hc2 : 3 * c + 3 ≤ lam) (hd : d < 401) : em_MC Γ 0 mX0_write [.ref 12, .int t, .int (nI d), .int x] (em_bk n m dl I J rv r u b) none (em_bk n m dl I J rv (em_w3r r c t (nI d) x) (va_up u d (u d + x)) (va_up (va_up b 3 (nI (c + 1))) 1 (b 1 + x))) := by
  refine em_MC_of (Nat.le_refl _) (Nat.le_refl _) (by decide +kernel) rfl (Nat.le_of_ble_eq_true rfl) ?_
  have e3 : b 3 * 3 = nI (3 * c) := by rw [hc, em_w3']
  (repeat (refine em_pureT 8 hB kX0_write rfl rfl ?_))
  refine em_loc (lc' := [(0, .ref 12), (1, .int t), (2, .int (nI d)), (3, .int x), (4, .int (b 3 * 3))]) rfl ?_
  rw [e3]
  (repeat (refine em_pure hB kX0_write rfl ?_))
  refine em_iwD (j := 3 * c) kX0_write rfl (em_rl9 hL) hLn hl rfl (by omega) hl2 ?_
  refine em_hpE ((em_bk_wL hL).trans (by rw [em_bkL hL])) ?_
  (repeat (refine em_pure hB kX0_write rfl ?_))
  refine em_iwD (j := 3 * c + 1) kX0_write rfl (em_rl9 hL) hLn hl (nI_1 _) (by omega) hl2 ?_
  refine em_hpE ((em_bk_wL hL).trans (by rw [em_bkL hL])) ?_
  (repeat (refine em_pure hB kX0_write rfl ?_))
  refine em_iwD (j := 3 * c + 2) kX0_write rfl (em_rl9 hL) hLn hl (nI_add (3 * c) 2) (by omega) hl2 ?_
  refine em_hpE ((em_bk_wL hL).trans (by rw [em_bkL hL])) ?_
  (repeat (refine em_pure hB kX0_write rfl ?_))
  refine em_pi hB kX0_write rfl rfl rfl rfl rfl rfl rfl ?_
  refine em_hpE em_bk_w12 ?_
  (repeat (refine em_pure hB kX0_write rfl ?_))
  refine em_ia (L := 401) hB kX0_write rfl rfl rfl rfl rfl hd rfl ?_
  (repeat (refine em_pure hB kX0_write rfl ?_))
  refine em_iw (L := 401) hB kX0_write rfl rfl rfl rfl rfl hd rfl ?_
  refine em_hpE em_bk_w13 ?_
  (repeat (refine em_pure hB kX0_write rfl ?_))
  refine em_pi hB kX0_write rfl rfl rfl rfl rfl rfl rfl ?_
  refine em_hpE em_bk_w12 ?_
  refine em_vret kX0_write rfl rfl ?_
  have e4 : b 3 + 1 = nI (c + 1) := by rw [hc, nI_1]
  rw [← e4]
  rfl
theorem s_closeDay_no (hB : 85 ≤ n) {t c : Nat} (ht : t < 401) (hc : I 12 3 = nI c) (hc2 : c ≤ 20000) (h : 20000 < c + em_due (I 11) (I 13) (t + 1)) : em_MC Γ 4 mX0_closeDay [.ref 12, .int (nI t), .ref 11] (em_hm n m dl I J rv) (some (.int (-1))) (em_hm n m dl I J rv) := by
  refine em_MC_of (Nat.le_refl _) (Nat.le_refl _) (by decide +kernel) rfl (Nat.le_of_ble_eq_true rfl) ?_
  have hd := em_due_le (I 11) (I 13) (t + 1)
  (repeat (refine em_pure hB kX0_closeDay rfl ?_))
  refine em_callV (μ' := mX0_linesDue) (c1 := 0) kX0_closeDay rfl lX0_30 tX0_linesDue (by decide) rfl (em_ltB hB rfl) (s_linesDue hB ht) rfl rfl (by decide) (Nat.le_of_ble_eq_true rfl) (Nat.le_refl _) (Nat.le_refl _) ?_
  (repeat (refine em_pure hB kX0_closeDay rfl ?_))
  refine em_branch kX0_closeDay rfl (fun h1 => absurd h1 (show ¬ I 12 3 + nI (em_due (I 11) (I 13) (t + 1)) ≤ 20000 by rw [hc, nI_add]; exact nI_ge (a := 20000) h (by omega))) (fun _ => ?_)
  (repeat (refine em_pure hB kX0_closeDay rfl ?_))
  exact em_iret kX0_closeDay rfl rfl rfl rfl
theorem s_closeDay_ok (hB : 85 ≤ n) {t c n1 m1 lam : Nat} {dl1 : Nat → Nat} {I1 : Nat → Nat → Int32} {rv1 : em_Rv} (ht : t < 401) (hc : I 12 3 = nI c) (h : c + em_due (I 11) (I 13) (t + 1) ≤ 20000) (hn : n ≤ n1) (hm : m ≤ m1) (hMR : em_MC Γ 3 mX0_makeRoom [.ref 12, .int (nI (c + em_due (I 11) (I 13) (t + 1)))] (em_hm n m dl I J rv) none (em_hm n1 m1 dl1 I1 J rv1)) (h12 : I1 12 = I 12) (h13 : I1 13 = I 13) (h11 : I1 11 = I 11) (hL : em_rl rv1.1) (hLn : rv1.1 < n1) (hl : em_lnd dl1 rv1.1 = lam) (hl2 : lam < 100000) (hl3 : 3 * (c + em_due (I 11) (I 13) (t + 1)) ≤ lam) :
    em_MC Γ 4 mX0_closeDay [.ref 12, .int (nI t), .ref 11] (em_hm n m dl I J rv) (some (.int (nI (em_due (I 11) (I 13) (t + 1))))) (em_bk n1 m1 dl1 I1 J rv1 (em_cdd (I 11) (nI t) c (I1 rv1.1) (I 13) (I 12 1) (t + 1)).2.1 (em_cdd (I 11) (nI t) c (I1 rv1.1) (I 13) (I 12 1) (t + 1)).2.2.1 (va_up (va_up (I 12) 3 (nI (em_cdd (I 11) (nI t) c (I1 rv1.1) (I 13) (I 12 1) (t + 1)).1)) 1 (em_cdd (I 11) (nI t) c (I1 rv1.1) (I 13) (I 12 1) (t + 1)).2.2.2)) := by
  refine em_MC_of hn hm (by decide +kernel) rfl (Nat.le_of_ble_eq_true rfl) ?_
  have hdue := em_due_le (I 11) (I 13) (t + 1)
  have hB1 : 85 ≤ n1 := Nat.le_trans hB hn
  have loop : ∀ e d, d + e = t + 1 → em_EW Γ 4 mX0_closeDay (em_hm n m dl I J rv) (some (.int (nI (em_due (I 11) (I 13) (t + 1)))), em_bk n1 m1 dl1 I1 J rv1 (em_cdd (I 11) (nI t) c (I1 rv1.1) (I 13) (I 12 1) (t + 1)).2.1 (em_cdd (I 11) (nI t) c (I1 rv1.1) (I 13) (I 12 1) (t + 1)).2.2.1 (va_up (va_up (I 12) 3 (nI (em_cdd (I 11) (nI t) c (I1 rv1.1) (I 13) (I 12 1) (t + 1)).1)) 1 (em_cdd (I 11) (nI t) c (I1 rv1.1) (I 13) (I 12 1) (t + 1)).2.2.2)) 34 [(0, .ref 12), (1, .int (nI t)), (2, .ref 11), (3, .int (nI (em_due (I 11) (I 13) (t + 1)))), (4, .int (nI d))] [] (em_bk n1 m1 dl1 I1 J rv1 (em_cdd (I 11) (nI t) c (I1 rv1.1) (I 13) (I 12 1) d).2.1 (em_cdd (I 11) (nI t) c (I1 rv1.1) (I 13) (I 12 1) d).2.2.1 (va_up (va_up (I 12) 3 (nI (em_cdd (I 11) (nI t) c (I1 rv1.1) (I 13) (I 12 1) d).1)) 1 (em_cdd (I 11) (nI t) c (I1 rv1.1) (I 13) (I 12 1) d).2.2.2)) := by
    have hB := hB1
    intro e
    induction e with
    | zero =>
      intro d hd
      obtain rfl : d = t + 1 := by omega
      (repeat (refine em_pure hB kX0_closeDay rfl ?_))
      refine em_branch kX0_closeDay rfl (fun _ => ?_) (fun h => absurd (nI_lt (by omega) (by omega)) h)
      (repeat (refine em_pure hB kX0_closeDay rfl ?_))
      exact em_iret kX0_closeDay rfl rfl rfl rfl
    | succ e ih =>
      intro d hd
      have ihd := ih (d + 1) (by omega)
      have hcc := em_cdd_c (I 11) (nI t) c (I1 rv1.1) (I 13) (I 12 1) d
      have hcn := em_cdd_c (I 11) (nI t) c (I1 rv1.1) (I 13) (I 12 1) (d + 1)
      have hmo := em_due_mono (I 11) (I 13) (d + 1) e
      rw [show d + 1 + e = t + 1 by omega] at hmo
      generalize em_cdd (I 11) (nI t) c (I1 rv1.1) (I 13) (I 12 1) (t + 1) = res at *
      rw [em_cdd] at ihd hcn
      generalize em_cdd (I 11) (nI t) c (I1 rv1.1) (I 13) (I 12 1) d = s at *
      have next : ∀ s', em_EW Γ 4 mX0_closeDay (em_hm n m dl I J rv) (some (.int (nI (em_due (I 11) (I 13) (t + 1)))), em_bk n1 m1 dl1 I1 J rv1 res.2.1 res.2.2.1 (va_up (va_up (I 12) 3 (nI res.1)) 1 res.2.2.2)) 34 [(0, .ref 12), (1, .int (nI t)), (2, .ref 11), (3, .int (nI (em_due (I 11) (I 13) (t + 1)))), (4, .int (nI (d + 1)))] [] (em_hm n1 m1 dl1 s' J rv1) → em_EW Γ 4 mX0_closeDay (em_hm n m dl I J rv) (some (.int (nI (em_due (I 11) (I 13) (t + 1)))), em_bk n1 m1 dl1 I1 J rv1 res.2.1 res.2.2.1 (va_up (va_up (I 12) 3 (nI res.1)) 1 res.2.2.2)) 68 [(0, .ref 12), (1, .int (nI t)), (2, .ref 11), (3, .int (nI (em_due (I 11) (I 13) (t + 1)))), (4, .int (nI d))] [] (em_hm n1 m1 dl1 s' J rv1) := by
        intro s' k
        (repeat (refine em_pureT 34 hB kX0_closeDay rfl rfl ?_))
        refine em_loc (lc' := [(0, .ref 12), (1, .int (nI t)), (2, .ref 11), (3, .int (nI (em_due (I 11) (I 13) (t + 1)))), (4, .int (nI d + 1))]) rfl ?_
        rw [nI_1]
        exact k
      (repeat (refine em_pure hB kX0_closeDay rfl ?_))
      refine em_branch kX0_closeDay rfl (fun h => absurd h (nI_nlt (by omega) (by omega))) (fun _ => ?_)
      (repeat (refine em_pure hB kX0_closeDay rfl ?_))
      refine em_ia (L := 401) hB kX0_closeDay rfl rfl rfl rfl rfl (show d < 401 by omega) rfl ?_
      rw [em_bk11 hL, h11]
      (repeat (refine em_pure hB kX0_closeDay rfl ?_))
      refine em_ia (L := 401) hB kX0_closeDay rfl rfl rfl rfl rfl (show d < 401 by omega) rfl ?_
      (repeat (refine em_pure hB kX0_closeDay rfl ?_))
      refine em_branch kX0_closeDay rfl (fun (h0 : I 11 d - s.2.2.1 d = 0) => ?_) (fun (h0 : ¬ I 11 d - s.2.2.1 d = 0) => ?_)
      · rw [if_pos h0] at ihd
        exact em_loc (lc' := [(0, .ref 12), (1, .int (nI t)), (2, .ref 11), (3, .int (nI (em_due (I 11) (I 13) (t + 1)))), (4, .int (nI d))]) rfl (next _ ihd)
      · rw [if_neg h0] at ihd hcn
        have hcn : s.1 + 1 = c + em_due (I 11) (I 13) (d + 1) := hcn
        (repeat (refine em_pure hB kX0_closeDay rfl ?_))
        refine em_callV (μ' := mX0_write) (c1 := 0) kX0_closeDay rfl lX0_38 tX0_write (by decide) rfl (em_ltB hB rfl) (s_write hB (t := nI t) (x := I 11 d - s.2.2.1 d) (d := d) (c := s.1) hL hLn hl hl2 rfl (by omega) (by omega)) rfl rfl (by decide) (Nat.le_of_ble_eq_true rfl) (Nat.le_refl _) (Nat.le_refl _) ?_
        refine em_loc (lc' := [(0, .ref 12), (1, .int (nI t)), (2, .ref 11), (3, .int (nI (em_due (I 11) (I 13) (t + 1)))), (4, .int (nI d))]) rfl ?_
        refine em_hpE ?_ (next _ ihd)
        show em_bk n1 m1 dl1 I1 J rv1 _ _ (va_up (va_up (va_up (va_up (I 12) 3 (nI s.1)) 1 s.2.2.2) 3 (nI (s.1 + 1))) 1 (s.2.2.2 + (I 11 d - s.2.2.1 d))) = _
        rw [em_u2 _ _ _ _ (show ¬ 3 = 1 by decide), bx_uu]
  (repeat (refine em_pure hB kX0_closeDay rfl ?_))
  refine em_callV (μ' := mX0_linesDue) (c1 := 0) kX0_closeDay rfl lX0_30 tX0_linesDue (by decide) rfl (em_ltB hB rfl) (s_linesDue hB ht) rfl rfl (by decide) (Nat.le_of_ble_eq_true rfl) hn hm ?_
  (repeat (refine em_pure hB kX0_closeDay rfl ?_))
  refine em_branch kX0_closeDay rfl (fun _ => ?_) (fun h1 => absurd (show I 12 3 + nI (em_due (I 11) (I 13) (t + 1)) ≤ 20000 by rw [hc, nI_add]; exact nI_le (b := 20000) h (by omega)) h1)
  rw [← nI_add, ← hc] at hMR
  (repeat (refine em_pure hB kX0_closeDay rfl ?_))
  refine em_callV (μ' := mX0_makeRoom) (c1 := 0) kX0_closeDay rfl lX0_34 tX0_makeRoom (by decide) rfl (em_ltB hB rfl) hMR rfl rfl (by decide) (Nat.le_of_ble_eq_true rfl) (Nat.le_refl _) (Nat.le_refl _) ?_
  have hB0 := hB
  have hB := hB1
  (repeat (refine em_pureT 34 hB kX0_closeDay rfl rfl ?_))
  refine em_loc (lc' := [(0, .ref 12), (1, .int (nI t)), (2, .ref 11), (3, .int (nI (em_due (I 11) (I 13) (t + 1)))), (4, .int (nI 0))]) rfl ?_
  refine em_hpE ?_ (loop (t + 1) 0 (by omega))
  show em_hm n1 m1 dl1 I1 J rv1 = em_hm n1 m1 dl1 (va_up (va_up (va_up I1 rv1.1 (I1 rv1.1)) 13 (I 13)) 12 (va_up (va_up (I 12) 3 (nI c)) 1 (I 12 1))) J rv1
  rw [em_va_id, ← h13, em_va_id, ← hc]
  have : va_up (va_up (I 12) 3 (I 12 3)) 1 (I 12 1) = I1 12 := by rw [em_va_id, em_va_id, h12]
  rw [this, em_va_id]
end Close
