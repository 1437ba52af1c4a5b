/-! PAIR: THE DAY -/
theorem ei_cdl {f f' u0 r0 : Nat → Int32} {F0 : Nat → Int32 × Int32 × Int32} {t a0 : Int32} {c : Nat} (hb : ∀ i, i < c → r0 (3 * i) = (F0 i).1 ∧ r0 (3 * i + 1) = (F0 i).2.1 ∧ r0 (3 * i + 2) = (F0 i).2.2) (ha : a0 = bx_sum u0 401) : ∀ D, D ≤ 401 → (∀ d, d < D → f d = f' d) → (em_cdd f t c r0 u0 a0 D).1 = (em_lin f' t c F0 u0 D).1 ∧ (em_cdd f t c r0 u0 a0 D).2.2.1 = (em_lin f' t c F0 u0 D).2.2 ∧ (em_cdd f t c r0 u0 a0 D).2.2.2 = bx_sum (em_lin f' t c F0 u0 D).2.2 401 ∧ ∀ i, i < (em_lin f' t c F0 u0 D).1 → (em_cdd f t c r0 u0 a0 D).2.1 (3 * i) = ((em_lin f' t c F0 u0 D).2.1 i).1 ∧ (em_cdd f t c r0 u0 a0 D).2.1 (3 * i + 1) = ((em_lin f' t c F0 u0 D).2.1 i).2.1 ∧ (em_cdd f t c r0 u0 a0 D).2.1 (3 * i + 2) = ((em_lin f' t c F0 u0 D).2.1 i).2.2
  | 0, _, _ => ⟨rfl, rfl, ha, hb⟩
  | d + 1, hD, hf => by
    obtain ⟨i1, i2, i3, i4⟩ := ei_cdl hb ha d (by omega) (fun k hk => hf k (by omega))
    rw [em_cdd, em_lin]
    generalize em_cdd f t c r0 u0 a0 d = X at *
    generalize em_lin f' t c F0 u0 d = Y at *
    rw [hf d (by omega), i2]
    by_cases h0 : f' d - Y.2.2 d = 0
    · rw [if_pos h0, if_pos h0]
      exact ⟨i1, i2, i3, i4⟩
    · rw [if_neg h0, if_neg h0]
      refine ⟨by show X.1 + 1 = Y.1 + 1; rw [i1], rfl, ?_, ?_⟩
      · show X.2.2.2 + (f' d - Y.2.2 d) = bx_sum (va_up Y.2.2 d (Y.2.2 d + (f' d - Y.2.2 d))) 401
        rw [ei_sum_up, if_pos (by omega), i3]
      · intro i hi
        have hi : i < Y.1 + 1 := hi
        show em_w3r X.2.1 X.1 t (nI d) (f' d - Y.2.2 d) (3 * i) = (va_up Y.2.1 Y.1 (t, nI d, f' d - Y.2.2 d) i).1 ∧ em_w3r X.2.1 X.1 t (nI d) (f' d - Y.2.2 d) (3 * i + 1) = (va_up Y.2.1 Y.1 (t, nI d, f' d - Y.2.2 d) i).2.1 ∧ em_w3r X.2.1 X.1 t (nI d) (f' d - Y.2.2 d) (3 * i + 2) = (va_up Y.2.1 Y.1 (t, nI d, f' d - Y.2.2 d) i).2.2
        rw [em_w3r, i1]
        by_cases e : i = Y.1
        · subst e
          rw [va_up_self, va_up_ne _ _ (by omega), va_up_ne _ _ (by omega), va_up_self, va_up_ne _ _ (by omega), va_up_self, va_up_self]
          exact ⟨rfl, rfl, rfl⟩
        · rw [va_up_ne Y.2.1 _ e, va_up_ne _ _ (by omega), va_up_ne _ _ (by omega), va_up_ne _ _ (by omega), va_up_ne _ _ (by omega), va_up_ne _ _ (by omega), va_up_ne _ _ (by omega), va_up_ne _ _ (by omega), va_up_ne _ _ (by omega), va_up_ne _ _ (by omega)]
          exact i4 i (by omega)
/-! groups whose rows stay -/
def ed_b (k : Nat) : Bool := Nat.blt k 85 && !(Nat.beq k 1) && !(Nat.beq k 10) && !(Nat.beq k 11) && !(Nat.beq k 12) && !(Nat.beq k 13) && !(Nat.beq k 14) && !(Nat.beq k 53) && !(Nat.beq k 63) && !(Nat.beq k 64) && !(Nat.beq k 65) && !(Nat.beq k 66) && !(Nat.beq k 68) && !(Nat.beq k 69) && !(Nat.beq k 70)
theorem ed_ne {k : Nat} (h : ed_b k = true) : k < 85 ∧ ¬ k = 1 ∧ ¬ k = 10 ∧ ¬ k = 11 ∧ ¬ k = 12 ∧ ¬ k = 13 ∧ ¬ k = 14 ∧ ¬ k = 53 ∧ ¬ k = 63 ∧ ¬ k = 64 ∧ ¬ k = 65 ∧ ¬ k = 66 ∧ ¬ k = 68 ∧ ¬ k = 69 ∧ ¬ k = 70 := by
  have h85 : k < 85 := by
    unfold ed_b at h
    simp only [Bool.and_eq_true] at h
    exact Nat.le_of_ble_eq_true h.1.1.1.1.1.1.1.1.1.1.1.1.1.1
  refine ⟨h85, ?_, ?_, ?_, ?_, ?_, ?_, ?_, ?_, ?_, ?_, ?_, ?_, ?_, ?_⟩ <;> (rintro rfl; exact absurd h (by decide))
theorem em_gC.cong {I I' : Nat → Nat → Int32} {N : Nat} (h : em_gC I N) (hs : ∀ k, ed_b k = true → I' k = I k) : em_gC I' N := by
  refine em_gC.mk (wg := ?_) (wn := ?_) (wr := ?_) (br := ?_) (bb := ?_) (bv := ?_) (bs := ?_)
  · rw [hs 59 rfl, hs 16 rfl]; exact h.wg
  · rw [hs 16 rfl]; exact h.wn
  · rw [hs 16 rfl]; exact h.wr
  · rw [hs 17 rfl]; exact h.br
  · rw [hs 17 rfl, hs 67 rfl]; exact h.bb
  · rw [hs 67 rfl]; exact h.bv
  · rw [hs 67 rfl]; exact h.bs
theorem em_gD.cong {I I' : Nat → Nat → Int32} {T : Nat} (h : em_gD I T) (hs : ∀ k, ed_b k = true → I' k = I k) (h4 : I' 53 4 = I 53 4) (h5 : I' 53 5 = I 53 5) : em_gD I' T := by
  refine em_gD.mk (T1 := ?_) (T2 := ?_) (T8 := h.T8) (e71 := ?_) (e72 := ?_) (e73 := ?_) (e74 := ?_) (fo := ?_) (fb := ?_) (td := ?_) (tb := ?_) (tw := ?_) (pc := ?_)
  · rw [hs 21 rfl]; exact h.T1
  · rw [h4]; exact h.T2
  · rw [hs 71 rfl, hs 22 rfl]; exact h.e71
  · rw [hs 72 rfl, hs 23 rfl]; exact h.e72
  · rw [hs 73 rfl, hs 24 rfl]; exact h.e73
  · rw [hs 74 rfl, hs 25 rfl]; exact h.e74
  · rw [h5, hs 21 rfl]; exact h.fo
  · rw [hs 21 rfl]; exact h.fb
  · rw [hs 22 rfl, hs 23 rfl]; exact h.td
  · rw [hs 24 rfl]; exact h.tb
  · rw [hs 25 rfl]; exact h.tw
  · rw [hs 21 rfl, hs 22 rfl, hs 23 rfl, hs 24 rfl, hs 25 rfl, hs 26 rfl]; exact h.pc
theorem em_gE.cong {I I' : Nat → Nat → Int32} {S : Nat} (h : em_gE I S) (hs : ∀ k, ed_b k = true → I' k = I k) (h35 : I' 53 35 = I 53 35) : em_gE I' S := by
  refine em_gE.mk (s1 := ?_) (s2 := ?_) (s3 := h.s3) (tp := ?_) (w0 := ?_) (w1 := ?_) (w2 := ?_) (w3 := ?_) (w4 := ?_) (w5 := ?_) (w6 := ?_) (w7 := ?_)
  · rw [hs 28 rfl]; exact h.s1
  · rw [h35]; exact h.s2
  · rw [hs 77 rfl, hs 29 rfl]; exact h.tp
  · rw [hs 31 rfl, hs 32 rfl, hs 78 rfl, hs 79 rfl, hs 80 rfl]; exact h.w0
  · rw [hs 33 rfl, hs 34 rfl, hs 78 rfl, hs 79 rfl, hs 80 rfl]; exact h.w1
  · rw [hs 35 rfl, hs 36 rfl, hs 78 rfl, hs 79 rfl, hs 80 rfl]; exact h.w2
  · rw [hs 37 rfl, hs 38 rfl, hs 78 rfl, hs 79 rfl, hs 80 rfl]; exact h.w3
  · rw [hs 39 rfl, hs 40 rfl, hs 78 rfl, hs 79 rfl, hs 80 rfl]; exact h.w4
  · rw [hs 41 rfl, hs 42 rfl, hs 78 rfl, hs 79 rfl, hs 80 rfl]; exact h.w5
  · rw [hs 43 rfl, hs 44 rfl, hs 78 rfl, hs 79 rfl, hs 80 rfl]; exact h.w6
  · rw [hs 45 rfl, hs 46 rfl, hs 78 rfl, hs 79 rfl, hs 80 rfl]; exact h.w7
theorem em_gF.cong {I I' : Nat → Nat → Int32} {J : Nat → Nat → Int64} {rv rv' : em_Rv} {h : Nat} (hF : em_gF I J rv h) (hs : ∀ k, ed_b k = true → I' k = I k) (h6 : I' 53 6 = I 53 6) (h7 : I' 53 7 = I 53 7) (hr : rv'.2.2.2.2 = rv.2.2.2.2) : em_gF I' J rv' h := by
  have hm : em_mb rv' = em_mb rv := by
    show (bif rv'.2.2.2.2 then 84 else 83) = (bif rv.2.2.2.2 then 84 else 83)
    rw [hr]
  refine em_gF.mk (w1 := ?_) (w2 := ?_) (w3 := ?_) (w4 := hF.w4) (wl := ?_) (jm := ?_) (mv := ?_)
  · rw [h6, hs 49 rfl]; exact hF.w1
  · rw [h7, hs 49 rfl]; exact hF.w2
  · rw [hs 49 rfl]; exact hF.w3
  · rw [hs 82 rfl, hs 50 rfl]; exact hF.wl
  · rw [hm]; exact hF.jm
  · rw [hs 49 rfl]; exact hF.mv
theorem em_gA.next {I I' : Nat → Nat → Int32} {N G t : Nat} (h : em_gA I N G t) (ht : t < 400) (hs : ∀ k, ed_b k = true → I' k = I k) (h1 : I' 1 = va_up (I 1) 10 (nI (t + 1))) (h53 : I' 53 0 = nI (t + 1)) (h531 : I' 53 1 = I 53 1) (h532 : I' 53 2 = I 53 2) : em_gA I' N G (t + 1) := by
  have up : ∀ {x : Int32}, (∃ k, k ≤ t ∧ x = nI k) → ∃ k, k ≤ t + 1 ∧ x = nI k := fun ⟨k, hk, e⟩ => ⟨k, by omega, e⟩
  refine em_gA.mk (n1 := ?_) (n2 := h.n2) (g1 := ?_) (g2 := h.g2) (t1 := ?_) (t2 := by omega) (m1 := ?_) (m2 := ?_) (m0 := h53) (e54 := ?_) (e55 := ?_) (e56 := ?_) (e57 := ?_) (e58 := ?_) (e60 := ?_) (e61 := ?_) (e62 := ?_) (kd := ?_) (fd := ?_) (wt := ?_) (fr := ?_) (tl := ?_) (gb := ?_) (gf := ?_) (go := ?_) (gs := ?_)
  · rw [h1, va_up_ne _ _ (by decide)]; exact h.n1
  · rw [h1, va_up_ne _ _ (by decide)]; exact h.g1
  · rw [h1, va_up_self]
  · rw [h531]; exact h.m1
  · rw [h532]; exact h.m2
  · rw [hs 54 rfl, hs 2 rfl]; exact h.e54
  · rw [hs 55 rfl, hs 3 rfl]; exact h.e55
  · rw [hs 56 rfl, hs 4 rfl]; exact h.e56
  · rw [hs 57 rfl, hs 5 rfl]; exact h.e57
  · rw [hs 58 rfl, hs 6 rfl]; exact h.e58
  · rw [hs 60 rfl, hs 7 rfl]; exact h.e60
  · rw [hs 61 rfl, hs 8 rfl]; exact h.e61
  · rw [hs 62 rfl, hs 9 rfl]; exact h.e62
  · rw [hs 4 rfl]; exact h.kd
  · rw [hs 2 rfl]; exact h.fd
  · rw [hs 3 rfl]; exact h.wt
  · rw [hs 5 rfl]; exact fun b hb => up (h.fr b hb)
  · rw [hs 6 rfl]; exact fun b hb => up (h.tl b hb)
  · rw [hs 7 rfl]; exact h.gb
  · rw [hs 8 rfl, hs 7 rfl, hs 5 rfl]
    exact fun i hi => (h.gf i hi).elim Or.inl (fun ⟨k, b, a1, a2⟩ => Or.inr ⟨k, b, by omega, a2⟩)
  · rw [hs 9 rfl]; exact fun i hi => up (h.go i hi)
  · rw [hs 9 rfl]; exact h.gs
theorem em_gA.same {I I' : Nat → Nat → Int32} {N G t : Nat} (h : em_gA I N G t) (hs : ∀ k, ed_b k = true → I' k = I k) (h1 : I' 1 = I 1) (h53 : I' 53 = I 53) : em_gA I' N G t := by
  refine em_gA.mk (n1 := ?_) (n2 := h.n2) (g1 := ?_) (g2 := h.g2) (t1 := ?_) (t2 := h.t2) (m1 := ?_) (m2 := ?_) (m0 := ?_) (e54 := ?_) (e55 := ?_) (e56 := ?_) (e57 := ?_) (e58 := ?_) (e60 := ?_) (e61 := ?_) (e62 := ?_) (kd := ?_) (fd := ?_) (wt := ?_) (fr := ?_) (tl := ?_) (gb := ?_) (gf := ?_) (go := ?_) (gs := ?_)
  · rw [h1]; exact h.n1
  · rw [h1]; exact h.g1
  · rw [h1]; exact h.t1
  · rw [h53]; exact h.m1
  · rw [h53]; exact h.m2
  · rw [h53]; exact h.m0
  · rw [hs 54 rfl, hs 2 rfl]; exact h.e54
  · rw [hs 55 rfl, hs 3 rfl]; exact h.e55
  · rw [hs 56 rfl, hs 4 rfl]; exact h.e56
  · rw [hs 57 rfl, hs 5 rfl]; exact h.e57
  · rw [hs 58 rfl, hs 6 rfl]; exact h.e58
  · rw [hs 60 rfl, hs 7 rfl]; exact h.e60
  · rw [hs 61 rfl, hs 8 rfl]; exact h.e61
  · rw [hs 62 rfl, hs 9 rfl]; exact h.e62
  · rw [hs 4 rfl]; exact h.kd
  · rw [hs 2 rfl]; exact h.fd
  · rw [hs 3 rfl]; exact h.wt
  · rw [hs 5 rfl]; exact h.fr
  · rw [hs 6 rfl]; exact h.tl
  · rw [hs 7 rfl]; exact h.gb
  · rw [hs 8 rfl, hs 7 rfl, hs 5 rfl]; exact h.gf
  · rw [hs 9 rfl]; exact h.go
  · rw [hs 9 rfl]; exact h.gs
def ed_room (n m : Nat) (dl : Nat → Nat) (I : Nat → Nat → Int32) (rv : em_Rv) (lam w : Nat) (n1 m1 : Nat) (dl1 : Nat → Nat) (I1 : Nat → Nat → Int32) (rv1 : em_Rv) (lam1 : Nat) : Prop := (n ≤ n1) ∧ (m ≤ m1) ∧ (em_rl rv1.1) ∧ (rv1.1 < n1) ∧ (em_lnd dl1 rv1.1 = lam1) ∧ (lam1 ≤ 60000) ∧ (3 * w ≤ lam1) ∧ (rv1.2 = rv.2) ∧ (∀ k, k < n → I1 k = I k) ∧ (∀ i, i < lam → I1 rv1.1 i = I rv.1 i) ∧ (∀ k, k < n → em_lnd dl1 k = em_lnd dl k) ∧ (rv1.1 = rv.1 ∨ n ≤ rv1.1) ∧ (n1 + lam ≤ n + lam1) ∧ ((m1 = m ∧ lam1 = lam) ∨ (m1 = m + lam1 ∧ lam < lam1 ∧ (2 * lam ≤ lam1 ∨ lam1 = 60000)))
theorem ed_room.hn {n m : Nat} {dl : Nat → Nat} {I : Nat → Nat → Int32} {rv : em_Rv} {lam w : Nat} {n1 m1 : Nat} {dl1 : Nat → Nat} {I1 : Nat → Nat → Int32} {rv1 : em_Rv} {lam1 : Nat} (h0_ : ed_room n m dl I rv lam w n1 m1 dl1 I1 rv1 lam1) : n ≤ n1 := h0_.1
theorem ed_room.hm {n m : Nat} {dl : Nat → Nat} {I : Nat → Nat → Int32} {rv : em_Rv} {lam w : Nat} {n1 m1 : Nat} {dl1 : Nat → Nat} {I1 : Nat → Nat → Int32} {rv1 : em_Rv} {lam1 : Nat} (h0_ : ed_room n m dl I rv lam w n1 m1 dl1 I1 rv1 lam1) : m ≤ m1 := h0_.2.1
theorem ed_room.L1 {n m : Nat} {dl : Nat → Nat} {I : Nat → Nat → Int32} {rv : em_Rv} {lam w : Nat} {n1 m1 : Nat} {dl1 : Nat → Nat} {I1 : Nat → Nat → Int32} {rv1 : em_Rv} {lam1 : Nat} (h0_ : ed_room n m dl I rv lam w n1 m1 dl1 I1 rv1 lam1) : em_rl rv1.1 := h0_.2.2.1
theorem ed_room.L2 {n m : Nat} {dl : Nat → Nat} {I : Nat → Nat → Int32} {rv : em_Rv} {lam w : Nat} {n1 m1 : Nat} {dl1 : Nat → Nat} {I1 : Nat → Nat → Int32} {rv1 : em_Rv} {lam1 : Nat} (h0_ : ed_room n m dl I rv lam w n1 m1 dl1 I1 rv1 lam1) : rv1.1 < n1 := h0_.2.2.2.1
theorem ed_room.L3 {n m : Nat} {dl : Nat → Nat} {I : Nat → Nat → Int32} {rv : em_Rv} {lam w : Nat} {n1 m1 : Nat} {dl1 : Nat → Nat} {I1 : Nat → Nat → Int32} {rv1 : em_Rv} {lam1 : Nat} (h0_ : ed_room n m dl I rv lam w n1 m1 dl1 I1 rv1 lam1) : em_lnd dl1 rv1.1 = lam1 := h0_.2.2.2.2.1
theorem ed_room.L4 {n m : Nat} {dl : Nat → Nat} {I : Nat → Nat → Int32} {rv : em_Rv} {lam w : Nat} {n1 m1 : Nat} {dl1 : Nat → Nat} {I1 : Nat → Nat → Int32} {rv1 : em_Rv} {lam1 : Nat} (h0_ : ed_room n m dl I rv lam w n1 m1 dl1 I1 rv1 lam1) : lam1 ≤ 60000 := h0_.2.2.2.2.2.1
theorem ed_room.L5 {n m : Nat} {dl : Nat → Nat} {I : Nat → Nat → Int32} {rv : em_Rv} {lam w : Nat} {n1 m1 : Nat} {dl1 : Nat → Nat} {I1 : Nat → Nat → Int32} {rv1 : em_Rv} {lam1 : Nat} (h0_ : ed_room n m dl I rv lam w n1 m1 dl1 I1 rv1 lam1) : 3 * w ≤ lam1 := h0_.2.2.2.2.2.2.1
theorem ed_room.r2 {n m : Nat} {dl : Nat → Nat} {I : Nat → Nat → Int32} {rv : em_Rv} {lam w : Nat} {n1 m1 : Nat} {dl1 : Nat → Nat} {I1 : Nat → Nat → Int32} {rv1 : em_Rv} {lam1 : Nat} (h0_ : ed_room n m dl I rv lam w n1 m1 dl1 I1 rv1 lam1) : rv1.2 = rv.2 := h0_.2.2.2.2.2.2.2.1
theorem ed_room.same {n m : Nat} {dl : Nat → Nat} {I : Nat → Nat → Int32} {rv : em_Rv} {lam w : Nat} {n1 m1 : Nat} {dl1 : Nat → Nat} {I1 : Nat → Nat → Int32} {rv1 : em_Rv} {lam1 : Nat} (h0_ : ed_room n m dl I rv lam w n1 m1 dl1 I1 rv1 lam1) : ∀ k, k < n → I1 k = I k := h0_.2.2.2.2.2.2.2.2.1
theorem ed_room.row {n m : Nat} {dl : Nat → Nat} {I : Nat → Nat → Int32} {rv : em_Rv} {lam w : Nat} {n1 m1 : Nat} {dl1 : Nat → Nat} {I1 : Nat → Nat → Int32} {rv1 : em_Rv} {lam1 : Nat} (h0_ : ed_room n m dl I rv lam w n1 m1 dl1 I1 rv1 lam1) : ∀ i, i < lam → I1 rv1.1 i = I rv.1 i := h0_.2.2.2.2.2.2.2.2.2.1
theorem ed_room.dls {n m : Nat} {dl : Nat → Nat} {I : Nat → Nat → Int32} {rv : em_Rv} {lam w : Nat} {n1 m1 : Nat} {dl1 : Nat → Nat} {I1 : Nat → Nat → Int32} {rv1 : em_Rv} {lam1 : Nat} (h0_ : ed_room n m dl I rv lam w n1 m1 dl1 I1 rv1 lam1) : ∀ k, k < n → em_lnd dl1 k = em_lnd dl k := h0_.2.2.2.2.2.2.2.2.2.2.1
theorem ed_room.fresh {n m : Nat} {dl : Nat → Nat} {I : Nat → Nat → Int32} {rv : em_Rv} {lam w : Nat} {n1 m1 : Nat} {dl1 : Nat → Nat} {I1 : Nat → Nat → Int32} {rv1 : em_Rv} {lam1 : Nat} (h0_ : ed_room n m dl I rv lam w n1 m1 dl1 I1 rv1 lam1) : rv1.1 = rv.1 ∨ n ≤ rv1.1 := h0_.2.2.2.2.2.2.2.2.2.2.2.1
theorem ed_room.nn {n m : Nat} {dl : Nat → Nat} {I : Nat → Nat → Int32} {rv : em_Rv} {lam w : Nat} {n1 m1 : Nat} {dl1 : Nat → Nat} {I1 : Nat → Nat → Int32} {rv1 : em_Rv} {lam1 : Nat} (h0_ : ed_room n m dl I rv lam w n1 m1 dl1 I1 rv1 lam1) : n1 + lam ≤ n + lam1 := h0_.2.2.2.2.2.2.2.2.2.2.2.2.1
theorem ed_room.mm {n m : Nat} {dl : Nat → Nat} {I : Nat → Nat → Int32} {rv : em_Rv} {lam w : Nat} {n1 m1 : Nat} {dl1 : Nat → Nat} {I1 : Nat → Nat → Int32} {rv1 : em_Rv} {lam1 : Nat} (h0_ : ed_room n m dl I rv lam w n1 m1 dl1 I1 rv1 lam1) : (m1 = m ∧ lam1 = lam) ∨ (m1 = m + lam1 ∧ lam < lam1 ∧ (2 * lam ≤ lam1 ∨ lam1 = 60000)) := h0_.2.2.2.2.2.2.2.2.2.2.2.2.2
theorem ed_room.mk {n m : Nat} {dl : Nat → Nat} {I : Nat → Nat → Int32} {rv : em_Rv} {lam w : Nat} {n1 m1 : Nat} {dl1 : Nat → Nat} {I1 : Nat → Nat → Int32} {rv1 : em_Rv} {lam1 : Nat} (hn : n ≤ n1) (hm : m ≤ m1) (L1 : em_rl rv1.1) (L2 : rv1.1 < n1) (L3 : em_lnd dl1 rv1.1 = lam1) (L4 : lam1 ≤ 60000) (L5 : 3 * w ≤ lam1) (r2 : rv1.2 = rv.2) (same : ∀ k, k < n → I1 k = I k) (row : ∀ i, i < lam → I1 rv1.1 i = I rv.1 i) (dls : ∀ k, k < n → em_lnd dl1 k = em_lnd dl k) (fresh : rv1.1 = rv.1 ∨ n ≤ rv1.1) (nn : n1 + lam ≤ n + lam1) (mm : (m1 = m ∧ lam1 = lam) ∨ (m1 = m + lam1 ∧ lam < lam1 ∧ (2 * lam ≤ lam1 ∨ lam1 = 60000))) : ed_room n m dl I rv lam w n1 m1 dl1 I1 rv1 lam1 := ⟨hn, hm, L1, L2, L3, L4, L5, r2, same, row, dls, fresh, nn, mm⟩
theorem ed_make {Γ : em_Cx} {n m : Nat} {dl : Nat → Nat} {I : Nat → Nat → Int32} {J : Nat → Nat → Int64} {rv : em_Rv} (hB : 85 ≤ n) {w lam : Nat} (hL : em_rl rv.1) (hLn : rv.1 < n) (hl : em_lnd dl rv.1 = lam) (hl2 : lam ≤ 60000) (hw : w ≤ 20000) : ∃ n1 m1 dl1 I1 rv1 lam1, ed_room n m dl I rv lam w n1 m1 dl1 I1 rv1 lam1 ∧ em_MC Γ 3 mX0_makeRoom [.ref 12, .int (nI w)] (em_hm n m dl I J rv) none (em_hm n1 m1 dl1 I1 J rv1) := by
  by_cases h : 3 * w ≤ lam
  · exact ⟨n, m, dl, I, rv, lam, ed_room.mk (hn := Nat.le_refl _) (hm := Nat.le_refl _) (L1 := hL) (L2 := hLn) (L3 := hl) (L4 := hl2) (L5 := h) (r2 := rfl) (same := fun _ _ => rfl) (row := fun _ _ => rfl) (dls := fun _ _ => rfl) (fresh := Or.inl rfl) (nn := Nat.le_refl _) (mm := Or.inl ⟨rfl, rfl⟩), s_makeRoom_no hB hL hLn hl (by omega) h⟩
  · have hge : 3 * w ≤ em_rm1 lam w := Nat.le_max_right _ _
    have hge2 : min (2 * lam) 60000 ≤ em_rm1 lam w := Nat.le_max_left _ _
    have hle : em_rm1 lam w ≤ 60000 := Nat.max_le.mpr ⟨Nat.min_le_right _ _, by omega⟩
    refine ⟨n + 1, m + em_rm1 lam w, va_up dl n (em_rm1 lam w), va_up I n (va_cpy (I rv.1) (fun _ => 0) 0 0 lam), (n, rv.2), em_rm1 lam w, ed_room.mk (hn := by omega) (hm := by omega) (L1 := Or.inr hB) (L2 := Nat.lt_succ_self _) (L3 := em_lnd_n hB) (L4 := hle) (L5 := hge) (r2 := rfl) (same := fun k hk => va_up_ne _ _ (by omega)) (row := fun i hi => ?_) (dls := fun k hk => em_lnd_up hk) (fresh := Or.inr (Nat.le_refl _)) (nn := by omega) (mm := Or.inr ⟨rfl, by omega, by omega⟩), s_makeRoom_yes hB hL hLn hl (by omega) (by omega) hw⟩
    show va_up I n (va_cpy (I rv.1) (fun _ => 0) 0 0 lam) n i = _
    rw [va_up_self]
    exact em_cp0_lt hi
