/-! THE REFERENCE'S READER OF LAWS -/
theorem em_val_snoc (f : Nat → Int32) : ∀ d p a, em_val f (d + 1) p a = em_val f d p a * 10 + f (p + d) - 48
  | 0, p, a => rfl
  | d + 1, p, a => by
    show em_val f (d + 1) (p + 1) (a * 10 + f p - 48) = em_val f d (p + 1) (a * 10 + f p - 48) * 10 + f (p + (d + 1)) - 48
    rw [em_val_snoc f d (p + 1), show p + 1 + d = p + (d + 1) by omega]
def em_tkM (s : Nat) (v F : Int32) (N : Nat → Int32) : Option (Int32 × (Nat → Int32)) :=
  if s = 0 then (if ¬ 7 < v ∧ ¬ (F >>> (v &&& 31)) &&& 1 = 1 then some (F ||| (1 <<< (v &&& 31)), N) else none) else (if N (s - 1) = -1 then some (F, va_up N (s - 1) v) else none)
section MReader
variable {Γ : em_Cx} {n m : Nat} {dl : Nat → Nat} {I : Nat → Nat → Int32} {J : Nat → Nat → Int64} {rv : em_Rv}
abbrev em_lm (n m : Nat) (dl : Nat → Nat) (I : Nat → Nat → Int32) (J : Nat → Nat → Int64) (rv : em_Rv) (F : Int32) (N : Nat → Int32) : em_Hp := em_hm n m dl (va_up (va_up I 53 (va_up (I 53) 39 F)) 81 N) J rv
theorem em_lmF {F F' : Int32} {N : Nat → Int32} : em_sI (em_lm n m dl I J rv F N) 53 (va_up (va_up (I 53) 39 F) 39 F') = em_lm n m dl I J rv F' N := by
  show (_, _, va_up (va_up (va_up I 53 _) 81 N) 53 _, _) = (_, _, va_up (va_up I 53 _) 81 N, _)
  rw [bx_uu (I 53)]
  congr 3
  funext q
  by_cases h : q = 53
  · subst h; simp [va_up]
  · by_cases h2 : q = 81
    · subst h2; simp [va_up]
    · simp [va_up, h, h2]
/-- the sort is found -/
theorem s_mSort (hB : 85 ≤ n) {p S : Nat} (hS : I 53 35 = nI S) (hS2 : S ≤ 200) (hp : p ≤ S) {F : Int32} {N : Nat → Int32} {fin : Option Value × em_Hp} (f1 : em_n fin.2 = n) (f2 : em_m fin.2 = m) (k : em_EW Γ 5 mX8_clause (em_lm n m dl I J rv F N) fin 26 [(0, .ref 53), (1, .int (nI p)), (2, .int (nI (em_fs (I 77) S p 6 0)))] [] (em_lm n m dl I J rv F N)) : em_EW Γ 5 mX8_clause (em_lm n m dl I J rv F N) fin 0 (lv_args 0 [.ref 53, .int (nI p)]) [] (em_lm n m dl I J rv F N) := by
  have loop : ∀ d i, i + d = 6 → em_fs (I 77) S p d i = em_fs (I 77) S p 6 0 → em_EW Γ 5 mX8_clause (em_lm n m dl I J rv F N) fin 2 [(0, .ref 53), (1, .int (nI p)), (2, .int (nI i))] [] (em_lm n m dl I J rv F N) := by
    intro d
    induction d with
    | zero =>
      intro i hi he
      obtain rfl : i = 6 := by omega
      (repeat (refine em_pure hB kX8_clause rfl ?_))
      refine em_branch kX8_clause rfl (fun _ => ?_) (fun h1 => absurd (by decide) h1)
      rw [← he] at k
      exact k
    | succ d ih =>
      intro i hi he
      obtain ⟨u, hu, hM⟩ := s_mWord Γ (em_lm n m dl I J rv F N) (i := i) (by omega)
      (repeat (refine em_pure hB kX8_clause rfl ?_))
      refine em_branch kX8_clause rfl (fun (h1 : (6 : Int32) ≤ nI i) => absurd h1 (nI_ge (b := 6) (by omega) (by omega))) (fun _ => ?_)
      (repeat (refine em_pure hB kX8_clause rfl ?_))
      refine em_callS (μ' := mX8_word) kX8_clause rfl lX8_220 tX8_word hM rfl rfl (by decide) (Nat.le_of_ble_eq_true rfl) (by rw [f1]; exact Nat.le_refl _) (by rw [f2]; exact Nat.le_refl _) ?_
      refine em_callV (μ' := mX8_isWord) (c1 := 8) kX8_clause rfl lX8_224 tX8_isWord (by decide) rfl (em_ltB hB rfl) (s_mIsWord (I := va_up (va_up I 53 (va_up (I 53) 39 F)) 81 N) hB hS hS2 hp (i := i) (by omega) hu) rfl rfl (by decide) (Nat.le_of_ble_eq_true rfl) (by rw [f1]; exact Nat.le_refl _) (by rw [f2]; exact Nat.le_refl _) ?_
      refine em_bn kX8_clause rfl (fun (h : em_sw (I 77) S i p) => ?_) (fun (h : ¬ em_sw (I 77) S i p) => ?_)
      · rw [em_fs, if_pos h] at he
        rw [← he] at k
        exact k
      · rw [em_fs, if_neg h] at he
        (repeat (refine em_pureT 2 hB kX8_clause rfl rfl ?_))
        refine em_loc (lc' := [(0, .ref 53), (1, .int (nI p)), (2, .int (nI i + 1))]) rfl ?_
        rw [nI_1]
        exact ih (i + 1) (by omega) he
  (repeat (refine em_pureT 2 hB kX8_clause rfl rfl ?_))
  refine em_loc (lc' := [(0, .ref 53), (1, .int (nI p)), (2, .int (nI 0))]) rfl ?_
  exact loop 6 0 (by omega) rfl
/-- the digits are read -/
theorem s_mDigits (hB : 85 ≤ n) {p S s we nb : Nat} (hS : I 53 35 = nI S) (hS2 : S ≤ 200) (hnb : nb ≤ S) {F : Int32} {N : Nat → Int32} {fin : Option Value × em_Hp}
    (k : em_EW Γ 5 mX8_clause (em_lm n m dl I J rv F N) fin 136 [(0, .ref 53), (1, .int (nI p)), (2, .int (nI s)), (4, .int (nI (em_dg (I 77) S nb))), (5, .int (em_val (I 77) (min (em_dg (I 77) S nb - nb) 5) nb 0)), (6, .int (nI (em_dg (I 77) S nb - nb)))] [] (em_lm n m dl I J rv F N)) :
    em_EW Γ 5 mX8_clause (em_lm n m dl I J rv F N) fin 65 [(0, .ref 53), (1, .int (nI p)), (2, .int (nI s)), (3, .int (nI we)), (4, .int (nI nb)), (5, .int 0), (6, .int (nI 0))] [] (em_lm n m dl I J rv F N) := by
  have loop : ∀ d c, nb + c + d = S → em_pa em_isD (I 77) d (nb + c) = em_dg (I 77) S nb → em_EW Γ 5 mX8_clause (em_lm n m dl I J rv F N) fin 65 [(0, .ref 53), (1, .int (nI p)), (2, .int (nI s)), (4, .int (nI (nb + c))), (5, .int (em_val (I 77) (min c 5) nb 0)), (6, .int (nI c))] [] (em_lm n m dl I J rv F N) := by
    intro d
    induction d with
    | zero =>
      intro c hc he
      have he : nb + c = em_dg (I 77) S nb := he
      rw [← he, show nb + c - nb = c by omega] at k
      (repeat (refine em_pure hB kX8_clause rfl ?_))
      refine em_branch kX8_clause rfl (fun _ => ?_) (fun h1 => absurd (by show I 53 35 ≤ nI (nb + c); rw [hS]; exact nI_le (by omega) (by omega)) h1)
      exact k
    | succ d ih =>
      intro c hc he
      have stop : ¬ (48 ≤ I 77 (nb + c) ∧ I 77 (nb + c) ≤ 57) → em_EW Γ 5 mX8_clause (em_lm n m dl I J rv F N) fin 136 [(0, .ref 53), (1, .int (nI p)), (2, .int (nI s)), (4, .int (nI (nb + c))), (5, .int (em_val (I 77) (min c 5) nb 0)), (6, .int (nI c))] [] (em_lm n m dl I J rv F N) := by
        intro h
        rw [em_pa, if_neg (fun z : em_isD (I 77 (nb + c)) = true => h (of_decide_eq_true z))] at he
        rw [← he, show nb + c - nb = c by omega] at k
        exact k
      (repeat (refine em_pure hB kX8_clause rfl ?_))
      refine em_branch kX8_clause rfl (fun h1 => absurd h1 (by show ¬ I 53 35 ≤ nI (nb + c); rw [hS]; exact nI_ge (by omega) (by omega))) (fun _ => ?_)
      (repeat (refine em_pure hB kX8_clause rfl ?_))
      refine em_ia (L := 220) hB kX8_clause rfl rfl rfl rfl rfl (by omega) rfl ?_
      (repeat (refine em_pure hB kX8_clause rfl ?_))
      refine em_branch kX8_clause rfl (fun (h1 : I 77 (nb + c) < 48) => stop (fun z => absurd h1 (Int32.not_lt.mpr z.1))) (fun (h1 : ¬ I 77 (nb + c) < 48) => ?_)
      (repeat (refine em_pure hB kX8_clause rfl ?_))
      refine em_ia (L := 220) hB kX8_clause rfl rfl rfl rfl rfl (by omega) rfl ?_
      (repeat (refine em_pure hB kX8_clause rfl ?_))
      refine em_branch kX8_clause rfl (fun (h2 : 57 < I 77 (nb + c)) => stop (fun z => absurd h2 (Int32.not_lt.mpr z.2))) (fun (h2 : ¬ 57 < I 77 (nb + c)) => ?_)
      have hdg : 48 ≤ I 77 (nb + c) ∧ I 77 (nb + c) ≤ 57 := ⟨Int32.not_lt.mp h1, Int32.not_lt.mp h2⟩
      rw [em_pa, if_pos (show em_isD (I 77 (nb + c)) = true from decide_eq_true hdg)] at he
      have next : ∀ z : Int32, z = em_val (I 77) (min (c + 1) 5) nb 0 → em_EW Γ 5 mX8_clause (em_lm n m dl I J rv F N) fin 125 [(0, .ref 53), (1, .int (nI p)), (2, .int (nI s)), (4, .int (nI (nb + c))), (5, .int (em_val (I 77) (min c 5) nb 0)), (6, .int (nI c))] [.int z] (em_lm n m dl I J rv F N) := by
        intro z hz
        (repeat (refine em_pureT 65 hB kX8_clause rfl rfl ?_))
        refine em_loc (lc' := [(0, .ref 53), (1, .int (nI p)), (2, .int (nI s)), (4, .int (nI (nb + c) + 1)), (5, .int z), (6, .int (nI c + 1))]) rfl ?_
        rw [nI_1, nI_1, hz]
        exact ih (c + 1) (by omega) he
      (repeat (refine em_pure hB kX8_clause rfl ?_))
      refine em_branch kX8_clause rfl (fun (h3 : (5 : Int32) ≤ nI c) => ?_) (fun (h3 : ¬ (5 : Int32) ≤ nI c) => ?_)
      · have h5 : 5 ≤ c := Nat.not_lt.mp fun z => nI_ge (b := 5) z (by omega) h3
        (repeat (refine em_pureT 125 hB kX8_clause rfl rfl ?_))
        exact next _ (by rw [show min c 5 = 5 by omega, show min (c + 1) 5 = 5 by omega])
      · have h5 : c < 5 := Nat.not_le.mp fun z => h3 (nI_le (a := 5) z (by omega))
        (repeat (refine em_pure hB kX8_clause rfl ?_))
        refine em_ia (L := 220) hB kX8_clause rfl rfl rfl rfl rfl (by omega) rfl ?_
        (repeat (refine em_pureT 125 hB kX8_clause rfl rfl ?_))
        exact next _ (by rw [show min (c + 1) 5 = c + 1 by omega, em_val_snoc, show min c 5 = c by omega, Int32.mul_comm]; rfl)
  refine em_loc (lc' := [(0, .ref 53), (1, .int (nI p)), (2, .int (nI s)), (4, .int (nI (nb + 0))), (5, .int 0), (6, .int (nI 0))]) rfl ?_
  exact loop (S - nb) 0 (by omega) rfl
end MReader
