/-! BITS; THE REFERENCE'S SEARCH. A state of it: (bestMany, bestSum, best, path) -/
theorem em_shm : ∀ k, k < 8 → ((nI k &&& 31).toBitVec.smod 32).toNat = k := by decide +kernel
theorem em_hs_b (x : Int32) {k : Nat} (hk : k < 8) : em_hs x k ↔ x.toBitVec.getLsbD k = true := by
  have e : ((x >>> (nI k &&& 31)) &&& 1).toBitVec = BitVec.setWidth 32 (BitVec.ofBool (x.toBitVec.getLsbD k)) := by
    show (x.toBitVec.sshiftRight' ((nI k &&& 31).toBitVec.smod 32)) &&& 1#32 = _
    rw [BitVec.and_one_eq_setWidth_ofBool_getLsbD]
    show BitVec.setWidth 32 (BitVec.ofBool ((x.toBitVec.sshiftRight ((nI k &&& 31).toBitVec.smod 32).toNat).getLsbD 0)) = _
    rw [em_shm k hk, BitVec.getLsbD_sshiftRight]
    simp
    rw [if_pos (show k < 32 by omega)]
  constructor
  · intro h
    cases hb : x.toBitVec.getLsbD k with
    | true => rfl
    | false =>
      rw [hb] at e
      exact absurd (Int32.toBitVec_inj.mp e) h
  · intro h z
    rw [z, h] at e
    exact absurd e (by decide)
theorem em_one_b : ∀ j, j < 8 → ∀ k, k < 8 → ((1 : Int32) <<< (nI k &&& 31)).toBitVec.getLsbD j = decide (j = k) := by decide +kernel
theorem em_hs_or (x : Int32) {j k : Nat} (hj : j < 8) (hk : k < 8) : em_hs (x ||| (1 <<< (nI k &&& 31))) j ↔ em_hs x j ∨ j = k := by
  rw [em_hs_b _ hj, em_hs_b _ hj]
  show (x.toBitVec ||| ((1 : Int32) <<< (nI k &&& 31)).toBitVec).getLsbD j = true ↔ _
  rw [BitVec.getLsbD_or, em_one_b j hj k hk]
  simp
theorem em_hs_0 {j : Nat} (hj : j < 8) : ¬ em_hs 0 j := by
  rw [em_hs_b _ hj]
  simp
def em_un (sn : Int32) : Nat → Nat
  | 0 => 0
  | k + 1 => if em_hs sn k then em_un sn k else em_un sn k + 1
theorem em_un_or (sn : Int32) {k : Nat} (hk : k < 8) (h : ¬ em_hs sn k) : ∀ T, T ≤ 8 → em_un (sn ||| (1 <<< (nI k &&& 31))) T + (if k < T then 1 else 0) = em_un sn T
  | 0, _ => by rw [em_un, em_un, if_neg (by omega)]
  | j + 1, hj => by
    have ih := em_un_or sn hk h j (by omega)
    rw [em_un, em_un]
    by_cases e : j = k
    · subst e
      rw [if_pos ((em_hs_or sn (by omega) hk).mpr (Or.inr rfl)), if_neg h, if_pos (by omega)]
      rw [if_neg (by omega)] at ih
      omega
    · have e2 : (if k < j + 1 then 1 else 0) = if k < j then 1 else 0 := by
        by_cases hkj : k < j
        · rw [if_pos hkj, if_pos (by omega)]
        · rw [if_neg hkj, if_neg (by omega)]
      rw [e2]
      by_cases hh : em_hs sn j
      · rw [if_pos ((em_hs_or sn (by omega) hk).mpr (Or.inl hh)), if_pos hh]
        exact ih
      · rw [if_neg (fun z => ((em_hs_or sn (by omega) hk).mp z).elim hh e), if_neg hh]
        omega
theorem em_un_le (sn : Int32) : ∀ T, em_un sn T ≤ T
  | 0 => Nat.le_refl _
  | k + 1 => by
    have := em_un_le sn k
    rw [em_un]
    split <;> omega
abbrev em_GS : Type := Int32 × Int32 × (Nat → Int32) × (Nat → Int32)
abbrev em_mI (I : Nat → Nat → Int32) (s : em_GS) : Nat → Nat → Int32 := va_up (va_up (va_up I 53 (va_up (va_up (I 53) 31 s.1) 32 s.2.1)) 76 s.2.2.1) 75 s.2.2.2
abbrev em_mgr (n m : Nat) (dl : Nat → Nat) (I : Nat → Nat → Int32) (J : Nat → Nat → Int64) (rv : em_Rv) (s : em_GS) : em_Hp := em_hm n m dl (em_mI I s) J rv
def em_isl (p b : Nat → Int32) : Nat → Nat → Bool
  | 0, _ => false
  | e + 1, k => if p k = b k then em_isl p b e (k + 1) else decide (p k < b k)
abbrev em_atg (I : Nat → Nat → Int32) (t : Nat) (ar : Int32) : Int32 := if ar < I 71 t then I 71 t else ar
abbrev em_net (I : Nat → Nat → Int32) (t : Nat) (ar br : Int32) : Int32 := br + I 73 t - I 53 5 * (em_atg I t ar + 1 - I 53 33)
abbrev em_gbt (s : em_GS) (c : Nat) (v : Int32) : Prop := s.2.1 < v ∨ (v = s.2.1 ∧ (nI c < s.1 ∨ (nI c = s.1 ∧ em_isl s.2.2.2 s.2.2.1 c 0 = true)))
def em_gkp (s : em_GS) (c : Nat) (v : Int32) : em_GS := if em_gbt s c v then (nI c, v, va_cpy s.2.2.2 s.2.2.1 0 0 c, s.2.2.2) else s
def em_g1s (s : em_GS) (d t : Nat) : em_GS := (s.1, s.2.1, s.2.2.1, va_up s.2.2.2 d (nI t))
def em_gon (I : Nat → Nat → Int32) (T : Nat) : Nat → Nat → Nat → Int32 → Int32 → Int32 → em_GS → em_GS
  | 0, _, _, _, _, _, s => s
  | f + 1, d, t, ar, br, sn, s =>
    if I 72 t < em_atg I t ar then s
    else em_fold (fun k s => if em_hs sn k then s else em_gon I T f (d + 1) k (em_atg I t ar + 1 + I 74 (8 * t + k)) (br + I 73 t) (sn ||| (1 <<< (nI k &&& 31))) s) T (em_gkp (em_g1s s d t) (d + 1) (em_net I t ar br))
theorem em_w8' {t k : Nat} : (8 : Int32) * nI t + nI k = nI (8 * t + k) := by
  rw [show (8 : Int32) = nI 8 from rfl, pk_mul, nI_add]
section MTour
variable {Γ : em_Cx} {n m : Nat} {dl : Nat → Nat} {I : Nat → Nat → Int32} {J : Nat → Nat → Int64} {rv : em_Rv}
theorem em_mgr75 {s : em_GS} {p : Nat → Int32} : em_sI (em_mgr n m dl I J rv s) 75 p = em_mgr n m dl I J rv (s.1, s.2.1, s.2.2.1, p) := by
  show em_hm n m dl (va_up (va_up (va_up (va_up I 53 _) 76 _) 75 _) 75 p) J rv = _
  rw [bx_uu]
theorem em_mgr76 {s : em_GS} {b : Nat → Int32} : em_sI (em_mgr n m dl I J rv s) 76 b = em_mgr n m dl I J rv (s.1, s.2.1, b, s.2.2.2) := by
  show em_hm n m dl (va_up (va_up (va_up (va_up I 53 _) 76 _) 75 _) 76 b) J rv = _
  rw [em_u2 _ _ _ _ (by decide)]
theorem em_mgr32 {s : em_GS} {x : Int32} : em_sI (em_mgr n m dl I J rv s) 53 (va_up (va_up (va_up (I 53) 31 s.1) 32 s.2.1) 32 x) = em_mgr n m dl I J rv (s.1, x, s.2.2) := by
  show em_hm n m dl (va_up (va_up (va_up (va_up I 53 _) 76 _) 75 _) 53 _) J rv = _
  rw [em_u3 _ _ _ _ _ (by decide) (by decide), bx_uu]
theorem em_mgr31 {s : em_GS} {x : Int32} : em_sI (em_mgr n m dl I J rv s) 53 (va_up (va_up (va_up (I 53) 31 s.1) 32 s.2.1) 31 x) = em_mgr n m dl I J rv (x, s.2) := by
  show em_hm n m dl (va_up (va_up (va_up (va_up I 53 _) 76 _) 75 _) 53 _) J rv = _
  rw [em_u3 _ _ _ _ _ (by decide) (by decide), em_u2 _ _ _ _ (by decide)]
theorem s_isLower (hB : 85 ≤ n) {s : em_GS} {c : Nat} (hc : c ≤ 8) : em_MC Γ 0 mX8_isLower [.ref 53, .int (nI c)] (em_mgr n m dl I J rv s) (some (.int (if em_isl s.2.2.2 s.2.2.1 c 0 = true then 1 else 0))) (em_mgr n m dl I J rv s) := by
  refine em_MC_of (Nat.le_refl _) (Nat.le_refl _) (by decide +kernel) rfl (Nat.le_of_ble_eq_true rfl) ?_
  have loop : ∀ e k, k + e = c → em_EW Γ 0 mX8_isLower (em_mgr n m dl I J rv s) (some (.int (if em_isl s.2.2.2 s.2.2.1 e k = true then 1 else 0)), em_mgr n m dl I J rv s) 2 [(0, .ref 53), (1, .int (nI c)), (2, .int (nI k))] [] (em_mgr n m dl I J rv s) := by
    intro e
    induction e with
    | zero =>
      intro k hk
      obtain rfl : k = c := by omega
      (repeat (refine em_pure hB kX8_isLower rfl ?_))
      refine em_branch kX8_isLower rfl (fun _ => ?_) (fun z => absurd (nI_le (Nat.le_refl k) (by omega)) z)
      (repeat (refine em_pure hB kX8_isLower rfl ?_))
      exact em_iret kX8_isLower rfl rfl rfl rfl
    | succ e ih =>
      intro k hk
      (repeat (refine em_pure hB kX8_isLower rfl ?_))
      refine em_branch kX8_isLower rfl (fun z => absurd z (nI_ge (by omega) (by omega))) (fun _ => ?_)
      (repeat (refine em_pure hB kX8_isLower rfl ?_))
      refine em_ia (L := 8) hB kX8_isLower rfl rfl rfl rfl rfl (show k < 8 by omega) rfl ?_
      (repeat (refine em_pure hB kX8_isLower rfl ?_))
      refine em_ia (L := 8) hB kX8_isLower rfl rfl rfl rfl rfl (show k < 8 by omega) rfl ?_
      rw [em_isl]
      refine em_branch kX8_isLower rfl (fun (h : s.2.2.2 k = s.2.2.1 k) => ?_) (fun (h : ¬ s.2.2.2 k = s.2.2.1 k) => ?_)
      · rw [if_pos h]
        (repeat (refine em_pureT 2 hB kX8_isLower rfl rfl ?_))
        refine em_loc (lc' := [(0, .ref 53), (1, .int (nI c)), (2, .int (nI k + 1))]) rfl ?_
        rw [nI_1]
        exact ih (k + 1) (by omega)
      · rw [if_neg h]
        (repeat (refine em_pure hB kX8_isLower rfl ?_))
        refine em_ia (L := 8) hB kX8_isLower rfl rfl rfl rfl rfl (show k < 8 by omega) rfl ?_
        (repeat (refine em_pure hB kX8_isLower rfl ?_))
        refine em_ia (L := 8) hB kX8_isLower rfl rfl rfl rfl rfl (show k < 8 by omega) rfl ?_
        refine em_branch kX8_isLower rfl (fun (h2 : s.2.2.1 k ≤ s.2.2.2 k) => ?_) (fun (h2 : ¬ s.2.2.1 k ≤ s.2.2.2 k) => ?_)
        · (repeat (refine em_pure hB kX8_isLower rfl ?_))
          exact em_iret kX8_isLower rfl rfl rfl (by rw [if_neg (by simpa using h2)])
        · (repeat (refine em_pure hB kX8_isLower rfl ?_))
          exact em_iret kX8_isLower rfl rfl rfl (by rw [if_pos (by simpa using h2)])
  (repeat (refine em_pureT 2 hB kX8_isLower rfl rfl ?_))
  refine em_loc (lc' := [(0, .ref 53), (1, .int (nI c)), (2, .int (nI 0))]) rfl ?_
  exact loop c 0 (by omega)
end MTour
