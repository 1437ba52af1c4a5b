/-! THE CLASS'S TOURS. A state of the search: (bestCount, bestValue, seen, best, path) -/
abbrev em_FS : Type := Int32 × Int32 × Int32 × (Nat → Int32) × (Nat → Int32)
abbrev em_fa (A : Nat → Int32) (s : em_FS) : Nat → Int32 := va_up (va_up (va_up A 9 s.1) 10 s.2.1) 12 s.2.2.1
abbrev em_fI (I : Nat → Nat → Int32) (s : em_FS) : Nat → Nat → Int32 := va_up (va_up (va_up I 21 (em_fa (I 21) s)) 26 s.2.2.2.1) 27 s.2.2.2.2
abbrev em_fr (n m : Nat) (dl : Nat → Nat) (I : Nat → Nat → Int32) (J : Nat → Nat → Int64) (rv : em_Rv) (s : em_FS) : em_Hp := em_hm n m dl (em_fI I s) J rv
theorem em_u3 {α : Type} (f : Nat → α) {a b c : Nat} (x x' y z : α) (h : ¬ a = b) (h' : ¬ a = c) : va_up (va_up (va_up (va_up f a x) b y) c z) a x' = va_up (va_up (va_up f a x') b y) c z := by
  rw [em_upc _ z x' (fun e => h' e.symm), em_u2 _ _ _ _ h]
abbrev em_btr (s : em_FS) (c v : Int32) : Prop := s.2.1 < v ∨ (v = s.2.1 ∧ c < s.1)
def em_mg (I : Nat → Nat → Int32) (sn c v : Int32) : Nat → Int32 × Int32
  | 0 => (c, v)
  | k + 1 => if em_hs sn k ∨ I 24 k ≤ 0 then em_mg I sn c v k else ((em_mg I sn c v k).1 + 1, (em_mg I sn c v k).2 + I 24 k)
def em_kp (s : em_FS) (d : Nat) (v : Int32) : em_FS := if em_btr s (nI (d + 1)) v then (nI (d + 1), v, s.2.2.1, va_cpy s.2.2.2.2 s.2.2.2.1 0 0 (d + 1), s.2.2.2.2) else s
def em_fold {α : Type} (g : Nat → α → α) : Nat → α → α
  | 0, s => s
  | k + 1, s => g k (em_fold g k s)
abbrev em_lvg (I : Nat → Nat → Int32) (t : Nat) (ar : Int32) : Int32 := (if ar < I 22 t then I 22 t else ar) + 1
abbrev em_vlg (I : Nat → Nat → Int32) (t : Nat) (ar br : Int32) : Int32 := br + I 24 t - I 21 5 * (em_lvg I t ar - I 21 7)
def em_s1 (s : em_FS) (d t : Nat) : em_FS := (s.1, s.2.1, s.2.2.1 ||| (1 <<< (nI t &&& 31)), s.2.2.2.1, va_up s.2.2.2.2 d (nI t))
def em_s9 (s : em_FS) (t : Nat) : em_FS := (s.1, s.2.1, s.2.2.1 &&& ((1 <<< (nI t &&& 31)) ^^^ (-1)), s.2.2.2.1, s.2.2.2.2)
def em_vis (I : Nat → Nat → Int32) (T : Nat) : Nat → Nat → Nat → Int32 → Int32 → em_FS → em_FS
  | 0, _, _, _, _, s => s
  | f + 1, d, t, ar, br, s =>
    if I 23 t < ar then s
    else em_s9 (if em_btr (em_kp (em_s1 s d t) d (em_vlg I t ar br)) (em_mg I (em_kp (em_s1 s d t) d (em_vlg I t ar br)).2.2.1 (nI (d + 1)) (em_vlg I t ar br) T).1 (em_mg I (em_kp (em_s1 s d t) d (em_vlg I t ar br)).2.2.1 (nI (d + 1)) (em_vlg I t ar br) T).2
      then em_fold (fun k s => if em_hs s.2.2.1 k then s else em_vis I T f (d + 1) k (em_lvg I t ar + I 25 (8 * t + k)) (br + I 24 t) s) T (em_kp (em_s1 s d t) d (em_vlg I t ar br))
      else em_kp (em_s1 s d t) d (em_vlg I t ar br)) t
theorem em_w8 {t k : Nat} : nI t * 8 + nI k = nI (8 * t + k) := by
  rw [show (8 : Int32) = nI 8 from rfl, pk_mul, nI_add, Nat.mul_comm]
section Fairs1
variable {Γ : em_Cx} {n m : Nat} {dl : Nat → Nat} {I : Nat → Nat → Int32} {J : Nat → Nat → Int64} {rv : em_Rv}
theorem em_fr27 {s : em_FS} {p : Nat → Int32} : em_sI (em_fr n m dl I J rv s) 27 p = em_fr n m dl I J rv (s.1, s.2.1, s.2.2.1, s.2.2.2.1, p) := by
  show em_hm n m dl (va_up (va_up (va_up (va_up I 21 _) 26 _) 27 _) 27 p) J rv = _
  rw [bx_uu]
theorem em_fr26 {s : em_FS} {b : Nat → Int32} : em_sI (em_fr n m dl I J rv s) 26 b = em_fr n m dl I J rv (s.1, s.2.1, s.2.2.1, b, s.2.2.2.2) := by
  show em_hm n m dl (va_up (va_up (va_up (va_up I 21 _) 26 _) 27 _) 26 b) J rv = _
  rw [em_u2 _ _ _ _ (by decide)]
theorem em_fr12 {s : em_FS} {x : Int32} : em_sI (em_fr n m dl I J rv s) 21 (va_up (em_fa (I 21) s) 12 x) = em_fr n m dl I J rv (s.1, s.2.1, x, s.2.2.2) := by
  show em_hm n m dl (va_up (va_up (va_up (va_up I 21 _) 26 _) 27 _) 21 (va_up (va_up (va_up (va_up (I 21) 9 s.1) 10 s.2.1) 12 s.2.2.1) 12 x)) J rv = _
  rw [em_u3 _ _ _ _ _ (by decide) (by decide), bx_uu]
theorem em_fr10 {s : em_FS} {x : Int32} : em_sI (em_fr n m dl I J rv s) 21 (va_up (em_fa (I 21) s) 10 x) = em_fr n m dl I J rv (s.1, x, s.2.2) := by
  show em_hm n m dl (va_up (va_up (va_up (va_up I 21 _) 26 _) 27 _) 21 (va_up (va_up (va_up (va_up (I 21) 9 s.1) 10 s.2.1) 12 s.2.2.1) 10 x)) J rv = _
  rw [em_u3 _ _ _ _ _ (by decide) (by decide), em_u2 _ _ _ _ (by decide)]
theorem em_fr9 {s : em_FS} {x : Int32} : em_sI (em_fr n m dl I J rv s) 21 (va_up (em_fa (I 21) s) 9 x) = em_fr n m dl I J rv (x, s.2) := by
  show em_hm n m dl (va_up (va_up (va_up (va_up I 21 _) 26 _) 27 _) 21 (va_up (va_up (va_up (va_up (I 21) 9 s.1) 10 s.2.1) 12 s.2.2.1) 9 x)) J rv = _
  rw [em_u3 _ _ _ _ _ (by decide) (by decide), em_u3 _ _ _ _ _ (by decide) (by decide)]
theorem s_isBetter (hB : 85 ≤ n) {s : em_FS} {c v : Int32} : em_MC Γ 0 mX1_isBetter [.ref 21, .int c, .int v] (em_fr n m dl I J rv s) (some (.int (if em_btr s c v then 1 else 0))) (em_fr n m dl I J rv s) := by
  refine em_MC_of (Nat.le_refl _) (Nat.le_refl _) (by decide +kernel) rfl (Nat.le_of_ble_eq_true rfl) ?_
  (repeat (refine em_pure hB kX1_isBetter rfl ?_))
  refine em_branch kX1_isBetter rfl (fun (h : s.2.1 < v) => ?_) (fun (h : ¬ s.2.1 < v) => ?_)
  · (repeat (refine em_pure hB kX1_isBetter rfl ?_))
    exact em_iret kX1_isBetter rfl rfl rfl (by rw [if_pos (show em_btr s c v from Or.inl h)])
  · (repeat (refine em_pure hB kX1_isBetter rfl ?_))
    refine em_branch kX1_isBetter rfl (fun (h2 : ¬ v = s.2.1) => ?_) (fun (h2 : ¬ ¬ v = s.2.1) => ?_)
    · (repeat (refine em_pure hB kX1_isBetter rfl ?_))
      exact em_iret kX1_isBetter rfl rfl rfl (by rw [if_neg (show ¬ em_btr s c v from fun z => z.elim h (fun z => h2 z.1))])
    · (repeat (refine em_pure hB kX1_isBetter rfl ?_))
      refine em_branch kX1_isBetter rfl (fun (h3 : s.1 ≤ c) => ?_) (fun (h3 : ¬ s.1 ≤ c) => ?_)
      · (repeat (refine em_pure hB kX1_isBetter rfl ?_))
        exact em_iret kX1_isBetter rfl rfl rfl (by rw [if_neg (show ¬ em_btr s c v from fun z => z.elim h (fun z => Int32.not_lt.mpr h3 z.2))])
      · (repeat (refine em_pure hB kX1_isBetter rfl ?_))
        exact em_iret kX1_isBetter rfl rfl rfl (by rw [if_pos (show em_btr s c v from Or.inr ⟨Decidable.not_not.mp h2, Int32.not_le.mp h3⟩)])
theorem s_mayGet (hB : 85 ≤ n) {s : em_FS} {c v : Int32} {T : Nat} (hT : I 21 0 = nI T) (hT8 : T ≤ 8) : em_MC Γ 1 mX1_mayGetBetter [.ref 21, .int c, .int v] (em_fr n m dl I J rv s) (some (.int (if em_btr s (em_mg I s.2.2.1 c v T).1 (em_mg I s.2.2.1 c v T).2 then 1 else 0))) (em_fr n m dl I J rv s) := by
  refine em_MC_of (Nat.le_refl _) (Nat.le_refl _) (by decide +kernel) rfl (Nat.le_of_ble_eq_true rfl) ?_
  have loop : ∀ e k, k + e = T → em_EW Γ 1 mX1_mayGetBetter (em_fr n m dl I J rv s) (some (.int (if em_btr s (em_mg I s.2.2.1 c v T).1 (em_mg I s.2.2.1 c v T).2 then 1 else 0)), em_fr n m dl I J rv s) 8 [(0, .ref 21), (1, .int c), (2, .int v), (3, .int (em_mg I s.2.2.1 c v k).1), (4, .int (em_mg I s.2.2.1 c v k).2), (5, .int (nI k))] [] (em_fr n m dl I J rv s) := by
    intro e
    induction e with
    | zero =>
      intro k hk
      obtain rfl : k = T := by omega
      (repeat (refine em_pure hB kX1_mayGetBetter rfl ?_))
      refine em_branch kX1_mayGetBetter rfl (fun _ => ?_) (fun z => absurd (by show I 21 0 ≤ nI k; rw [hT]; exact nI_le (Nat.le_refl k) (by omega)) z)
      (repeat (refine em_pure hB kX1_mayGetBetter rfl ?_))
      refine em_callV (μ' := mX1_isBetter) (c1 := 1) kX1_mayGetBetter rfl lX1_93 tX1_isBetter (by decide) rfl (em_ltB hB rfl) (s_isBetter hB (s := s) (c := (em_mg I s.2.2.1 c v k).1) (v := (em_mg I s.2.2.1 c v k).2)) rfl rfl (by decide) (Nat.le_of_ble_eq_true rfl) (Nat.le_refl _) (Nat.le_refl _) ?_
      exact em_iret kX1_mayGetBetter rfl rfl (by split <;> rfl) rfl
    | succ e ih =>
      intro k hk
      have ihk := ih (k + 1) (by omega)
      generalize em_mg I s.2.2.1 c v T = res at *
      rw [em_mg] at ihk
      (repeat (refine em_pure hB kX1_mayGetBetter rfl ?_))
      refine em_branch kX1_mayGetBetter rfl (fun z => absurd z (by show ¬ I 21 0 ≤ nI k; rw [hT]; exact nI_ge (by omega) (by omega))) (fun _ => ?_)
      (repeat (refine em_pure hB kX1_mayGetBetter rfl ?_))
      refine em_callS (μ' := mX7_has) kX1_mayGetBetter rfl lX1_90 tX7_has (s_has Γ _ s.2.2.1 (nI k)) rfl rfl (by decide) (Nat.le_of_ble_eq_true rfl) (Nat.le_refl _) (Nat.le_refl _) ?_
      refine em_bn kX1_mayGetBetter rfl (fun h => ?_) (fun h => ?_)
      · rw [if_pos (show em_hs s.2.2.1 k ∨ I 24 k ≤ 0 from Or.inl h)] at ihk
        (repeat (refine em_pureT 8 hB kX1_mayGetBetter rfl rfl ?_))
        refine em_loc (lc' := [(0, .ref 21), (1, .int c), (2, .int v), (3, .int (em_mg I s.2.2.1 c v k).1), (4, .int (em_mg I s.2.2.1 c v k).2), (5, .int (nI k + 1))]) rfl ?_
        rw [nI_1]
        exact ihk
      · (repeat (refine em_pure hB kX1_mayGetBetter rfl ?_))
        refine em_ia (L := 8) hB kX1_mayGetBetter rfl rfl rfl rfl rfl (show k < 8 by omega) rfl ?_
        refine em_branch kX1_mayGetBetter rfl (fun (h2 : I 24 k ≤ 0) => ?_) (fun (h2 : ¬ I 24 k ≤ 0) => ?_)
        · rw [if_pos (show em_hs s.2.2.1 k ∨ I 24 k ≤ 0 from Or.inr h2)] at ihk
          (repeat (refine em_pureT 8 hB kX1_mayGetBetter rfl rfl ?_))
          refine em_loc (lc' := [(0, .ref 21), (1, .int c), (2, .int v), (3, .int (em_mg I s.2.2.1 c v k).1), (4, .int (em_mg I s.2.2.1 c v k).2), (5, .int (nI k + 1))]) rfl ?_
          rw [nI_1]
          exact ihk
        · rw [if_neg (show ¬ (em_hs s.2.2.1 k ∨ I 24 k ≤ 0) from fun z => z.elim h h2)] at ihk
          (repeat (refine em_pure hB kX1_mayGetBetter rfl ?_))
          refine em_ia (L := 8) hB kX1_mayGetBetter rfl rfl rfl rfl rfl (show k < 8 by omega) rfl ?_
          (repeat (refine em_pureT 8 hB kX1_mayGetBetter rfl rfl ?_))
          refine em_loc (lc' := [(0, .ref 21), (1, .int c), (2, .int v), (3, .int ((em_mg I s.2.2.1 c v k).1 + 1)), (4, .int ((em_mg I s.2.2.1 c v k).2 + I 24 k)), (5, .int (nI k + 1))]) rfl ?_
          rw [nI_1]
          exact ihk
  (repeat (refine em_pureT 8 hB kX1_mayGetBetter rfl rfl ?_))
  refine em_loc (lc' := [(0, .ref 21), (1, .int c), (2, .int v), (3, .int c), (4, .int v), (5, .int (nI 0))]) rfl ?_
  exact loop T 0 (by omega)
theorem s_keep (hB : 85 ≤ n) {s : em_FS} {v : Int32} {d : Nat} (hd : d < 8) : em_MC Γ 2 mX1_keepIfBetter [.ref 21, .int (nI (d + 1)), .int v] (em_fr n m dl I J rv s) none (em_fr n m dl I J rv (em_kp s d v)) := by
  refine em_MC_of (Nat.le_refl _) (Nat.le_refl _) (by decide +kernel) rfl (Nat.le_of_ble_eq_true rfl) ?_
  (repeat (refine em_pure hB kX1_keepIfBetter rfl ?_))
  refine em_callV (μ' := mX1_isBetter) (c1 := 1) kX1_keepIfBetter rfl lX1_93 tX1_isBetter (by decide) rfl (em_ltB hB rfl) (s_isBetter hB (s := s) (c := nI (d + 1)) (v := v)) rfl rfl (by decide) (Nat.le_of_ble_eq_true rfl) (Nat.le_refl _) (Nat.le_refl _) ?_
  refine em_bz kX1_keepIfBetter rfl (fun h => ?_) (fun h => ?_)
  · rw [em_kp, if_pos h]
    (repeat (refine em_pure hB kX1_keepIfBetter rfl ?_))
    refine em_pi hB kX1_keepIfBetter rfl rfl rfl rfl rfl rfl rfl ?_
    refine em_hpE em_fr9 ?_
    (repeat (refine em_pure hB kX1_keepIfBetter rfl ?_))
    refine em_pi hB kX1_keepIfBetter rfl rfl rfl rfl rfl rfl rfl ?_
    refine em_hpE em_fr10 ?_
    (repeat (refine em_pure hB kX1_keepIfBetter rfl ?_))
    refine em_copyI (n := nI (d + 1)) kX1_keepIfBetter rfl lX1_96 rfl rfl (em_ltB hB rfl) (em_ltB hB rfl) (by decide) (by decide) (nI_pos (by omega)) (by rw [nI_clamp (by omega)]; show 0 + (d + 1) ≤ 8; omega) (by rw [nI_clamp (by omega)]; show 0 + (d + 1) ≤ 8; omega) (by decide) (Nat.le_of_ble_eq_true rfl) ?_
    rw [nI_clamp (by omega)]
    refine em_hpE em_fr26 ?_
    exact em_vret kX1_keepIfBetter rfl rfl rfl
  · rw [em_kp, if_neg h]
    (repeat (refine em_pure hB kX1_keepIfBetter rfl ?_))
    exact em_vret kX1_keepIfBetter rfl rfl rfl
theorem em_goOnC (hB : 85 ≤ n) {T K d t : Nat} {lv br : Int32} {g : Nat → em_FS → em_FS} (hT : I 21 0 = nI T) (hT8 : T ≤ 8) (ht : t < 8) (hV : ∀ k, k < T → ∀ s : em_FS, ¬ em_hs s.2.2.1 k → em_MC Γ K mX1_visit [.ref 21, .int (nI (d + 1)), .int (nI k), .int (lv + I 25 (8 * t + k)), .int br] (em_fr n m dl I J rv s) none (em_fr n m dl I J rv (g k s))) (s : em_FS) : em_MC Γ (K + 1) mX1_goOn [.ref 21, .int (nI d), .int (nI t), .int lv, .int br] (em_fr n m dl I J rv s) none (em_fr n m dl I J rv (em_fold (fun k s => if em_hs s.2.2.1 k then s else g k s) T s)) := by
  refine em_MC_of (Nat.le_refl _) (Nat.le_refl _) (by decide +kernel) rfl (Nat.le_of_ble_eq_true rfl) ?_
  have loop : ∀ e k, k + e = T → em_EW Γ (K + 1) mX1_goOn (em_fr n m dl I J rv s) (none, em_fr n m dl I J rv (em_fold (fun k s => if em_hs s.2.2.1 k then s else g k s) T s)) 3 [(0, .ref 21), (1, .int (nI d)), (2, .int (nI t)), (3, .int lv), (4, .int br), (5, .int (nI k))] [] (em_fr n m dl I J rv (em_fold (fun k s => if em_hs s.2.2.1 k then s else g k s) k s)) := by
    intro e
    induction e with
    | zero =>
      intro k hk
      obtain rfl : k = T := by omega
      (repeat (refine em_pure hB kX1_goOn rfl ?_))
      refine em_branch kX1_goOn rfl (fun _ => ?_) (fun z => absurd (by show I 21 0 ≤ nI k; rw [hT]; exact nI_le (Nat.le_refl k) (by omega)) z)
      (repeat (refine em_pure hB kX1_goOn rfl ?_))
      exact em_vret kX1_goOn rfl rfl rfl
    | succ e ih =>
      intro k hk
      have ihk := ih (k + 1) (by omega)
      generalize em_fold (fun k s => if em_hs s.2.2.1 k then s else g k s) T s = res at *
      rw [em_fold] at ihk
      generalize em_fold (fun k s => if em_hs s.2.2.1 k then s else g k s) k s = s1 at *
      (repeat (refine em_pure hB kX1_goOn rfl ?_))
      refine em_branch kX1_goOn rfl (fun z => absurd z (by show ¬ I 21 0 ≤ nI k; rw [hT]; exact nI_ge (by omega) (by omega))) (fun _ => ?_)
      (repeat (refine em_pure hB kX1_goOn rfl ?_))
      refine em_callS (μ' := mX7_has) kX1_goOn rfl lX1_90 tX7_has (s_has Γ _ s1.2.2.1 (nI k)) rfl rfl (by omega) (Nat.le_of_ble_eq_true rfl) (Nat.le_refl _) (Nat.le_refl _) ?_
      refine em_bn kX1_goOn rfl (fun h => ?_) (fun h => ?_)
      · rw [if_pos h] at ihk
        (repeat (refine em_pureT 3 hB kX1_goOn rfl rfl ?_))
        refine em_loc (lc' := [(0, .ref 21), (1, .int (nI d)), (2, .int (nI t)), (3, .int lv), (4, .int br), (5, .int (nI k + 1))]) rfl ?_
        rw [nI_1]
        exact ihk
      · rw [if_neg h] at ihk
        (repeat (refine em_pure hB kX1_goOn rfl ?_))
        refine em_ia (L := 64) hB kX1_goOn rfl rfl rfl rfl em_w8 (show 8 * t + k < 64 by omega) rfl ?_
        have hv := hV k (by omega) s1 h
        rw [← nI_1] at hv
        (repeat (refine em_pure hB kX1_goOn rfl ?_))
        refine em_callV (μ' := mX1_visit) (c1 := 1) kX1_goOn rfl lX1_70 tX1_visit (by decide) rfl (em_ltB hB rfl) hv rfl rfl (Nat.le_refl _) (Nat.le_of_ble_eq_true rfl) (Nat.le_refl _) (Nat.le_refl _) ?_
        (repeat (refine em_pureT 3 hB kX1_goOn rfl rfl ?_))
        refine em_loc (lc' := [(0, .ref 21), (1, .int (nI d)), (2, .int (nI t)), (3, .int lv), (4, .int br), (5, .int (nI k + 1))]) rfl ?_
        rw [nI_1]
        exact ihk
  (repeat (refine em_pureT 3 hB kX1_goOn rfl rfl ?_))
  refine em_loc (lc' := [(0, .ref 21), (1, .int (nI d)), (2, .int (nI t)), (3, .int lv), (4, .int br), (5, .int (nI 0))]) rfl ?_
  exact loop T 0 (by omega)
theorem s_visit (hB : 85 ≤ n) {T : Nat} (hT : I 21 0 = nI T) (hT8 : T ≤ 8) : ∀ (f d t : Nat) (ar br : Int32) (s : em_FS), d + f = 8 → t < T → em_MC Γ (2 * f + 2) mX1_visit [.ref 21, .int (nI d), .int (nI t), .int ar, .int br] (em_fr n m dl I J rv s) none (em_fr n m dl I J rv (em_vis I T f d t ar br s)) := by
  intro f
  induction f with
  | zero =>
    intro d t ar br s hd ht
    obtain rfl : d = 8 := by omega
    refine em_MC_of (Nat.le_refl _) (Nat.le_refl _) (by decide +kernel) rfl (Nat.le_of_ble_eq_true rfl) ?_
    (repeat (refine em_pure hB kX1_visit rfl ?_))
    refine em_branch kX1_visit rfl (fun _ => ?_) (fun z => absurd (by decide) z)
    (repeat (refine em_pure hB kX1_visit rfl ?_))
    exact em_vret kX1_visit rfl rfl rfl
  | succ f ih =>
    intro d t ar br s hd ht
    refine em_MC_of (Nat.le_refl _) (Nat.le_refl _) (by decide +kernel) rfl (Nat.le_of_ble_eq_true rfl) ?_
    rw [em_vis]
    (repeat (refine em_pure hB kX1_visit rfl ?_))
    refine em_branch kX1_visit rfl (fun (z : (8 : Int32) ≤ nI d) => absurd z (nI_ge (b := 8) (by omega) (by omega))) (fun _ => ?_)
    (repeat (refine em_pure hB kX1_visit rfl ?_))
    refine em_ia (L := 8) hB kX1_visit rfl rfl rfl rfl rfl (show t < 8 by omega) rfl ?_
    refine em_branch kX1_visit rfl (fun (h : ar ≤ I 23 t) => ?_) (fun (h : ¬ ar ≤ I 23 t) => ?_)
    case refine_2 =>
      rw [if_pos (show I 23 t < ar from Int32.not_le.mp h)]
      (repeat (refine em_pure hB kX1_visit rfl ?_))
      exact em_vret kX1_visit rfl rfl rfl
    rw [if_neg (show ¬ I 23 t < ar from Int32.not_lt.mpr h)]
    (repeat (refine em_pure hB kX1_visit rfl ?_))
    refine em_ia (L := 8) hB kX1_visit rfl rfl rfl rfl rfl (show t < 8 by omega) rfl ?_
    refine em_mmax (x := ar) (y := I 22 t) kX1_visit rfl lM1 rfl (by omega) (Nat.le_of_ble_eq_true rfl) (Nat.le_refl _) (Nat.le_refl _) ?_
    (repeat (refine em_pure hB kX1_visit rfl ?_))
    refine em_ia (L := 8) hB kX1_visit rfl rfl rfl rfl rfl (show t < 8 by omega) rfl ?_
    (repeat (refine em_pure hB kX1_visit rfl ?_))
    refine em_iw (L := 8) hB kX1_visit rfl rfl rfl rfl rfl (show d < 8 by omega) rfl ?_
    refine em_hpE em_fr27 ?_
    (repeat (refine em_pure hB kX1_visit rfl ?_))
    refine em_pi hB kX1_visit rfl rfl rfl rfl rfl rfl rfl ?_
    refine em_hpE em_fr12 ?_
    refine em_loc (lc' := [(0, .ref 21), (1, .int (nI d)), (2, .int (nI t)), (3, .int ar), (4, .int br), (5, .int (em_lvg I t ar)), (6, .int (br + I 24 t)), (7, .int (em_vlg I t ar br))]) rfl ?_
    refine em_hpE (hp' := em_fr n m dl I J rv (em_s1 s d t)) rfl ?_
    have fold := em_goOnC (Γ := Γ) (n := n) (m := m) (dl := dl) (I := I) (J := J) (rv := rv) hB (T := T) (K := 2 * f + 2) (d := d) (t := t) (lv := em_lvg I t ar) (br := br + I 24 t) (g := fun k s => em_vis I T f (d + 1) k (em_lvg I t ar + I 25 (8 * t + k)) (br + I 24 t) s) hT hT8 (by omega) (fun k hk s _ => ih (d + 1) k _ _ s (by omega) hk) (em_kp (em_s1 s d t) d (em_vlg I t ar br))
    generalize hv : em_vlg I t ar br = v at *
    generalize em_lvg I t ar = lv at *
    generalize em_s1 s d t = s1 at *
    have hkp := s_keep (Γ := Γ) (m := m) (dl := dl) (I := I) (J := J) (rv := rv) hB (s := s1) (v := v) (show d < 8 by omega)
    rw [← nI_1] at hkp
    (repeat (refine em_pure hB kX1_visit rfl ?_))
    refine em_callV (μ' := mX1_keepIfBetter) (c1 := 1) kX1_visit rfl lX1_80 tX1_keepIfBetter (by decide) rfl (em_ltB hB rfl) hkp rfl rfl (by omega) (Nat.le_of_ble_eq_true rfl) (Nat.le_refl _) (Nat.le_refl _) ?_
    generalize em_kp s1 d v = s2 at *
    (repeat (refine em_pure hB kX1_visit rfl ?_))
    refine em_callV (μ' := mX1_mayGetBetter) (c1 := 1) kX1_visit rfl lX1_84 tX1_mayGetBetter (by decide) rfl (em_ltB hB rfl) (s_mayGet hB (s := s2) (c := nI d + 1) (v := v) hT hT8) rfl rfl (by omega) (Nat.le_of_ble_eq_true rfl) (Nat.le_refl _) (Nat.le_refl _) ?_
    rw [nI_1]
    have last : ∀ s3 : em_FS, em_EW Γ (2 * (f + 1) + 2) mX1_visit (em_fr n m dl I J rv s) (none, em_fr n m dl I J rv (em_s9 s3 t)) 109 [(0, .ref 21), (1, .int (nI d)), (2, .int (nI t))] [] (em_fr n m dl I J rv s3) := by
      intro s3
      (repeat (refine em_pure hB kX1_visit rfl ?_))
      refine em_pi hB kX1_visit rfl rfl rfl rfl rfl rfl rfl ?_
      refine em_hpE em_fr12 ?_
      exact em_vret kX1_visit rfl rfl rfl
    refine em_bz kX1_visit rfl (fun h => ?_) (fun h => ?_)
    · rw [if_pos h]
      (repeat (refine em_pure hB kX1_visit rfl ?_))
      refine em_callV (μ' := mX1_goOn) (c1 := 1) kX1_visit rfl lX1_87 tX1_goOn (by decide) rfl (em_ltB hB rfl) fold rfl rfl (by omega) (Nat.le_of_ble_eq_true rfl) (Nat.le_refl _) (Nat.le_refl _) ?_
      exact em_loc rfl (last _)
    · rw [if_neg h]
      exact em_loc rfl (last _)
end Fairs1
