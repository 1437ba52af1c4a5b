/-! THE REFERENCE'S LAW, MAY, FEE -/
theorem em_mx1 : Cond.static Lib.Math.max.name ∈ lw_tbl := by decide +kernel
theorem em_mx2 : Cond.initialized "java/lang/Math" ∈ lw_tbl := by decide +kernel
theorem em_mx3 : Cond.code Lib.Math.max.name Lib.Math.max.code 2 (some .int) ∈ lw_tbl := by decide +kernel
theorem em_mn1 : Cond.static Lib.Math.min.name ∈ lw_tbl := by decide +kernel
theorem em_mn3 : Cond.code Lib.Math.min.name Lib.Math.min.code 2 (some .int) ∈ lw_tbl := by decide +kernel
theorem lM0 : Cond.methodLink RX0 49 Lib.Math.max.name ∈ lw_tbl := em_in (k := 357) (by decide +kernel)
theorem lM1 : Cond.methodLink RX1 74 Lib.Math.max.name ∈ lw_tbl := em_in (k := 533) (by decide +kernel)
theorem lM4 : Cond.methodLink RX4 53 Lib.Math.max.name ∈ lw_tbl := em_in (k := 735) (by decide +kernel)
theorem lM8 : Cond.methodLink RX8 167 Lib.Math.max.name ∈ lw_tbl := em_in (k := 1104) (by decide +kernel)
theorem lN0 : Cond.methodLink RX0 43 Lib.Math.min.name ∈ lw_tbl := em_in (k := 354) (by decide +kernel)
theorem lN7 : Cond.methodLink RJ7 304 Lib.Math.min.name ∈ lw_tbl := em_in (k := 370) (by decide +kernel)
section EmMax
variable {Γ : em_Cx} {K : Nat} {μ : em_Me} {hp0 : em_Hp} {fin : Option Value × em_Hp} {pc a nx : Nat} {lc : List (Nat × Value)} {st t : List Value} {hp : em_Hp}
theorem em_mmax {x y : Int32} (hok : em_ok μ) (h : em_at1 80 μ pc = some (a, nx)) (hl0 : Cond.methodLink (em_own μ) a Lib.Math.max.name ∈ lw_tbl) (hst : st = .int y :: .int x :: t) (hK : 1 ≤ K) (hcat : em_cats t ≤ 8) (f1 : em_n hp ≤ em_n fin.2) (f2 : em_m hp ≤ em_m fin.2)
    (kk : em_EW Γ K μ hp0 fin nx lc (.int (if x < y then y else x) :: t) hp) : em_EW Γ K μ hp0 fin pc lc st hp := by
  obtain ⟨b, hi⟩ := em_at1_i h
  obtain ⟨ii, len, hd, hdec, hnx⟩ := hok.dec hi
  subst hnx
  cases hd
  subst hst
  intro p e s m args below meth c hx hb hr hlk hml hown hnm hG hs H locs cells slots ls hW hlo hcl hsl hl
  refine va_mmax hx hb (by rw [hml]; exact hl.1.symm) hown (hG.1 _ hl0 rfl args) (hG.1 _ em_mx1 rfl args) (hG.1 _ em_mx2 rfl args) (hG.1 _ em_mx3 rfl args) (show 1 ≤ K from hK) (by
    rw [em_cats1]
    show _ ≤ 40 * K
    omega) (show cells ≤ em_n fin.2 - em_n hp0 by omega) (show slots ≤ em_m fin.2 - em_m hp0 by omega) (rest := t.map (em_v Γ)) hdec ?_
  exact kk p e s m args below meth c hx hb hr hlk hml hown hnm hG hs H locs cells slots ls hW hlo hcl hsl hl
theorem em_mmin {x y : Int32} (hok : em_ok μ) (h : em_at1 80 μ pc = some (a, nx)) (hl0 : Cond.methodLink (em_own μ) a Lib.Math.min.name ∈ lw_tbl) (hst : st = .int y :: .int x :: t) (hK : 1 ≤ K) (hcat : em_cats t ≤ 8) (f1 : em_n hp ≤ em_n fin.2) (f2 : em_m hp ≤ em_m fin.2)
    (kk : em_EW Γ K μ hp0 fin nx lc (.int (if y < x then y else x) :: t) hp) : em_EW Γ K μ hp0 fin pc lc st hp := by
  obtain ⟨b, hi⟩ := em_at1_i h
  obtain ⟨ii, len, hd, hdec, hnx⟩ := hok.dec hi
  subst hnx
  cases hd
  subst hst
  intro p e s m args below meth c hx hb hr hlk hml hown hnm hG hs H locs cells slots ls hW hlo hcl hsl hl
  refine va_mmin hx hb (by rw [hml]; exact hl.1.symm) hown (hG.1 _ hl0 rfl args) (hG.1 _ em_mn1 rfl args) (hG.1 _ em_mx2 rfl args) (hG.1 _ em_mn3 rfl args) (show 1 ≤ K from hK) (by
    rw [em_cats1]
    show _ ≤ 40 * K
    omega) (show cells ≤ em_n fin.2 - em_n hp0 by omega) (show slots ≤ em_m fin.2 - em_m hp0 by omega) (rest := t.map (em_v Γ)) hdec ?_
  exact kk p e s m args below meth c hx hb hr hlk hml hown hnm hG hs H locs cells slots ls hW hlo hcl hsl hl
end EmMax
def em_ex (P : Nat → Bool) : Nat → Bool
  | 0 => false
  | n + 1 => em_ex P n || P n
theorem em_ex_no {P : Nat → Bool} : ∀ {N : Nat}, em_ex P N = false ↔ ∀ j, j < N → P j = false
  | 0 => by simp [em_ex]
  | N + 1 => by
    rw [em_ex, Bool.or_eq_false_iff, em_ex_no (N := N)]
    constructor
    · intro h j hj
      by_cases e : j = N
      · rw [e]; exact h.2
      · exact h.1 j (by omega)
    · intro h
      exact ⟨fun j hj => h j (by omega), h N (by omega)⟩
theorem em_ex_yes {P : Nat → Bool} {N j : Nat} (hj : j < N) (h : P j = true) : em_ex P N = true := by
  cases e : em_ex P N with
  | true => rfl
  | false => rw [em_ex_no.mp e j hj] at h; cases h
theorem em_cpy0 {α : Type} (f g : Nat → α) (b : Nat) : va_cpy f g 0 b 0 = g := by
  funext q
  rw [va_cpy, if_neg (by omega)]
theorem em_cpyS {α : Type} (f g : Nat → α) (b k : Nat) : va_up (va_cpy f g 0 b k) (b + k) (f k) = va_cpy f g 0 b (k + 1) := by
  funext q
  by_cases h : q = b + k
  · rw [h, va_up_self, va_cpy, if_pos (by omega), show 0 + (b + k - b) = k by omega]
  · rw [va_up_ne _ _ h, va_cpy, va_cpy]
    by_cases h2 : b ≤ q ∧ q < b + k
    · rw [if_pos h2, if_pos (by omega)]
    · rw [if_neg h2, if_neg (by omega)]
theorem em_w5 {t k : Nat} : 5 * nI t + nI k = nI (5 * t + k) := by
  rw [show (5 : Int32) = nI 5 from rfl, pk_mul, nI_add]
theorem em_w5' {t : Nat} : 5 * nI t = nI (5 * t) := by
  rw [show (5 : Int32) = nI 5 from rfl, pk_mul]
section MLaw
variable {Γ : em_Cx} {n m : Nat} {dl : Nat → Nat} {I : Nat → Nat → Int32} {J : Nat → Nat → Int64} {rv : em_Rv}
theorem s_mLaw_nt (hB : 85 ≤ n) {x : Int32} (h : ¬ (0 ≤ x ∧ x ≤ I 53 4 - 1)) : em_MC Γ 7 mX8_law [.ref 53, .int x] (em_hm n m dl I J rv) (some (.int 0)) (em_hm n m dl I J rv) := by
  refine em_MC_of (Nat.le_refl _) (Nat.le_refl _) (by decide +kernel) rfl (Nat.le_of_ble_eq_true rfl) ?_
  (repeat (refine em_pure hB kX8_law rfl ?_))
  refine em_callV (μ' := mX8_isTown) (c1 := 8) kX8_law rfl lX8_161 tX8_isTown (by decide) rfl (em_ltB hB rfl) (s_mIsTown hB x) rfl rfl (by decide) (Nat.le_of_ble_eq_true rfl) (Nat.le_refl _) (Nat.le_refl _) ?_
  refine em_bz kX8_law rfl (fun h1 => absurd h1 h) (fun _ => ?_)
  (repeat (refine em_pure hB kX8_law rfl ?_))
  exact em_iret kX8_law rfl rfl rfl rfl
theorem s_mLaw_no (hB : 85 ≤ n) {x : Int32} (h : 0 ≤ x ∧ x ≤ I 53 4 - 1) {r F : Int32} {N : Nat → Int32} (hr : ¬ r = -1) (hM : em_MC Γ 6 mX8_fault [.ref 53] (em_hm n m dl I J rv) (some (.int r)) (em_lm n m dl I J rv F N)) : em_MC Γ 7 mX8_law [.ref 53, .int x] (em_hm n m dl I J rv) (some (.int 0)) (em_lm n m dl I J rv F N) := by
  refine em_MC_of (Nat.le_refl _) (Nat.le_refl _) (by decide +kernel) rfl (Nat.le_of_ble_eq_true rfl) ?_
  (repeat (refine em_pure hB kX8_law rfl ?_))
  refine em_callV (μ' := mX8_isTown) (c1 := 8) kX8_law rfl lX8_161 tX8_isTown (by decide) rfl (em_ltB hB rfl) (s_mIsTown hB x) rfl rfl (by decide) (Nat.le_of_ble_eq_true rfl) (Nat.le_refl _) (Nat.le_refl _) ?_
  refine em_bz kX8_law rfl (fun _ => ?_) (fun h1 => absurd h h1)
  (repeat (refine em_pure hB kX8_law rfl ?_))
  refine em_callV (μ' := mX8_fault) (c1 := 8) kX8_law rfl lX8_237 tX8_fault (by decide) rfl (em_ltB hB rfl) hM rfl rfl (by decide) (Nat.le_of_ble_eq_true rfl) (Nat.le_refl _) (Nat.le_refl _) ?_
  (repeat (refine em_pure hB kX8_law rfl ?_))
  refine em_branch kX8_law rfl (fun h1 => absurd h1 hr) (fun _ => ?_)
  (repeat (refine em_pure hB kX8_law rfl ?_))
  exact em_iret kX8_law rfl rfl rfl rfl
abbrev em_lwM (I : Nat → Nat → Int32) (t : Nat) (F : Int32) (N : Nat → Int32) (k : Nat) : Nat → Nat → Int32 := va_up (va_up (va_up (va_up (va_up I 53 (va_up (I 53) 39 F)) 81 N) 80 (va_up (I 80) t 1)) 78 (va_up (I 78) t F)) 79 (va_cpy N (I 79) 0 (5 * t) k)
theorem s_mLaw_ok (hB : 85 ≤ n) {t : Nat} (ht : t < 8) (h : 0 ≤ nI t ∧ nI t ≤ I 53 4 - 1) {F : Int32} {N : Nat → Int32} (hM : em_MC Γ 6 mX8_fault [.ref 53] (em_hm n m dl I J rv) (some (.int (-1))) (em_lm n m dl I J rv F N)) : em_MC Γ 7 mX8_law [.ref 53, .int (nI t)] (em_hm n m dl I J rv) (some (.int 1)) (em_hm n m dl (va_up (em_lwM I t F N 5) 53 (va_up (va_up (I 53) 39 F) 35 0)) J rv) := by
  refine em_MC_of (Nat.le_refl _) (Nat.le_refl _) (by decide +kernel) rfl (Nat.le_of_ble_eq_true rfl) ?_
  (repeat (refine em_pure hB kX8_law rfl ?_))
  refine em_callV (μ' := mX8_isTown) (c1 := 8) kX8_law rfl lX8_161 tX8_isTown (by decide) rfl (em_ltB hB rfl) (s_mIsTown hB (nI t)) rfl rfl (by decide) (Nat.le_of_ble_eq_true rfl) (Nat.le_refl _) (Nat.le_refl _) ?_
  refine em_bz kX8_law rfl (fun _ => ?_) (fun h1 => absurd h h1)
  (repeat (refine em_pure hB kX8_law rfl ?_))
  refine em_callV (μ' := mX8_fault) (c1 := 8) kX8_law rfl lX8_237 tX8_fault (by decide) rfl (em_ltB hB rfl) hM rfl rfl (by decide) (Nat.le_of_ble_eq_true rfl) (Nat.le_refl _) (Nat.le_refl _) ?_
  (repeat (refine em_pure hB kX8_law rfl ?_))
  refine em_branch kX8_law rfl (fun _ => ?_) (fun h1 => absurd rfl h1)
  (repeat (refine em_pure hB kX8_law rfl ?_))
  refine em_zw (L := 8) hB kX8_law rfl rfl rfl rfl rfl ht rfl (Or.inr rfl) ?_
  (repeat (refine em_pure hB kX8_law rfl ?_))
  refine em_iw (L := 8) hB kX8_law rfl rfl rfl rfl rfl ht rfl ?_
  have loop : ∀ d k, k + d = 5 → em_EW Γ 7 mX8_law (em_hm n m dl I J rv) (some (.int 1), em_hm n m dl (va_up (em_lwM I t F N 5) 53 (va_up (va_up (I 53) 39 F) 35 0)) J rv) 37 [(0, .ref 53), (1, .int (nI t)), (2, .int (nI k))] [] (em_hm n m dl (em_lwM I t F N k) J rv) := by
    intro d
    induction d with
    | zero =>
      intro k hk
      obtain rfl : k = 5 := by omega
      (repeat (refine em_pure hB kX8_law rfl ?_))
      refine em_branch kX8_law rfl (fun _ => ?_) (fun h => absurd (by decide) h)
      (repeat (refine em_pure hB kX8_law rfl ?_))
      refine em_pi hB kX8_law rfl rfl rfl rfl rfl rfl rfl ?_
      (repeat (refine em_pure hB kX8_law rfl ?_))
      exact em_iret kX8_law rfl rfl rfl rfl
    | succ d ih =>
      intro k hk
      (repeat (refine em_pure hB kX8_law rfl ?_))
      refine em_branch kX8_law rfl (fun (h : (5 : Int32) ≤ nI k) => absurd h (nI_ge (b := 5) (by omega) (by omega))) (fun _ => ?_)
      (repeat (refine em_pure hB kX8_law rfl ?_))
      refine em_ia (L := 5) hB kX8_law rfl rfl rfl rfl rfl (show k < 5 by omega) rfl ?_
      (repeat (refine em_pure hB kX8_law rfl ?_))
      refine em_iw (L := 40) hB kX8_law rfl rfl rfl rfl em_w5 (show 5 * t + k < 40 by omega) rfl ?_
      refine em_hpE (hp' := em_hm n m dl (em_lwM I t F N (k + 1)) J rv) ((em_sI2 (em_hm n m dl (va_up (va_up (va_up (va_up I 53 (va_up (I 53) 39 F)) 81 N) 80 (va_up (I 80) t 1)) 78 (va_up (I 78) t F)) J rv) 79 _ _).trans (by show _ = em_sI (em_hm n m dl (va_up (va_up (va_up (va_up I 53 (va_up (I 53) 39 F)) 81 N) 80 (va_up (I 80) t 1)) 78 (va_up (I 78) t F)) J rv) 79 (va_cpy N (I 79) 0 (5 * t) (k + 1)); rw [← em_cpyS]; rfl)) ?_
      (repeat (refine em_pureT 37 hB kX8_law rfl rfl ?_))
      refine em_loc (lc' := [(0, .ref 53), (1, .int (nI t)), (2, .int (nI k + 1))]) rfl ?_
      rw [nI_1]
      exact ih (k + 1) (by omega)
  (repeat (refine em_pureT 37 hB kX8_law rfl rfl ?_))
  refine em_loc (lc' := [(0, .ref 53), (1, .int (nI t)), (2, .int (nI 0))]) rfl ?_
  refine em_hpE (hp' := em_hm n m dl (em_lwM I t F N 0) J rv) (by rw [em_lwM, em_cpy0]; exact (em_sI_id (em_hm n m dl (va_up (va_up (va_up (va_up I 53 (va_up (I 53) 39 F)) 81 N) 80 (va_up (I 80) t 1)) 78 (va_up (I 78) t F)) J rv) 79).symm) ?_
  exact loop 5 0 (by omega)
def em_mfb (I : Nat → Nat → Int32) (G t : Nat) (b : Nat) : Bool := decide (em_msd I G b (I 53 0) (I 53 0) ∧ (I 78 t >>> (I 56 b &&& 31)) &&& 1 = 1)
def em_mMay (I : Nat → Nat → Int32) (G N t : Nat) (h : Int32) : Int32 :=
  if I 80 t = 0 then 0 else if em_ex (em_mfb I G t) N = true then 1 else if ¬ I 79 (5 * t) = -1 ∧ I 79 (5 * t) < em_mhn I G N then 2 else if (¬ I 79 (5 * t + 3) = -1 ∧ h < I 79 (5 * t + 3)) ∨ (¬ I 79 (5 * t + 4) = -1 ∧ I 79 (5 * t + 4) < h) then 3 else 0
theorem s_mMay_no (hB : 85 ≤ n) {x y : Int32} (h : ¬ ((0 ≤ x ∧ x ≤ I 53 4 - 1) ∧ (0 ≤ y ∧ y ≤ 23))) : em_MC Γ 2 mX8_may [.ref 53, .int x, .int y] (em_hm n m dl I J rv) (some (.int (-1))) (em_hm n m dl I J rv) := by
  refine em_MC_of (Nat.le_refl _) (Nat.le_refl _) (by decide +kernel) rfl (Nat.le_of_ble_eq_true rfl) ?_
  (repeat (refine em_pure hB kX8_may rfl ?_))
  refine em_callV (μ' := mX8_isTown) (c1 := 8) kX8_may rfl lX8_161 tX8_isTown (by decide) rfl (em_ltB hB rfl) (s_mIsTown hB x) rfl rfl (by decide) (Nat.le_of_ble_eq_true rfl) (Nat.le_refl _) (Nat.le_refl _) ?_
  refine em_bz kX8_may rfl (fun h1 => ?_) (fun _ => ?_)
  · (repeat (refine em_pure hB kX8_may rfl ?_))
    refine em_callS (μ' := mX8_in) kX8_may rfl lX8_112 tX8_in (s_in Γ _ y 0 23) rfl rfl (by decide) (Nat.le_of_ble_eq_true rfl) (Nat.le_refl _) (Nat.le_refl _) ?_
    refine em_bn kX8_may rfl (fun h2 => absurd ⟨h1, h2⟩ h) (fun _ => ?_)
    (repeat (refine em_pure hB kX8_may rfl ?_))
    exact em_iret kX8_may rfl rfl rfl rfl
  · (repeat (refine em_pure hB kX8_may rfl ?_))
    exact em_iret kX8_may rfl rfl rfl rfl
theorem s_mMay_ok (hB : 85 ≤ n) {t N G : Nat} {y : Int32} (ht : t < 8) (h1 : 0 ≤ nI t ∧ nI t ≤ I 53 4 - 1) (h2 : 0 ≤ y ∧ y ≤ 23) (hx : I 53 1 = nI N) (hN : N ≤ 40) (hg : I 53 2 = nI G) (hG : G ≤ 200) : em_MC Γ 2 mX8_may [.ref 53, .int (nI t), .int y] (em_hm n m dl I J rv) (some (.int (em_mMay I G N t y))) (em_hm n m dl I J rv) := by
  refine em_MC_of (Nat.le_refl _) (Nat.le_refl _) (by decide +kernel) rfl (Nat.le_of_ble_eq_true rfl) ?_
  (repeat (refine em_pure hB kX8_may rfl ?_))
  refine em_callV (μ' := mX8_isTown) (c1 := 8) kX8_may rfl lX8_161 tX8_isTown (by decide) rfl (em_ltB hB rfl) (s_mIsTown hB (nI t)) rfl rfl (by decide) (Nat.le_of_ble_eq_true rfl) (Nat.le_refl _) (Nat.le_refl _) ?_
  refine em_bz kX8_may rfl (fun _ => ?_) (fun h => absurd h1 h)
  (repeat (refine em_pure hB kX8_may rfl ?_))
  refine em_callS (μ' := mX8_in) kX8_may rfl lX8_112 tX8_in (s_in Γ _ y 0 23) rfl rfl (by decide) (Nat.le_of_ble_eq_true rfl) (Nat.le_refl _) (Nat.le_refl _) ?_
  refine em_bn kX8_may rfl (fun _ => ?_) (fun h => absurd h2 h)
  (repeat (refine em_pure hB kX8_may rfl ?_))
  refine em_za (L := 8) hB kX8_may rfl rfl rfl rfl rfl ht rfl ?_
  refine em_branch kX8_may rfl (fun (h : ¬ I 80 t = 0) => ?_) (fun (h : ¬ ¬ I 80 t = 0) => ?_)
  case refine_2 =>
    (repeat (refine em_pure hB kX8_may rfl ?_))
    exact em_iret kX8_may rfl rfl rfl (by rw [em_mMay, if_pos (Decidable.not_not.mp h)])
  have back : em_ex (em_mfb I G t) N = false → em_EW Γ 2 mX8_may (em_hm n m dl I J rv) (some (.int (em_mMay I G N t y)), em_hm n m dl I J rv) 84 [(0, .ref 53), (1, .int (nI t)), (2, .int y)] [] (em_hm n m dl I J rv) := by
    intro hex
    have hex2 : ¬ em_ex (em_mfb I G t) N = true := by rw [hex]; decide
    (repeat (refine em_pure hB kX8_may rfl ?_))
    refine em_ia (L := 40) hB kX8_may rfl rfl rfl rfl em_w5' (show 5 * t < 40 by omega) rfl ?_
    (repeat (refine em_pureT 93 hB kX8_may rfl rfl ?_))
    have last : ¬ (¬ I 79 (5 * t) = -1 ∧ I 79 (5 * t) < em_mhn I G N) → em_EW Γ 2 mX8_may (em_hm n m dl I J rv) (some (.int (em_mMay I G N t y)), em_hm n m dl I J rv) 108 [(0, .ref 53), (1, .int (nI t)), (2, .int y), (3, .int (I 79 (5 * t)))] [] (em_hm n m dl I J rv) := by
      intro hno
      have e3 : (¬ I 79 (5 * t + 3) = -1 ∧ y < I 79 (5 * t + 3)) ∨ (¬ I 79 (5 * t + 4) = -1 ∧ I 79 (5 * t + 4) < y) → em_mMay I G N t y = 3 := fun z => by rw [em_mMay, if_neg h, if_neg hex2, if_neg hno, if_pos z]
      have e0 : ¬ ((¬ I 79 (5 * t + 3) = -1 ∧ y < I 79 (5 * t + 3)) ∨ (¬ I 79 (5 * t + 4) = -1 ∧ I 79 (5 * t + 4) < y)) → em_mMay I G N t y = 0 := fun z => by rw [em_mMay, if_neg h, if_neg hex2, if_neg hno, if_neg z]
      generalize em_mMay I G N t y = res at *
      (repeat (refine em_pure hB kX8_may rfl ?_))
      refine em_ia (L := 40) hB kX8_may rfl rfl rfl rfl (em_w5 (k := 3)) (show 5 * t + 3 < 40 by omega) rfl ?_
      (repeat (refine em_pure hB kX8_may rfl ?_))
      refine em_ia (L := 40) hB kX8_may rfl rfl rfl rfl (em_w5 (k := 4)) (show 5 * t + 4 < 40 by omega) rfl ?_
      (repeat (refine em_pure hB kX8_may rfl ?_))
      have fin3 : ((¬ I 79 (5 * t + 3) = -1 ∧ y < I 79 (5 * t + 3)) ∨ (¬ I 79 (5 * t + 4) = -1 ∧ I 79 (5 * t + 4) < y)) → ∀ lc, em_EW Γ 2 mX8_may (em_hm n m dl I J rv) (some (.int res), em_hm n m dl I J rv) 156 lc [] (em_hm n m dl I J rv) := by
        intro z lc
        (repeat (refine em_pure hB kX8_may rfl ?_))
        exact em_iret kX8_may rfl rfl rfl (by rw [e3 z])
      have fin0 : ¬ ((¬ I 79 (5 * t + 3) = -1 ∧ y < I 79 (5 * t + 3)) ∨ (¬ I 79 (5 * t + 4) = -1 ∧ I 79 (5 * t + 4) < y)) → ∀ lc, em_EW Γ 2 mX8_may (em_hm n m dl I J rv) (some (.int res), em_hm n m dl I J rv) 160 lc [] (em_hm n m dl I J rv) := by
        intro z lc
        (repeat (refine em_pure hB kX8_may rfl ?_))
        exact em_iret kX8_may rfl rfl rfl (by rw [e0 z])
      have hi : ¬ (¬ I 79 (5 * t + 3) = -1 ∧ y < I 79 (5 * t + 3)) → em_EW Γ 2 mX8_may (em_hm n m dl I J rv) (some (.int res), em_hm n m dl I J rv) 144 [(0, .ref 53), (1, .int (nI t)), (2, .int y), (3, .int (I 79 (5 * t))), (4, .int (I 79 (5 * t + 3))), (5, .int (I 79 (5 * t + 4)))] [] (em_hm n m dl I J rv) := by
        intro hlo
        (repeat (refine em_pure hB kX8_may rfl ?_))
        refine em_branch kX8_may rfl (fun (z : I 79 (5 * t + 4) = -1) => fin0 (fun w => w.elim hlo (fun w => w.1 z)) _) (fun (z : ¬ I 79 (5 * t + 4) = -1) => ?_)
        (repeat (refine em_pure hB kX8_may rfl ?_))
        refine em_branch kX8_may rfl (fun (w : y ≤ I 79 (5 * t + 4)) => fin0 (fun v => v.elim hlo (fun v => absurd v.2 (Int32.not_lt.mpr w))) _) (fun (w : ¬ y ≤ I 79 (5 * t + 4)) => fin3 (Or.inr ⟨z, Int32.not_le.mp w⟩) _)
      refine em_loc (lc' := [(0, .ref 53), (1, .int (nI t)), (2, .int y), (3, .int (I 79 (5 * t))), (4, .int (I 79 (5 * t + 3))), (5, .int (I 79 (5 * t + 4)))]) rfl ?_
      refine em_branch kX8_may rfl (fun (z : I 79 (5 * t + 3) = -1) => hi (fun w => w.1 z)) (fun (z : ¬ I 79 (5 * t + 3) = -1) => ?_)
      (repeat (refine em_pure hB kX8_may rfl ?_))
      refine em_branch kX8_may rfl (fun (w : y < I 79 (5 * t + 3)) => fin3 (Or.inl ⟨z, w⟩) _) (fun (w : ¬ y < I 79 (5 * t + 3)) => hi (fun v => w v.2))
    refine em_loc (lc' := [(0, .ref 53), (1, .int (nI t)), (2, .int y), (3, .int (I 79 (5 * t)))]) rfl ?_
    (repeat (refine em_pure hB kX8_may rfl ?_))
    refine em_branch kX8_may rfl (fun (z : I 79 (5 * t) = -1) => last (fun w => w.1 z)) (fun (z : ¬ I 79 (5 * t) = -1) => ?_)
    (repeat (refine em_pure hB kX8_may rfl ?_))
    refine em_callV (μ' := mX8_hereNow) (c1 := 8) kX8_may rfl lX8_240 tX8_hereNow (by decide) rfl (em_ltB hB rfl) (s_mHereNow hB hx hN hg hG) rfl rfl (by decide) (Nat.le_of_ble_eq_true rfl) (Nat.le_refl _) (Nat.le_refl _) ?_
    (repeat (refine em_pure hB kX8_may rfl ?_))
    refine em_branch kX8_may rfl (fun (w : em_mhn I G N ≤ I 79 (5 * t)) => last (fun v => absurd v.2 (Int32.not_lt.mpr w))) (fun (w : ¬ em_mhn I G N ≤ I 79 (5 * t)) => ?_)
    (repeat (refine em_pure hB kX8_may rfl ?_))
    exact em_iret kX8_may rfl rfl rfl (by rw [em_mMay, if_neg h, if_neg hex2, if_pos ⟨z, Int32.not_le.mp w⟩])
  have loop : ∀ d b, b + d = N → (∀ j, j < b → em_mfb I G t j = false) → em_EW Γ 2 mX8_may (em_hm n m dl I J rv) (some (.int (em_mMay I G N t y)), em_hm n m dl I J rv) 33 [(0, .ref 53), (1, .int (nI t)), (2, .int y), (3, .int (nI b))] [] (em_hm n m dl I J rv) := by
    intro d
    induction d with
    | zero =>
      intro b hb hno
      obtain rfl : b = N := by omega
      (repeat (refine em_pure hB kX8_may rfl ?_))
      refine em_branch kX8_may rfl (fun _ => ?_) (fun z => absurd (by show I 53 1 ≤ nI b; rw [hx]; exact nI_le (Nat.le_refl b) (by omega)) z)
      exact em_loc (lc' := [(0, .ref 53), (1, .int (nI t)), (2, .int y)]) rfl (back (em_ex_no.mpr hno))
    | succ d ih =>
      intro b hb hno
      have next : em_mfb I G t b = false → em_EW Γ 2 mX8_may (em_hm n m dl I J rv) (some (.int (em_mMay I G N t y)), em_hm n m dl I J rv) 78 [(0, .ref 53), (1, .int (nI t)), (2, .int y), (3, .int (nI b))] [] (em_hm n m dl I J rv) := by
        intro hf
        (repeat (refine em_pureT 33 hB kX8_may rfl rfl ?_))
        refine em_loc (lc' := [(0, .ref 53), (1, .int (nI t)), (2, .int y), (3, .int (nI b + 1))]) rfl ?_
        rw [nI_1]
        exact ih (b + 1) (by omega) (fun j hj => by
          by_cases e : j = b
          · rw [e]; exact hf
          · exact hno j (by omega))
      (repeat (refine em_pure hB kX8_may rfl ?_))
      refine em_branch kX8_may rfl (fun z => absurd z (by show ¬ I 53 1 ≤ nI b; rw [hx]; exact nI_ge (by omega) (by omega))) (fun _ => ?_)
      (repeat (refine em_pure hB kX8_may rfl ?_))
      refine em_callV (μ' := mX8_isHere) (c1 := 8) kX8_may rfl lX8_133 tX8_isHere (by decide) rfl (em_ltB hB rfl) (s_mIsHere hB (d := I 53 0) (q := I 53 0) (j := b) hg hG rfl (by omega)) rfl rfl (by decide) (Nat.le_of_ble_eq_true rfl) (Nat.le_refl _) (Nat.le_refl _) ?_
      refine em_bz kX8_may rfl (fun hm => ?_) (fun hm => next (decide_eq_false (fun z => hm z.1)))
      (repeat (refine em_pure hB kX8_may rfl ?_))
      refine em_ia (L := 8) hB kX8_may rfl rfl rfl rfl rfl ht rfl ?_
      (repeat (refine em_pure hB kX8_may rfl ?_))
      refine em_ia (L := 40) hB kX8_may rfl rfl rfl rfl rfl (show b < 40 by omega) rfl ?_
      (repeat (refine em_pure hB kX8_may rfl ?_))
      refine em_branch kX8_may rfl (fun (z : ¬ (I 78 t >>> (I 56 b &&& 31)) &&& 1 = 1) => next (decide_eq_false (fun w => z w.2))) (fun (z : ¬ ¬ (I 78 t >>> (I 56 b &&& 31)) &&& 1 = 1) => ?_)
      (repeat (refine em_pure hB kX8_may rfl ?_))
      have hyes : em_ex (em_mfb I G t) N = true := em_ex_yes (j := b) (by omega) (decide_eq_true ⟨hm, Decidable.not_not.mp z⟩)
      exact em_iret kX8_may rfl rfl rfl (by rw [em_mMay, if_neg h, if_pos hyes])
  (repeat (refine em_pureT 33 hB kX8_may rfl rfl ?_))
  refine em_loc (lc' := [(0, .ref 53), (1, .int (nI t)), (2, .int y), (3, .int (nI 0))]) rfl ?_
  exact loop N 0 (by omega) (fun j hj => by omega)
def em_mx0 (x : Int32) : Int32 := if 0 < x then x else 0
def em_mFee (I : Nat → Nat → Int32) (G N t : Nat) : Int32 := if I 80 t = 0 then 0 else em_mx0 (I 79 (5 * t + 1)) + em_mx0 (I 79 (5 * t + 2)) * em_mhn I G N
theorem s_mFee_no (hB : 85 ≤ n) {x : Int32} (h : ¬ (0 ≤ x ∧ x ≤ I 53 4 - 1)) : em_MC Γ 2 mX8_fee [.ref 53, .int x] (em_hm n m dl I J rv) (some (.int (-1))) (em_hm n m dl I J rv) := by
  refine em_MC_of (Nat.le_refl _) (Nat.le_refl _) (by decide +kernel) rfl (Nat.le_of_ble_eq_true rfl) ?_
  (repeat (refine em_pure hB kX8_fee rfl ?_))
  refine em_callV (μ' := mX8_isTown) (c1 := 8) kX8_fee rfl lX8_161 tX8_isTown (by decide) rfl (em_ltB hB rfl) (s_mIsTown hB x) rfl rfl (by decide) (Nat.le_of_ble_eq_true rfl) (Nat.le_refl _) (Nat.le_refl _) ?_
  refine em_bn kX8_fee rfl (fun h1 => absurd h1 h) (fun _ => ?_)
  (repeat (refine em_pure hB kX8_fee rfl ?_))
  exact em_iret kX8_fee rfl rfl rfl rfl
theorem s_mFee_ok (hB : 85 ≤ n) {t N G : Nat} (ht : t < 8) (h1 : 0 ≤ nI t ∧ nI t ≤ I 53 4 - 1) (hx : I 53 1 = nI N) (hN : N ≤ 40) (hg : I 53 2 = nI G) (hG : G ≤ 200) : em_MC Γ 2 mX8_fee [.ref 53, .int (nI t)] (em_hm n m dl I J rv) (some (.int (em_mFee I G N t))) (em_hm n m dl I J rv) := by
  refine em_MC_of (Nat.le_refl _) (Nat.le_refl _) (by decide +kernel) rfl (Nat.le_of_ble_eq_true rfl) ?_
  (repeat (refine em_pure hB kX8_fee rfl ?_))
  refine em_callV (μ' := mX8_isTown) (c1 := 8) kX8_fee rfl lX8_161 tX8_isTown (by decide) rfl (em_ltB hB rfl) (s_mIsTown hB (nI t)) rfl rfl (by decide) (Nat.le_of_ble_eq_true rfl) (Nat.le_refl _) (Nat.le_refl _) ?_
  refine em_bn kX8_fee rfl (fun _ => ?_) (fun h => absurd h1 h)
  (repeat (refine em_pure hB kX8_fee rfl ?_))
  refine em_za (L := 8) hB kX8_fee rfl rfl rfl rfl rfl ht rfl ?_
  refine em_branch kX8_fee rfl (fun (h : ¬ I 80 t = 0) => ?_) (fun (h : ¬ ¬ I 80 t = 0) => ?_)
  case refine_2 =>
    (repeat (refine em_pure hB kX8_fee rfl ?_))
    exact em_iret kX8_fee rfl rfl rfl (by rw [em_mFee, if_pos (Decidable.not_not.mp h)])
  (repeat (refine em_pure hB kX8_fee rfl ?_))
  refine em_ia (L := 40) hB kX8_fee rfl rfl rfl rfl (em_w5 (k := 1)) (show 5 * t + 1 < 40 by omega) rfl ?_
  refine em_mmax (x := 0) (y := I 79 (5 * t + 1)) kX8_fee rfl lM8 rfl (by decide) (Nat.le_of_ble_eq_true rfl) (Nat.le_refl _) (Nat.le_refl _) ?_
  (repeat (refine em_pure hB kX8_fee rfl ?_))
  refine em_ia (L := 40) hB kX8_fee rfl rfl rfl rfl (em_w5 (k := 2)) (show 5 * t + 2 < 40 by omega) rfl ?_
  refine em_mmax (x := 0) (y := I 79 (5 * t + 2)) kX8_fee rfl lM8 rfl (by decide) (Nat.le_of_ble_eq_true rfl) (Nat.le_refl _) (Nat.le_refl _) ?_
  (repeat (refine em_pure hB kX8_fee rfl ?_))
  refine em_callV (μ' := mX8_hereNow) (c1 := 8) kX8_fee rfl lX8_240 tX8_hereNow (by decide) rfl (em_ltB hB rfl) (s_mHereNow hB hx hN hg hG) rfl rfl (by decide) (Nat.le_of_ble_eq_true rfl) (Nat.le_refl _) (Nat.le_refl _) ?_
  (repeat (refine em_pure hB kX8_fee rfl ?_))
  exact em_iret kX8_fee rfl rfl rfl (by rw [em_mFee, if_neg h]; rfl)
end MLaw
