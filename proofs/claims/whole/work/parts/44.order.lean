/-! THE CLASS'S ORDER -/
abbrev em_hs (x : Int32) (w : Nat) : Prop := ¬ (x >>> (nI w &&& 31)) &&& 1 = 0
abbrev em_one1 (w : Nat) : Int32 := 1 <<< (nI w &&& 31)
abbrev em_nt (x : Int32) : Int32 := x ^^^ (-1)
def em_cb (s w : Nat) : Nat := if s.testBit w then s - 2 ^ w else s
theorem em_cb_ok : ∀ s, s < 256 → ∀ w, w < 8 → (nI s &&& em_nt (em_one1 w)) = nI (em_cb s w) ∧ em_cb s w < 256 := by decide +kernel
def em_fk (I : Nat → Nat → Int32) : Nat → Nat → Int32
  | 0 => em_fil (I 18) 0 8
  | b + 1 => if I 16 b = -1 then em_fk I b else va_up (em_fk I b) (I 16 b).toNatClampNeg (em_fk I b (I 16 b).toNatClampNeg ||| (1 <<< (I 4 b &&& 31)))
def em_fw (D : Nat → Int32) : Nat → Int32
  | 0 => 0
  | w + 1 => if D w = 0 then em_fw D w else em_fw D w ||| em_one1 w
def em_kb (B : Nat → Int32) (x : Int32) : Nat → Int32
  | 0 => 0
  | k + 1 => if em_hs x k then em_kb B x k ||| B k else em_kb B x k
def em_fo (D : Nat → Int32) (x : Int32) : Nat → Int32
  | 0 => 0
  | w + 1 => if x &&& D w = 0 then em_fo D x w else em_fo D x w ||| em_one1 w
def em_ff (B D F : Nat → Int32) : Nat → Nat → Int32
  | 0 => F
  | w + 1 => va_up (em_ff B D F w) w (em_fo D (em_kb B (D w) 8) 8)
def em_bgo (B F : Nat → Int32) (s : Int32) : Nat → Int32
  | 0 => 0
  | w + 1 => if em_hs s w ∧ (s &&& em_nt (em_one1 w) = 0 ∨ ¬ B (s &&& em_nt (em_one1 w)).toNatClampNeg &&& em_nt (F w) = 0) then em_bgo B F s w ||| em_one1 w else em_bgo B F s w
def em_fbg (B F : Nat → Int32) (f : Int32) : Nat → Nat → Int32
  | 0 => B
  | k + 1 => va_up (em_fbg B F f k) (k + 1) (if nI (k + 1) &&& em_nt f = 0 then em_bgo (em_fbg B F f k) F (nI (k + 1)) 8 else 0)
def em_lw1 (x : Int32) : Nat → Nat → Option Nat
  | 0, _ => none
  | d + 1, i => if em_hs x i then some i else em_lw1 x d (i + 1)
theorem em_lw1_lt (x : Int32) : ∀ d i w, em_lw1 x d i = some w → w < i + d
  | 0, _, _, h => by cases h
  | d + 1, i, w, h => by
    rw [em_lw1] at h
    split at h
    · cases h; omega
    · have := em_lw1_lt x d (i + 1) w h; omega
def em_on (o : Option Nat) : Int32 := match o with
  | none => -1
  | some w => nI w
def em_pbl (B F : Nat → Int32) : Nat → Nat → Int32 → Int32 → Int32
  | 0, _, _, w => w
  | d + 1, r, b, _ => match em_lw1 (B r &&& em_nt b) 8 0 with
    | none => -1
    | some w => em_pbl B F d (em_cb r w) (F w) (nI w)
def em_pc (f : Nat) : Nat := (List.range 8).foldl (fun a w => if f.testBit w then a + 1 else a) 0
theorem s_lowest (Γ : em_Cx) (hp : em_Hp) (x : Int32) : em_MC Γ 1 mX6_lowest [.int x] hp (some (.int (em_on (em_lw1 x 8 0)))) hp := by
  refine em_MC_of (Nat.le_refl _) (Nat.le_refl _) (by decide +kernel) rfl (Nat.le_of_ble_eq_true rfl) ?_
  have loop : ∀ d i, i + d = 8 → em_EW Γ 1 mX6_lowest hp (some (.int (em_on (em_lw1 x d i))), hp) 2 [(0, .int x), (1, .int (nI i))] [] hp := by
    intro d
    induction d with
    | zero =>
      intro i hi
      obtain rfl : i = 8 := by omega
      (repeat (refine em_pure (Nat.zero_le _) kX6_lowest rfl ?_))
      refine em_branch kX6_lowest rfl (fun _ => ?_) (fun h => absurd (by decide) h)
      (repeat (refine em_pure (Nat.zero_le _) kX6_lowest rfl ?_))
      exact em_iret kX6_lowest rfl rfl rfl rfl
    | succ d ih =>
      intro i hi
      (repeat (refine em_pure (Nat.zero_le _) kX6_lowest rfl ?_))
      refine em_branch kX6_lowest rfl (fun (h : (8 : Int32) ≤ nI i) => absurd h (nI_ge (b := 8) (by omega) (by omega))) (fun _ => ?_)
      (repeat (refine em_pure (Nat.zero_le _) kX6_lowest rfl ?_))
      refine em_callS (μ' := mX7_has) kX6_lowest rfl lX6_60 tX7_has (s_has Γ _ x (nI i)) rfl rfl (by decide) (Nat.le_of_ble_eq_true rfl) (Nat.le_refl _) (Nat.le_refl _) ?_
      refine em_bz kX6_lowest rfl (fun h => ?_) (fun h => ?_)
      · (repeat (refine em_pure (Nat.zero_le _) kX6_lowest rfl ?_))
        exact em_iret kX6_lowest rfl rfl rfl (by rw [em_lw1, if_pos h]; rfl)
      · rw [em_lw1, if_neg h]
        (repeat (refine em_pureT 2 (Nat.zero_le _) kX6_lowest rfl rfl ?_))
        refine em_loc (lc' := [(0, .int x), (1, .int (nI i + 1))]) rfl ?_
        rw [nI_1]
        exact ih (i + 1) (by omega)
  (repeat (refine em_pureT 2 (Nat.zero_le _) kX6_lowest rfl rfl ?_))
  refine em_loc (lc' := [(0, .int x), (1, .int (nI 0))]) rfl ?_
  exact loop 8 0 (by omega)
theorem s_bitCount (Γ : em_Cx) (hp : em_Hp) {f : Nat} (hf : f < 256) : em_MC Γ 0 mJ6_bitCount_0f7a4 [.int (nI f)] hp (some (.int (nI (em_pc f)))) hp := by
  refine em_MC_of (Nat.le_refl _) (Nat.le_refl _) (by decide +kernel) rfl (Nat.le_of_ble_eq_true rfl) ?_
  (repeat (refine em_pure (Nat.zero_le _) kJ6_bitCount_0f7a4 rfl ?_))
  refine em_iret kJ6_bitCount_0f7a4 rfl rfl rfl ?_
  refine Prod.ext (congrArg (fun z => some (Value.int z)) ?_) rfl
  revert f
  decide +kernel
section Order
variable {Γ : em_Cx} {n m : Nat} {dl : Nat → Nat} {I : Nat → Nat → Int32} {J : Nat → Nat → Int64} {rv : em_Rv}
theorem s_findKinds (hB : 85 ≤ n) {N : Nat} (hx : I 1 2 = nI N) (hN : N ≤ 40) (hw : ∀ b, b < N → I 16 b = -1 ∨ ∃ w, w < 8 ∧ I 16 b = nI w) : em_MC Γ 3 mX6_findKinds [.ref 15] (em_hm n m dl I J rv) none (em_sI (em_hm n m dl I J rv) 18 (em_fk I N)) := by
  refine em_MC_of (Nat.le_refl _) (Nat.le_refl _) (by decide +kernel) rfl (Nat.le_of_ble_eq_true rfl) ?_
  (repeat (refine em_pure hB kX6_findKinds rfl ?_))
  refine em_callS (μ' := mJ7_fill_53178) kX6_findKinds rfl lX6_31 tJ7_fill_53178 (s_fillI Γ _ 0 (L := 8) (k := 18) rfl (em_ltB hB rfl) rfl (by decide)) rfl rfl (by decide) (Nat.le_of_ble_eq_true rfl) (Nat.le_refl _) (Nat.le_refl _) ?_
  have loop : ∀ d b, b + d = N → em_EW Γ 3 mX6_findKinds (em_hm n m dl I J rv) (none, em_sI (em_hm n m dl I J rv) 18 (em_fk I N)) 10 [(0, .ref 15), (1, .int (nI b))] [] (em_sI (em_hm n m dl I J rv) 18 (em_fk I b)) := by
    intro d
    induction d with
    | zero =>
      intro b hb
      obtain rfl : b = N := by omega
      (repeat (refine em_pure hB kX6_findKinds rfl ?_))
      refine em_callV (μ' := mX3_size) (c1 := 3) kX6_findKinds rfl lX6_68 tX3_size (by decide) rfl (em_ltB hB rfl) (s_size (I := va_up I 18 (em_fk I b)) hB) rfl rfl (by decide) (Nat.le_of_ble_eq_true rfl) (Nat.le_refl _) (Nat.le_refl _) ?_
      refine em_branch kX6_findKinds rfl (fun _ => ?_) (fun h1 => absurd (by show I 1 2 ≤ nI b; rw [hx]; exact nI_le (Nat.le_refl b) (by omega)) h1)
      (repeat (refine em_pure hB kX6_findKinds rfl ?_))
      exact em_vret kX6_findKinds rfl rfl rfl
    | succ d ih =>
      intro b hb
      have next : ∀ g, g = em_fk I (b + 1) → em_EW Γ 3 mX6_findKinds (em_hm n m dl I J rv) (none, em_sI (em_hm n m dl I J rv) 18 (em_fk I N)) 55 [(0, .ref 15), (1, .int (nI b))] [] (em_sI (em_hm n m dl I J rv) 18 g) := by
        intro g hg
        rw [hg]
        (repeat (refine em_pureT 10 hB kX6_findKinds rfl rfl ?_))
        refine em_loc (lc' := [(0, .ref 15), (1, .int (nI b + 1))]) rfl ?_
        rw [nI_1]
        exact ih (b + 1) (by omega)
      (repeat (refine em_pure hB kX6_findKinds rfl ?_))
      refine em_callV (μ' := mX3_size) (c1 := 3) kX6_findKinds rfl lX6_68 tX3_size (by decide) rfl (em_ltB hB rfl) (s_size (I := va_up I 18 (em_fk I b)) hB) rfl rfl (by decide) (Nat.le_of_ble_eq_true rfl) (Nat.le_refl _) (Nat.le_refl _) ?_
      refine em_branch kX6_findKinds rfl (fun h1 => absurd h1 (by show ¬ I 1 2 ≤ nI b; rw [hx]; exact nI_ge (by omega) (by omega))) (fun _ => ?_)
      (repeat (refine em_pure hB kX6_findKinds rfl ?_))
      refine em_ia (L := 40) hB kX6_findKinds rfl rfl rfl rfl rfl (show b < 40 by omega) rfl ?_
      (repeat (refine em_pure hB kX6_findKinds rfl ?_))
      refine em_branch kX6_findKinds rfl (fun (h : I 16 b = -1) => next _ (by rw [em_fk, if_pos h])) (fun (h : ¬ I 16 b = -1) => ?_)
      obtain ⟨w, hw8, hwe⟩ := (hw b (by omega)).resolve_left h
      (repeat (refine em_pure hB kX6_findKinds rfl ?_))
      refine em_ia (L := 40) hB kX6_findKinds rfl rfl rfl rfl rfl (show b < 40 by omega) rfl ?_
      (repeat (refine em_pure hB kX6_findKinds rfl ?_))
      refine em_ia (L := 8) hB kX6_findKinds rfl rfl rfl rfl hwe hw8 rfl ?_
      (repeat (refine em_pure hB kX6_findKinds rfl ?_))
      refine em_callV (μ' := mX3_kindOfBeast) (c1 := 3) kX6_findKinds rfl lX6_47 tX3_kindOfBeast (by decide) rfl (em_ltB hB rfl) (s_kindOfBeast (I := va_up I 18 (em_fk I b)) hB (b := nI b) hx hN rfl (show b < N by omega)) rfl rfl (by decide) (Nat.le_of_ble_eq_true rfl) (Nat.le_refl _) (Nat.le_refl _) ?_
      (repeat (refine em_pure hB kX6_findKinds rfl ?_))
      refine em_iw (L := 8) hB kX6_findKinds rfl rfl rfl rfl hwe hw8 rfl ?_
      refine em_hpE (em_sI2 (em_hm n m dl I J rv) 18 _ _) (next _ ?_)
      rw [em_fk, if_neg h, hwe, nI_clamp (by omega)]
      rfl
  (repeat (refine em_pureT 10 hB kX6_findKinds rfl rfl ?_))
  refine em_loc (lc' := [(0, .ref 15), (1, .int (nI 0))]) rfl ?_
  exact loop N 0 (by omega)
theorem s_filled (hB : 85 ≤ n) : em_MC Γ 0 mX6_filledWagons [.ref 15] (em_hm n m dl I J rv) (some (.int (em_fw (I 18) 8))) (em_hm n m dl I J rv) := by
  refine em_MC_of (Nat.le_refl _) (Nat.le_refl _) (by decide +kernel) rfl (Nat.le_of_ble_eq_true rfl) ?_
  have loop : ∀ d w, w + d = 8 → em_EW Γ 0 mX6_filledWagons (em_hm n m dl I J rv) (some (.int (em_fw (I 18) 8)), em_hm n m dl I J rv) 4 [(0, .ref 15), (1, .int (em_fw (I 18) w)), (2, .int (nI w))] [] (em_hm n m dl I J rv) := by
    intro d
    induction d with
    | zero =>
      intro w hw
      obtain rfl : w = 8 := by omega
      (repeat (refine em_pure hB kX6_filledWagons rfl ?_))
      refine em_branch kX6_filledWagons rfl (fun _ => ?_) (fun h => absurd (by decide) h)
      (repeat (refine em_pure hB kX6_filledWagons rfl ?_))
      exact em_iret kX6_filledWagons rfl rfl rfl rfl
    | succ d ih =>
      intro w hw
      have next : ∀ z, z = em_fw (I 18) (w + 1) → em_EW Γ 0 mX6_filledWagons (em_hm n m dl I J rv) (some (.int (em_fw (I 18) 8)), em_hm n m dl I J rv) 25 [(0, .ref 15), (1, .int z), (2, .int (nI w))] [] (em_hm n m dl I J rv) := by
        intro z hz
        rw [hz]
        (repeat (refine em_pureT 4 hB kX6_filledWagons rfl rfl ?_))
        refine em_loc (lc' := [(0, .ref 15), (1, .int (em_fw (I 18) (w + 1))), (2, .int (nI w + 1))]) rfl ?_
        rw [nI_1]
        exact ih (w + 1) (by omega)
      (repeat (refine em_pure hB kX6_filledWagons rfl ?_))
      refine em_branch kX6_filledWagons rfl (fun (h : (8 : Int32) ≤ nI w) => absurd h (nI_ge (b := 8) (by omega) (by omega))) (fun _ => ?_)
      (repeat (refine em_pure hB kX6_filledWagons rfl ?_))
      refine em_ia (L := 8) hB kX6_filledWagons rfl rfl rfl rfl rfl (show w < 8 by omega) rfl ?_
      refine em_branch kX6_filledWagons rfl (fun (h : I 18 w = 0) => next _ (by rw [em_fw, if_pos h])) (fun (h : ¬ I 18 w = 0) => ?_)
      (repeat (refine em_pureT 25 hB kX6_filledWagons rfl rfl ?_))
      exact em_loc (lc' := [(0, .ref 15), (1, .int (em_fw (I 18) w ||| em_one1 w)), (2, .int (nI w))]) rfl (next _ (by rw [em_fw, if_neg h]))
  (repeat (refine em_pureT 4 hB kX6_filledWagons rfl rfl ?_))
  refine em_loc (lc' := [(0, .ref 15), (1, .int 0), (2, .int (nI 0))]) rfl ?_
  exact loop 8 0 (by omega)
theorem s_kindsBarredBy (hB : 85 ≤ n) {x : Int32} : em_MC Γ 1 mX6_kindsBarredBy [.ref 15, .int x] (em_hm n m dl I J rv) (some (.int (em_kb (I 17) x 8))) (em_hm n m dl I J rv) := by
  refine em_MC_of (Nat.le_refl _) (Nat.le_refl _) (by decide +kernel) rfl (Nat.le_of_ble_eq_true rfl) ?_
  have loop : ∀ d w, w + d = 8 → em_EW Γ 1 mX6_kindsBarredBy (em_hm n m dl I J rv) (some (.int (em_kb (I 17) x 8)), em_hm n m dl I J rv) 4 [(0, .ref 15), (1, .int x), (2, .int (em_kb (I 17) x w)), (3, .int (nI w))] [] (em_hm n m dl I J rv) := by
    intro d
    induction d with
    | zero =>
      intro w hw
      obtain rfl : w = 8 := by omega
      (repeat (refine em_pure hB kX6_kindsBarredBy rfl ?_))
      refine em_branch kX6_kindsBarredBy rfl (fun _ => ?_) (fun h => absurd (by decide) h)
      (repeat (refine em_pure hB kX6_kindsBarredBy rfl ?_))
      exact em_iret kX6_kindsBarredBy rfl rfl rfl rfl
    | succ d ih =>
      intro w hw
      have next : ∀ z, z = em_kb (I 17) x (w + 1) → em_EW Γ 1 mX6_kindsBarredBy (em_hm n m dl I J rv) (some (.int (em_kb (I 17) x 8)), em_hm n m dl I J rv) 27 [(0, .ref 15), (1, .int x), (2, .int z), (3, .int (nI w))] [] (em_hm n m dl I J rv) := by
        intro z hz
        rw [hz]
        (repeat (refine em_pureT 4 hB kX6_kindsBarredBy rfl rfl ?_))
        refine em_loc (lc' := [(0, .ref 15), (1, .int x), (2, .int (em_kb (I 17) x (w + 1))), (3, .int (nI w + 1))]) rfl ?_
        rw [nI_1]
        exact ih (w + 1) (by omega)
      (repeat (refine em_pure hB kX6_kindsBarredBy rfl ?_))
      refine em_branch kX6_kindsBarredBy rfl (fun (h : (8 : Int32) ≤ nI w) => absurd h (nI_ge (b := 8) (by omega) (by omega))) (fun _ => ?_)
      (repeat (refine em_pure hB kX6_kindsBarredBy rfl ?_))
      refine em_callS (μ' := mX7_has) kX6_kindsBarredBy rfl lX6_60 tX7_has (s_has Γ _ x (nI w)) rfl rfl (by decide) (Nat.le_of_ble_eq_true rfl) (Nat.le_refl _) (Nat.le_refl _) ?_
      refine em_bz kX6_kindsBarredBy rfl (fun h => ?_) (fun h => next _ (by rw [em_kb, if_neg h]))
      (repeat (refine em_pure hB kX6_kindsBarredBy rfl ?_))
      refine em_ia (L := 8) hB kX6_kindsBarredBy rfl rfl rfl rfl rfl (show w < 8 by omega) rfl ?_
      (repeat (refine em_pureT 27 hB kX6_kindsBarredBy rfl rfl ?_))
      exact em_loc (lc' := [(0, .ref 15), (1, .int x), (2, .int (em_kb (I 17) x w ||| I 17 w)), (3, .int (nI w))]) rfl (next _ (by rw [em_kb, if_pos h]))
  (repeat (refine em_pureT 4 hB kX6_kindsBarredBy rfl rfl ?_))
  refine em_loc (lc' := [(0, .ref 15), (1, .int x), (2, .int 0), (3, .int (nI 0))]) rfl ?_
  exact loop 8 0 (by omega)
theorem s_findFoes (hB : 85 ≤ n) : em_MC Γ 2 mX6_findFoes [.ref 15] (em_hm n m dl I J rv) none (em_sI (em_hm n m dl I J rv) 19 (em_ff (I 17) (I 18) (I 19) 8)) := by
  refine em_MC_of (Nat.le_refl _) (Nat.le_refl _) (by decide +kernel) rfl (Nat.le_of_ble_eq_true rfl) ?_
  have outer : ∀ d w, w + d = 8 → em_EW Γ 2 mX6_findFoes (em_hm n m dl I J rv) (none, em_sI (em_hm n m dl I J rv) 19 (em_ff (I 17) (I 18) (I 19) 8)) 2 [(0, .ref 15), (1, .int (nI w))] [] (em_sI (em_hm n m dl I J rv) 19 (em_ff (I 17) (I 18) (I 19) w)) := by
    intro d
    induction d with
    | zero =>
      intro w hw
      obtain rfl : w = 8 := by omega
      (repeat (refine em_pure hB kX6_findFoes rfl ?_))
      refine em_branch kX6_findFoes rfl (fun _ => ?_) (fun h => absurd (by decide) h)
      (repeat (refine em_pure hB kX6_findFoes rfl ?_))
      exact em_vret kX6_findFoes rfl rfl rfl
    | succ d ih =>
      intro w hw
      have ihw := ih (w + 1) (by omega)
      generalize em_ff (I 17) (I 18) (I 19) 8 = res at *
      rw [em_ff] at ihw
      generalize em_ff (I 17) (I 18) (I 19) w = g at *
      have inner : ∀ d o, o + d = 8 → em_EW Γ 2 mX6_findFoes (em_hm n m dl I J rv) (none, em_sI (em_hm n m dl I J rv) 19 res) 28 [(0, .ref 15), (1, .int (nI w)), (2, .int (em_kb (I 17) (I 18 w) 8)), (3, .int (nI o))] [] (em_sI (em_hm n m dl I J rv) 19 (va_up g w (em_fo (I 18) (em_kb (I 17) (I 18 w) 8) o))) := by
        intro d
        induction d with
        | zero =>
          intro o ho
          obtain rfl : o = 8 := by omega
          (repeat (refine em_pure hB kX6_findFoes rfl ?_))
          refine em_branch kX6_findFoes rfl (fun _ => ?_) (fun h => absurd (by decide) h)
          (repeat (refine em_pureT 2 hB kX6_findFoes rfl rfl ?_))
          refine em_loc (lc' := [(0, .ref 15), (1, .int (nI w + 1))]) rfl ?_
          rw [nI_1]
          exact ihw
        | succ d ih2 =>
          intro o ho
          have next : ∀ z, z = em_fo (I 18) (em_kb (I 17) (I 18 w) 8) (o + 1) → em_EW Γ 2 mX6_findFoes (em_hm n m dl I J rv) (none, em_sI (em_hm n m dl I J rv) 19 res) 57 [(0, .ref 15), (1, .int (nI w)), (2, .int (em_kb (I 17) (I 18 w) 8)), (3, .int (nI o))] [] (em_sI (em_hm n m dl I J rv) 19 (va_up g w z)) := by
            intro z hz
            rw [hz]
            (repeat (refine em_pureT 28 hB kX6_findFoes rfl rfl ?_))
            refine em_loc (lc' := [(0, .ref 15), (1, .int (nI w)), (2, .int (em_kb (I 17) (I 18 w) 8)), (3, .int (nI o + 1))]) rfl ?_
            rw [nI_1]
            exact ih2 (o + 1) (by omega)
          (repeat (refine em_pure hB kX6_findFoes rfl ?_))
          refine em_branch kX6_findFoes rfl (fun (h : (8 : Int32) ≤ nI o) => absurd h (nI_ge (b := 8) (by omega) (by omega))) (fun _ => ?_)
          (repeat (refine em_pure hB kX6_findFoes rfl ?_))
          refine em_ia (L := 8) hB kX6_findFoes rfl rfl rfl rfl rfl (show o < 8 by omega) rfl ?_
          (repeat (refine em_pure hB kX6_findFoes rfl ?_))
          refine em_branch kX6_findFoes rfl (fun (h : em_kb (I 17) (I 18 w) 8 &&& I 18 o = 0) => next _ (by rw [em_fo, if_pos h])) (fun (h : ¬ em_kb (I 17) (I 18 w) 8 &&& I 18 o = 0) => ?_)
          (repeat (refine em_pure hB kX6_findFoes rfl ?_))
          refine em_ia (L := 8) hB kX6_findFoes rfl rfl rfl rfl rfl (show w < 8 by omega) rfl ?_
          (repeat (refine em_pure hB kX6_findFoes rfl ?_))
          refine em_iw (L := 8) hB kX6_findFoes rfl rfl rfl rfl rfl (show w < 8 by omega) rfl ?_
          refine em_hpE (hp' := em_sI (em_hm n m dl I J rv) 19 (va_up g w (em_fo (I 18) (em_kb (I 17) (I 18 w) 8) o ||| em_one1 o))) ((em_sI2 (em_hm n m dl I J rv) 19 _ _).trans ?_) (next _ (by rw [em_fo, if_neg h]))
          show em_sI (em_hm n m dl I J rv) 19 (va_up (va_up g w _) w (va_up g w _ w ||| _)) = _
          rw [va_up_self, bx_uu]
      (repeat (refine em_pure hB kX6_findFoes rfl ?_))
      refine em_branch kX6_findFoes rfl (fun (h : (8 : Int32) ≤ nI w) => absurd h (nI_ge (b := 8) (by omega) (by omega))) (fun _ => ?_)
      (repeat (refine em_pure hB kX6_findFoes rfl ?_))
      refine em_ia (L := 8) hB kX6_findFoes rfl rfl rfl rfl rfl (show w < 8 by omega) rfl ?_
      refine em_callV (μ' := mX6_kindsBarredBy) (c1 := 6) kX6_findFoes rfl lX6_100 tX6_kindsBarredBy (by decide) rfl (em_ltB hB rfl) (s_kindsBarredBy (I := va_up I 19 g) hB (x := I 18 w)) rfl rfl (by decide) (Nat.le_of_ble_eq_true rfl) (Nat.le_refl _) (Nat.le_refl _) ?_
      (repeat (refine em_pure hB kX6_findFoes rfl ?_))
      refine em_iw (L := 8) hB kX6_findFoes rfl rfl rfl rfl rfl (show w < 8 by omega) rfl ?_
      refine em_hpE (hp' := em_sI (em_hm n m dl I J rv) 19 (va_up g w 0)) (em_sI2 (em_hm n m dl I J rv) 19 _ _) ?_
      (repeat (refine em_pureT 28 hB kX6_findFoes rfl rfl ?_))
      refine em_loc (lc' := [(0, .ref 15), (1, .int (nI w)), (2, .int (em_kb (I 17) (I 18 w) 8)), (3, .int (nI 0))]) rfl ?_
      exact inner 8 0 (by omega)
  (repeat (refine em_pureT 2 hB kX6_findFoes rfl rfl ?_))
  refine em_loc (lc' := [(0, .ref 15), (1, .int (nI 0))]) rfl ?_
  refine em_hpE (hp' := em_sI (em_hm n m dl I J rv) 19 (em_ff (I 17) (I 18) (I 19) 0)) (em_sI_id (em_hm n m dl I J rv) 19).symm ?_
  exact outer 8 0 (by omega)
theorem s_beginningsOf (hB : 85 ≤ n) {s : Nat} (hs : s < 256) : em_MC Γ 1 mX6_beginningsOf [.ref 15, .int (nI s)] (em_hm n m dl I J rv) (some (.int (em_bgo (I 20) (I 19) (nI s) 8))) (em_hm n m dl I J rv) := by
  refine em_MC_of (Nat.le_refl _) (Nat.le_refl _) (by decide +kernel) rfl (Nat.le_of_ble_eq_true rfl) ?_
  have loop : ∀ d w, w + d = 8 → em_EW Γ 1 mX6_beginningsOf (em_hm n m dl I J rv) (some (.int (em_bgo (I 20) (I 19) (nI s) 8)), em_hm n m dl I J rv) 4 [(0, .ref 15), (1, .int (nI s)), (2, .int (em_bgo (I 20) (I 19) (nI s) w)), (3, .int (nI w))] [] (em_hm n m dl I J rv) := by
    intro d
    induction d with
    | zero =>
      intro w hw
      obtain rfl : w = 8 := by omega
      (repeat (refine em_pure hB kX6_beginningsOf rfl ?_))
      refine em_branch kX6_beginningsOf rfl (fun _ => ?_) (fun h => absurd (by decide) h)
      (repeat (refine em_pure hB kX6_beginningsOf rfl ?_))
      exact em_iret kX6_beginningsOf rfl rfl rfl rfl
    | succ d ih =>
      intro w hw
      obtain ⟨hc1, hc2⟩ := em_cb_ok s hs w (by omega)
      have next : ∀ lc, ∀ z, z = em_bgo (I 20) (I 19) (nI s) (w + 1) → em_lk lc 0 = some (.ref 15) → em_lk lc 1 = some (.int (nI s)) → em_lk lc 2 = some (.int z) → em_lk lc 3 = some (.int (nI w)) → em_EW Γ 1 mX6_beginningsOf (em_hm n m dl I J rv) (some (.int (em_bgo (I 20) (I 19) (nI s) 8)), em_hm n m dl I J rv) 57 lc [] (em_hm n m dl I J rv) := by
        intro lc z hz l0 l1 l2 l3
        refine em_loc (lc' := [(0, .ref 15), (1, .int (nI s)), (2, .int z), (3, .int (nI w))]) (by simp [l0, l1, l2, l3]) ?_
        rw [hz]
        (repeat (refine em_pureT 4 hB kX6_beginningsOf rfl rfl ?_))
        refine em_loc (lc' := [(0, .ref 15), (1, .int (nI s)), (2, .int (em_bgo (I 20) (I 19) (nI s) (w + 1))), (3, .int (nI w + 1))]) rfl ?_
        rw [nI_1]
        exact ih (w + 1) (by omega)
      have es : em_bgo (I 20) (I 19) (nI s) (w + 1) = if em_hs (nI s) w ∧ (nI (em_cb s w) = 0 ∨ ¬ I 20 (em_cb s w) &&& em_nt (I 19 w) = 0) then em_bgo (I 20) (I 19) (nI s) w ||| em_one1 w else em_bgo (I 20) (I 19) (nI s) w := by
        rw [em_bgo, hc1, nI_clamp (by omega)]
      (repeat (refine em_pure hB kX6_beginningsOf rfl ?_))
      refine em_branch kX6_beginningsOf rfl (fun (h : (8 : Int32) ≤ nI w) => absurd h (nI_ge (b := 8) (by omega) (by omega))) (fun _ => ?_)
      (repeat (refine em_pure hB kX6_beginningsOf rfl ?_))
      refine em_callS (μ' := mX7_has) kX6_beginningsOf rfl lX6_60 tX7_has (s_has Γ _ (nI s) (nI w)) rfl rfl (by decide) (Nat.le_of_ble_eq_true rfl) (Nat.le_refl _) (Nat.le_refl _) ?_
      refine em_bz kX6_beginningsOf rfl (fun h => ?_) (fun h => next _ _ (by rw [es, if_neg (fun z => h z.1)]) rfl rfl rfl rfl)
      (repeat (refine em_pureT 27 hB kX6_beginningsOf rfl rfl ?_))
      refine em_loc (lc' := [(0, .ref 15), (1, .int (nI s)), (2, .int (em_bgo (I 20) (I 19) (nI s) w)), (3, .int (nI w)), (4, .int (nI s &&& em_nt (em_one1 w)))]) rfl ?_
      rw [hc1]
      have add : (nI (em_cb s w) = 0 ∨ ¬ I 20 (em_cb s w) &&& em_nt (I 19 w) = 0) → em_EW Γ 1 mX6_beginningsOf (em_hm n m dl I J rv) (some (.int (em_bgo (I 20) (I 19) (nI s) 8)), em_hm n m dl I J rv) 51 [(0, .ref 15), (1, .int (nI s)), (2, .int (em_bgo (I 20) (I 19) (nI s) w)), (3, .int (nI w)), (4, .int (nI (em_cb s w)))] [] (em_hm n m dl I J rv) := by
        intro ha
        (repeat (refine em_pureT 57 hB kX6_beginningsOf rfl rfl ?_))
        exact next _ _ (by rw [es, if_pos ⟨h, ha⟩]) rfl rfl rfl rfl
      (repeat (refine em_pure hB kX6_beginningsOf rfl ?_))
      refine em_branch kX6_beginningsOf rfl (fun (h2 : nI (em_cb s w) = 0) => add (Or.inl h2)) (fun (h2 : ¬ nI (em_cb s w) = 0) => ?_)
      (repeat (refine em_pure hB kX6_beginningsOf rfl ?_))
      refine em_ia (L := 256) hB kX6_beginningsOf rfl rfl rfl rfl rfl hc2 rfl ?_
      (repeat (refine em_pure hB kX6_beginningsOf rfl ?_))
      refine em_ia (L := 8) hB kX6_beginningsOf rfl rfl rfl rfl rfl (show w < 8 by omega) rfl ?_
      (repeat (refine em_pure hB kX6_beginningsOf rfl ?_))
      refine em_branch kX6_beginningsOf rfl (fun (h3 : I 20 (em_cb s w) &&& em_nt (I 19 w) = 0) => next _ _ (by rw [es, if_neg (fun z => z.2.elim h2 (fun z => z h3))]) rfl rfl rfl rfl) (fun (h3 : ¬ I 20 (em_cb s w) &&& em_nt (I 19 w) = 0) => add (Or.inr h3))
  (repeat (refine em_pureT 4 hB kX6_beginningsOf rfl rfl ?_))
  refine em_loc (lc' := [(0, .ref 15), (1, .int (nI s)), (2, .int 0), (3, .int (nI 0))]) rfl ?_
  exact loop 8 0 (by omega)
theorem s_findBeginnings (hB : 85 ≤ n) {f : Int32} : em_MC Γ 2 mX6_findBeginnings [.ref 15, .int f] (em_hm n m dl I J rv) none (em_sI (em_hm n m dl I J rv) 20 (em_fbg (I 20) (I 19) f 255)) := by
  refine em_MC_of (Nat.le_refl _) (Nat.le_refl _) (by decide +kernel) rfl (Nat.le_of_ble_eq_true rfl) ?_
  have loop : ∀ d k, k + d = 255 → em_EW Γ 2 mX6_findBeginnings (em_hm n m dl I J rv) (none, em_sI (em_hm n m dl I J rv) 20 (em_fbg (I 20) (I 19) f 255)) 2 [(0, .ref 15), (1, .int f), (2, .int (nI (k + 1)))] [] (em_sI (em_hm n m dl I J rv) 20 (em_fbg (I 20) (I 19) f k)) := by
    intro d
    induction d with
    | zero =>
      intro k hk
      obtain rfl : k = 255 := by omega
      (repeat (refine em_pure hB kX6_findBeginnings rfl ?_))
      refine em_branch kX6_findBeginnings rfl (fun _ => ?_) (fun h => absurd (by decide) h)
      (repeat (refine em_pure hB kX6_findBeginnings rfl ?_))
      exact em_vret kX6_findBeginnings rfl rfl rfl
    | succ d ih =>
      intro k hk
      have ihk := ih (k + 1) (by omega)
      have bo := s_beginningsOf (Γ := Γ) (n := n) (m := m) (dl := dl) (I := va_up I 20 (em_fbg (I 20) (I 19) f k)) (J := J) (rv := rv) hB (s := k + 1) (by omega)
      have bo : em_MC Γ 1 mX6_beginningsOf [.ref 15, .int (nI (k + 1))] (em_sI (em_hm n m dl I J rv) 20 (em_fbg (I 20) (I 19) f k)) (some (.int (em_bgo (em_fbg (I 20) (I 19) f k) (I 19) (nI (k + 1)) 8))) (em_sI (em_hm n m dl I J rv) 20 (em_fbg (I 20) (I 19) f k)) := bo
      generalize em_fbg (I 20) (I 19) f 255 = res at *
      rw [em_fbg] at ihk
      generalize em_fbg (I 20) (I 19) f k = g at *
      have next : ∀ z, z = (if nI (k + 1) &&& em_nt f = 0 then em_bgo g (I 19) (nI (k + 1)) 8 else 0) → em_EW Γ 2 mX6_findBeginnings (em_hm n m dl I J rv) (none, em_sI (em_hm n m dl I J rv) 20 res) 31 [(0, .ref 15), (1, .int f), (2, .int (nI (k + 1)))] [.int z, .int (nI (k + 1)), .ref 20] (em_sI (em_hm n m dl I J rv) 20 g) := by
        intro z hz
        rw [hz]
        refine em_iw (L := 256) hB kX6_findBeginnings rfl rfl rfl rfl rfl (show k + 1 < 256 by omega) rfl ?_
        refine em_hpE (em_sI2 (em_hm n m dl I J rv) 20 _ _) ?_
        (repeat (refine em_pureT 2 hB kX6_findBeginnings rfl rfl ?_))
        refine em_loc (lc' := [(0, .ref 15), (1, .int f), (2, .int (nI (k + 1) + 1))]) rfl ?_
        rw [nI_1]
        exact ihk
      (repeat (refine em_pure hB kX6_findBeginnings rfl ?_))
      refine em_branch kX6_findBeginnings rfl (fun (h : (256 : Int32) ≤ nI (k + 1)) => absurd h (nI_ge (b := 256) (by omega) (by omega))) (fun _ => ?_)
      (repeat (refine em_pure hB kX6_findBeginnings rfl ?_))
      refine em_branch kX6_findBeginnings rfl (fun (h : ¬ nI (k + 1) &&& em_nt f = 0) => ?_) (fun (h : ¬ ¬ nI (k + 1) &&& em_nt f = 0) => ?_)
      · (repeat (refine em_pureT 31 hB kX6_findBeginnings rfl rfl ?_))
        exact next 0 (by rw [if_neg h])
      · (repeat (refine em_pure hB kX6_findBeginnings rfl ?_))
        refine em_callV (μ' := mX6_beginningsOf) (c1 := 6) kX6_findBeginnings rfl lX6_103 tX6_beginningsOf (by decide) rfl (em_ltB hB rfl) bo rfl rfl (by decide) (Nat.le_of_ble_eq_true rfl) (Nat.le_refl _) (Nat.le_refl _) ?_
        (repeat (refine em_pureT 31 hB kX6_findBeginnings rfl rfl ?_))
        exact next _ (by rw [if_pos (Decidable.not_not.mp h)])
  (repeat (refine em_pureT 2 hB kX6_findBeginnings rfl rfl ?_))
  refine em_loc (lc' := [(0, .ref 15), (1, .int f), (2, .int (nI (0 + 1)))]) rfl ?_
  refine em_hpE (hp' := em_sI (em_hm n m dl I J rv) 20 (em_fbg (I 20) (I 19) f 0)) (em_sI_id (em_hm n m dl I J rv) 20).symm ?_
  exact loop 255 0 (by omega)
theorem s_placeByLowest (hB : 85 ≤ n) {f i : Nat} (hf : f < 256) (hi : i < 8) : em_MC Γ 2 mX6_placeByLowest [.ref 15, .int (nI f), .int (nI i)] (em_hm n m dl I J rv) (some (.int (em_pbl (I 20) (I 19) (i + 1) f 0 (-1)))) (em_hm n m dl I J rv) := by
  refine em_MC_of (Nat.le_refl _) (Nat.le_refl _) (by decide +kernel) rfl (Nat.le_of_ble_eq_true rfl) ?_
  have loop : ∀ d p r b w, p + d = i + 1 → r < 256 → em_EW Γ 2 mX6_placeByLowest (em_hm n m dl I J rv) (some (.int (em_pbl (I 20) (I 19) d r b w)), em_hm n m dl I J rv) 11 [(0, .ref 15), (1, .int (nI f)), (2, .int (nI i)), (3, .int (nI r)), (4, .int b), (5, .int w), (6, .int (nI p))] [] (em_hm n m dl I J rv) := by
    intro d
    induction d with
    | zero =>
      intro p r b w hp hr
      (repeat (refine em_pure hB kX6_placeByLowest rfl ?_))
      refine em_branch kX6_placeByLowest rfl (fun _ => ?_) (fun h => absurd (nI_lt (by omega) (by omega)) h)
      (repeat (refine em_pure hB kX6_placeByLowest rfl ?_))
      exact em_iret kX6_placeByLowest rfl rfl rfl rfl
    | succ d ih =>
      intro p r b w hp hr
      have lo := s_lowest Γ (em_hm n m dl I J rv) (I 20 r &&& em_nt b)
      (repeat (refine em_pure hB kX6_placeByLowest rfl ?_))
      refine em_branch kX6_placeByLowest rfl (fun h => absurd h (nI_nlt (by omega) (by omega))) (fun _ => ?_)
      (repeat (refine em_pure hB kX6_placeByLowest rfl ?_))
      refine em_ia (L := 256) hB kX6_placeByLowest rfl rfl rfl rfl rfl hr rfl ?_
      (repeat (refine em_pure hB kX6_placeByLowest rfl ?_))
      cases hl : em_lw1 (I 20 r &&& em_nt b) 8 0 with
      | none =>
        rw [hl] at lo
        have e : em_pbl (I 20) (I 19) (d + 1) r b w = -1 := by rw [em_pbl, hl]
        rw [e]
        refine em_callS (μ' := mX6_lowest) kX6_placeByLowest rfl lX6_106 tX6_lowest lo rfl rfl (by decide) (Nat.le_of_ble_eq_true rfl) (Nat.le_refl _) (Nat.le_refl _) ?_
        (repeat (refine em_pure hB kX6_placeByLowest rfl ?_))
        refine em_branch kX6_placeByLowest rfl (fun h => absurd rfl h) (fun _ => ?_)
        (repeat (refine em_pure hB kX6_placeByLowest rfl ?_))
        exact em_iret kX6_placeByLowest rfl rfl rfl rfl
      | some v =>
        rw [hl] at lo
        have hv := em_lw1_lt _ 8 0 v hl
        have e : em_pbl (I 20) (I 19) (d + 1) r b w = em_pbl (I 20) (I 19) d (em_cb r v) (I 19 v) (nI v) := by rw [em_pbl, hl]
        rw [e]
        obtain ⟨hc1, hc2⟩ := em_cb_ok r hr v (by omega)
        refine em_callS (μ' := mX6_lowest) kX6_placeByLowest rfl lX6_106 tX6_lowest lo rfl rfl (by decide) (Nat.le_of_ble_eq_true rfl) (Nat.le_refl _) (Nat.le_refl _) ?_
        (repeat (refine em_pure hB kX6_placeByLowest rfl ?_))
        refine em_branch kX6_placeByLowest rfl (fun _ => ?_) (fun (h : ¬ ¬ nI v = -1) => absurd (fun z => by have := congrArg Int32.toInt z; rw [nI_toInt (by omega)] at this; have h5 : (-1 : Int32).toInt = -1 := rfl; rw [h5] at this; omega) h)
        (repeat (refine em_pure hB kX6_placeByLowest rfl ?_))
        refine em_ia (L := 8) (j := v) hB kX6_placeByLowest rfl rfl rfl rfl rfl (by omega) rfl ?_
        (repeat (refine em_pureT 11 hB kX6_placeByLowest rfl rfl ?_))
        refine em_loc (lc' := [(0, .ref 15), (1, .int (nI f)), (2, .int (nI i)), (3, .int (nI r &&& em_nt (em_one1 v))), (4, .int (I 19 v)), (5, .int (nI v)), (6, .int (nI p + 1))]) rfl ?_
        rw [nI_1, hc1]
        exact ih (p + 1) _ _ _ (by omega) hc2
  (repeat (refine em_pureT 11 hB kX6_placeByLowest rfl rfl ?_))
  refine em_loc (lc' := [(0, .ref 15), (1, .int (nI f)), (2, .int (nI i)), (3, .int (nI f)), (4, .int 0), (5, .int (-1)), (6, .int (nI 0))]) rfl ?_
  exact loop (i + 1) 0 f 0 (-1) (by omega) hf
end Order
