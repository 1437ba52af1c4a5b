/-! THE ORDER'S PLACE; THE REFERENCE'S ORDER -/
theorem em_u2 {α : Type} (f : Nat → α) {a b : Nat} (x x' y : α) (h : ¬ a = b) : va_up (va_up (va_up f a x) b y) a x' = va_up (va_up f a x') b y := by
  rw [em_upc (va_up f a x) y x' (fun z => h z.symm), bx_uu]
def em_fwN (D : Nat → Int32) : Nat → Nat
  | 0 => 0
  | w + 1 => if D w = 0 then em_fwN D w else em_fwN D w + 2 ^ w
theorem em_or_ok : ∀ w, w < 8 → ∀ a, a < 2 ^ w → nI a ||| em_one1 w = nI (a + 2 ^ w) := by decide +kernel
theorem em_fwN_lt (D : Nat → Int32) : ∀ w, em_fwN D w < 2 ^ w
  | 0 => Nat.one_pos
  | w + 1 => by
    have := em_fwN_lt D w
    rw [em_fwN, Nat.pow_succ]
    split <;> omega
theorem em_fwN_ok (D : Nat → Int32) : ∀ w, w ≤ 8 → em_fw D w = nI (em_fwN D w)
  | 0, _ => rfl
  | w + 1, h => by
    rw [em_fw, em_fwN, em_fwN_ok D w (by omega)]
    split
    · rfl
    · exact em_or_ok w (by omega) _ (em_fwN_lt D w)
theorem em_pc_le : ∀ f, f < 256 → em_pc f ≤ 8 := by decide +kernel
def em_bdl (R : Nat → Nat → Bool) (la : Option Nat) (w : Nat) : Bool := match la with
  | none => false
  | some v => R v w
def em_lf (g : Nat → Option (List Nat)) : Nat → Nat → Option (List Nat)
  | 0, _ => none
  | d + 1, w => match g w with
    | some l => some l
    | none => em_lf g d (w + 1)
def em_ly (R : Nat → Nat → Bool) : Nat → (Nat → Bool) → Option Nat → Option (List Nat)
  | 0, _, _ => some []
  | c + 1, p, la => em_lf (fun w => if p w || em_bdl R la w then none else (em_ly R c (va_up p w true) (some w)).map (fun l => w :: l)) 8 0
def em_al (I : Nat → Nat → Int32) (N : Nat) : Nat → Nat
  | 0 => 0
  | w + 1 => if em_mm I (nI w) N = 0 then em_al I N w else em_al I N w + 1
theorem em_al_le (I : Nat → Nat → Int32) (N : Nat) : ∀ w, em_al I N w ≤ w
  | 0 => Nat.le_refl _
  | w + 1 => by
    have := em_al_le I N w
    rw [em_al]
    split <;> omega
def em_b1v (I : Nat → Nat → Int32) (N v w : Nat) : Bool := decide (¬ v = w) && em_abr I N (nI v) (nI w)
def em_bi (h : Nat → Bool) (g : Nat → Int32) (w : Nat) : Nat → Nat → Int32
  | 0 => g
  | v + 1 => va_up (em_bi h g w v) (8 * v + w) (if h v = true then 1 else 0)
def em_bo (h : Nat → Nat → Bool) (g : Nat → Int32) : Nat → Nat → Int32
  | 0 => g
  | w + 1 => em_bi (fun v => h v w) (em_bo h g w) w 8
def em_plc (h : Nat → Int32) (p : Nat → Int32) (k : Nat) : Nat → Int32 := fun q => if q < k then (if h q = 0 then 1 else 0) else p q
theorem em_plc_s (h p : Nat → Int32) (k : Nat) : va_up (em_plc h p k) k (if h k = 0 then 1 else 0) = em_plc h p (k + 1) := by
  funext q
  by_cases e : q = k
  · subst e
    rw [va_up_self, em_plc, if_pos (show q < q + 1 by omega)]
  · rw [va_up_ne _ _ e, em_plc, em_plc]
    by_cases h2 : q < k
    · rw [if_pos h2, if_pos (show q < k + 1 by omega)]
    · rw [if_neg h2, if_neg (show ¬ q < k + 1 by omega)]
theorem em_bi_at (h : Nat → Bool) (g : Nat → Int32) (w : Nat) : ∀ V v u, u < 8 → w < 8 → em_bi h g w V (8 * v + u) = if u = w ∧ v < V then (if h v = true then 1 else 0) else g (8 * v + u)
  | 0, v, u, hu, hw => by rw [em_bi, if_neg (by omega)]
  | V + 1, v, u, hu, hw => by
    rw [em_bi]
    by_cases e : 8 * v + u = 8 * V + w
    · have e1 : v = V := by omega
      have e2 : u = w := by omega
      rw [e, va_up_self, if_pos (show u = w ∧ v < V + 1 by omega), e1]
    · rw [va_up_ne _ _ e, em_bi_at h g w V v u hu hw]
      by_cases h2 : u = w ∧ v < V
      · rw [if_pos h2, if_pos (show u = w ∧ v < V + 1 by omega)]
      · rw [if_neg h2, if_neg (show ¬ (u = w ∧ v < V + 1) by omega)]
theorem em_bo_at (h : Nat → Nat → Bool) (g : Nat → Int32) : ∀ W v u, v < 8 → u < 8 → W ≤ 8 → em_bo h g W (8 * v + u) = if u < W then (if h v u = true then 1 else 0) else g (8 * v + u)
  | 0, v, u, hv, hu, hW => by rw [em_bo, if_neg (by omega)]
  | W + 1, v, u, hv, hu, hW => by
    rw [em_bo, em_bi_at _ _ _ _ _ _ hu (by omega), em_bo_at h g W v u hv hu (by omega)]
    by_cases e : u = W
    · rw [if_pos ⟨e, hv⟩, if_pos (show u < W + 1 by omega), e]
    · rw [if_neg (fun z => e z.1)]
      by_cases h2 : u < W
      · rw [if_pos h2, if_pos (show u < W + 1 by omega)]
      · rw [if_neg h2, if_neg (show ¬ u < W + 1 by omega)]
section MOrder
variable {Γ : em_Cx} {n m : Nat} {dl : Nat → Nat} {I : Nat → Nat → Int32} {J : Nat → Nat → Int64} {rv : em_Rv}
theorem s_placeInOrder_no (hB : 85 ≤ n) {N : Nat} {x : Int32} (hx : I 1 2 = nI N) (hN : N ≤ 40) (hw : ∀ b, b < N → I 16 b = -1 ∨ ∃ w, w < 8 ∧ I 16 b = nI w) (h : ¬ (0 ≤ x ∧ x ≤ nI (em_pc (em_fwN (em_fk I N) 8)) - 1)) : em_MC Γ 4 mX6_placeInOrder [.ref 15, .int x] (em_hm n m dl I J rv) (some (.int (-1))) (em_sI (em_hm n m dl I J rv) 18 (em_fk I N)) := by
  refine em_MC_of (Nat.le_refl _) (Nat.le_refl _) (by decide +kernel) rfl (Nat.le_of_ble_eq_true rfl) ?_
  have fl : em_MC Γ 0 mX6_filledWagons [.ref 15] (em_sI (em_hm n m dl I J rv) 18 (em_fk I N)) (some (.int (em_fw (em_fk I N) 8))) (em_sI (em_hm n m dl I J rv) 18 (em_fk I N)) := s_filled (I := va_up I 18 (em_fk I N)) hB
  have lt : em_fwN (em_fk I N) 8 < 256 := em_fwN_lt _ 8
  rw [em_fwN_ok _ 8 (by omega)] at fl
  (repeat (refine em_pure hB kX6_placeInOrder rfl ?_))
  refine em_callV (μ' := mX6_findKinds) (c1 := 6) kX6_placeInOrder rfl lX6_78 tX6_findKinds (by decide) rfl (em_ltB hB rfl) (s_findKinds hB hx hN hw) rfl rfl (by decide) (Nat.le_of_ble_eq_true rfl) (Nat.le_refl _) (Nat.le_refl _) ?_
  (repeat (refine em_pure hB kX6_placeInOrder rfl ?_))
  refine em_callV (μ' := mX6_filledWagons) (c1 := 6) kX6_placeInOrder rfl lX6_81 tX6_filledWagons (by decide) rfl (em_ltB hB rfl) fl rfl rfl (by decide) (Nat.le_of_ble_eq_true rfl) (Nat.le_refl _) (Nat.le_refl _) ?_
  (repeat (refine em_pure hB kX6_placeInOrder rfl ?_))
  refine em_callS (μ' := mJ6_bitCount_0f7a4) kX6_placeInOrder rfl lX6_84 tJ6_bitCount_0f7a4 (s_bitCount Γ _ lt) rfl rfl (by decide) (Nat.le_of_ble_eq_true rfl) (Nat.le_refl _) (Nat.le_refl _) ?_
  (repeat (refine em_pure hB kX6_placeInOrder rfl ?_))
  refine em_callS (μ' := mX7_within) kX6_placeInOrder rfl lX6_43 tX7_within (s_within Γ _ x 0 (nI (em_pc (em_fwN (em_fk I N) 8)) - 1)) rfl rfl (by decide) (Nat.le_of_ble_eq_true rfl) (Nat.le_refl _) (Nat.le_refl _) ?_
  refine em_bn kX6_placeInOrder rfl (fun h1 => absurd h1 h) (fun _ => ?_)
  (repeat (refine em_pure hB kX6_placeInOrder rfl ?_))
  exact em_iret kX6_placeInOrder rfl rfl rfl rfl
abbrev em_foe (I : Nat → Nat → Int32) (N : Nat) : Nat → Int32 := em_ff (I 17) (em_fk I N) (I 19) 8
abbrev em_beg (I : Nat → Nat → Int32) (N : Nat) : Nat → Int32 := em_fbg (I 20) (em_foe I N) (nI (em_fwN (em_fk I N) 8)) 255
theorem s_placeInOrder_ok (hB : 85 ≤ n) {N i : Nat} (hx : I 1 2 = nI N) (hN : N ≤ 40) (hw : ∀ b, b < N → I 16 b = -1 ∨ ∃ w, w < 8 ∧ I 16 b = nI w) (h : i < em_pc (em_fwN (em_fk I N) 8)) : em_MC Γ 4 mX6_placeInOrder [.ref 15, .int (nI i)] (em_hm n m dl I J rv) (some (.int (em_pbl (em_beg I N) (em_foe I N) (i + 1) (em_fwN (em_fk I N) 8) 0 (-1)))) (em_sI (em_sI (em_sI (em_hm n m dl I J rv) 18 (em_fk I N)) 19 (em_foe I N)) 20 (em_beg I N)) := by
  refine em_MC_of (Nat.le_refl _) (Nat.le_refl _) (by decide +kernel) rfl (Nat.le_of_ble_eq_true rfl) ?_
  have lt : em_fwN (em_fk I N) 8 < 256 := em_fwN_lt _ 8
  have hpc := em_pc_le _ lt
  have fl : em_MC Γ 0 mX6_filledWagons [.ref 15] (em_sI (em_hm n m dl I J rv) 18 (em_fk I N)) (some (.int (em_fw (em_fk I N) 8))) (em_sI (em_hm n m dl I J rv) 18 (em_fk I N)) := s_filled (I := va_up I 18 (em_fk I N)) hB
  rw [em_fwN_ok _ 8 (by omega)] at fl
  have ff : em_MC Γ 2 mX6_findFoes [.ref 15] (em_sI (em_hm n m dl I J rv) 18 (em_fk I N)) none (em_sI (em_sI (em_hm n m dl I J rv) 18 (em_fk I N)) 19 (em_foe I N)) := s_findFoes (I := va_up I 18 (em_fk I N)) hB
  have fb : em_MC Γ 2 mX6_findBeginnings [.ref 15, .int (nI (em_fwN (em_fk I N) 8))] (em_sI (em_sI (em_hm n m dl I J rv) 18 (em_fk I N)) 19 (em_foe I N)) none (em_sI (em_sI (em_sI (em_hm n m dl I J rv) 18 (em_fk I N)) 19 (em_foe I N)) 20 (em_beg I N)) := s_findBeginnings (I := va_up (va_up I 18 (em_fk I N)) 19 (em_foe I N)) hB
  have pb : em_MC Γ 2 mX6_placeByLowest [.ref 15, .int (nI (em_fwN (em_fk I N) 8)), .int (nI i)] (em_sI (em_sI (em_sI (em_hm n m dl I J rv) 18 (em_fk I N)) 19 (em_foe I N)) 20 (em_beg I N)) (some (.int (em_pbl (em_beg I N) (em_foe I N) (i + 1) (em_fwN (em_fk I N) 8) 0 (-1)))) (em_sI (em_sI (em_sI (em_hm n m dl I J rv) 18 (em_fk I N)) 19 (em_foe I N)) 20 (em_beg I N)) := s_placeByLowest (I := va_up (va_up (va_up I 18 (em_fk I N)) 19 (em_foe I N)) 20 (em_beg I N)) hB lt (by omega)
  (repeat (refine em_pure hB kX6_placeInOrder rfl ?_))
  refine em_callV (μ' := mX6_findKinds) (c1 := 6) kX6_placeInOrder rfl lX6_78 tX6_findKinds (by decide) rfl (em_ltB hB rfl) (s_findKinds hB hx hN hw) rfl rfl (by decide) (Nat.le_of_ble_eq_true rfl) (Nat.le_refl _) (Nat.le_refl _) ?_
  (repeat (refine em_pure hB kX6_placeInOrder rfl ?_))
  refine em_callV (μ' := mX6_filledWagons) (c1 := 6) kX6_placeInOrder rfl lX6_81 tX6_filledWagons (by decide) rfl (em_ltB hB rfl) fl rfl rfl (by decide) (Nat.le_of_ble_eq_true rfl) (Nat.le_refl _) (Nat.le_refl _) ?_
  (repeat (refine em_pure hB kX6_placeInOrder rfl ?_))
  refine em_callS (μ' := mJ6_bitCount_0f7a4) kX6_placeInOrder rfl lX6_84 tJ6_bitCount_0f7a4 (s_bitCount Γ _ lt) rfl rfl (by decide) (Nat.le_of_ble_eq_true rfl) (Nat.le_refl _) (Nat.le_refl _) ?_
  (repeat (refine em_pure hB kX6_placeInOrder rfl ?_))
  refine em_callS (μ' := mX7_within) kX6_placeInOrder rfl lX6_43 tX7_within (s_within Γ _ (nI i) 0 (nI (em_pc (em_fwN (em_fk I N) 8)) - 1)) rfl rfl (by decide) (Nat.le_of_ble_eq_true rfl) (Nat.le_refl _) (Nat.le_refl _) ?_
  refine em_bn kX6_placeInOrder rfl (fun _ => ?_) (fun h1 => absurd (em_inB rfl (by omega) rfl h) h1)
  (repeat (refine em_pure hB kX6_placeInOrder rfl ?_))
  refine em_callV (μ' := mX6_findFoes) (c1 := 6) kX6_placeInOrder rfl lX6_89 tX6_findFoes (by decide) rfl (em_ltB hB rfl) ff rfl rfl (by decide) (Nat.le_of_ble_eq_true rfl) (Nat.le_refl _) (Nat.le_refl _) ?_
  (repeat (refine em_pure hB kX6_placeInOrder rfl ?_))
  refine em_callV (μ' := mX6_findBeginnings) (c1 := 6) kX6_placeInOrder rfl lX6_92 tX6_findBeginnings (by decide) rfl (em_ltB hB rfl) fb rfl rfl (by decide) (Nat.le_of_ble_eq_true rfl) (Nat.le_refl _) (Nat.le_refl _) ?_
  (repeat (refine em_pure hB kX6_placeInOrder rfl ?_))
  refine em_callV (μ' := mX6_placeByLowest) (c1 := 6) kX6_placeInOrder rfl lX6_96 tX6_placeByLowest (by decide) rfl (em_ltB hB rfl) pb rfl rfl (by decide) (Nat.le_of_ble_eq_true rfl) (Nat.le_refl _) (Nat.le_refl _) ?_
  exact em_iret kX6_placeInOrder rfl rfl rfl rfl
abbrev em_ry (n m : Nat) (dl : Nat → Nat) (I : Nat → Nat → Int32) (J : Nat → Nat → Int64) (rv : em_Rv) (row p : Nat → Int32) : em_Hp := em_hm n m dl (va_up (va_up I 68 row) 69 p) J rv
abbrev em_pB (p : Nat → Int32) : Nat → Bool := fun w => decide (¬ p w = 0)
theorem em_pB_up (p : Nat → Int32) (w : Nat) : em_pB (va_up p w 1) = va_up (em_pB p) w true := by
  funext q
  by_cases e : q = w
  · subst e
    show decide (¬ va_up p q 1 q = 0) = _
    rw [va_up_self, va_up_self]
    rfl
  · show decide (¬ va_up p w 1 q = 0) = _
    rw [va_up_ne _ _ e, va_up_ne _ _ e]
theorem s_mLays (hB : 85 ≤ n) {R : Nat → Nat → Bool} (hR : ∀ v w, v < 8 → w < 8 → (R v w = true ↔ ¬ I 70 (8 * v + w) = 0)) {all : Nat} (hall : all ≤ 8) : ∀ c nn row p la, nn + c = all → ((nn = 0 ∧ la = none) ∨ ∃ v, v < 8 ∧ 0 < nn ∧ row (nn - 1) = nI v ∧ la = some v) →
    ∃ row' p', em_MC Γ c mX8_lays [.ref 53, .int (nI nn), .int (nI all)] (em_ry n m dl I J rv row p) (some (.int (if (em_ly R c (em_pB p) la).isSome then 1 else 0))) (em_ry n m dl I J rv row' p') ∧ (∀ i, i < nn → row' i = row i) ∧ (∀ l, em_ly R c (em_pB p) la = some l → ∀ i, i < c → row' (nn + i) = nI (l.getD i 0)) ∧ (em_ly R c (em_pB p) la = none → p' = p) := by
  intro c
  induction c with
  | zero =>
    intro nn row p la hc hla
    obtain rfl : nn = all := by omega
    refine ⟨row, p, ?_, fun _ _ => rfl, fun l hl i hi => by omega, fun h => by cases h⟩
    refine em_MC_of (Nat.le_refl _) (Nat.le_refl _) (by decide +kernel) rfl (Nat.le_of_ble_eq_true rfl) ?_
    (repeat (refine em_pure hB kX8_lays rfl ?_))
    refine em_branch kX8_lays rfl (fun h => absurd rfl h) (fun _ => ?_)
    (repeat (refine em_pure hB kX8_lays rfl ?_))
    exact em_iret kX8_lays rfl rfl rfl rfl
  | succ c ihc =>
    intro nn row p la hc hla
    have eG : em_ly R (c + 1) (em_pB p) la = em_lf (fun w => if em_pB p w || em_bdl R la w then none else (em_ly R c (va_up (em_pB p) w true) (some w)).map (fun l => w :: l)) 8 0 := rfl
    generalize hG : (fun w => if em_pB p w || em_bdl R la w then none else (em_ly R c (va_up (em_pB p) w true) (some w)).map (fun l => w :: l)) = g at eG
    have loop : ∀ d w row1, w + d = 8 → (∀ i, i < nn → row1 i = row i) → ∃ row' p', em_EW Γ (c + 1) mX8_lays (em_ry n m dl I J rv row p) (some (.int (if (em_lf g d w).isSome then 1 else 0)), em_ry n m dl I J rv row' p') 9 [(0, .ref 53), (1, .int (nI nn)), (2, .int (nI all)), (3, .int (nI w))] [] (em_ry n m dl I J rv row1 p) ∧ (∀ i, i < nn → row' i = row i) ∧ (∀ l, em_lf g d w = some l → ∀ i, i < c + 1 → row' (nn + i) = nI (l.getD i 0)) ∧ (em_lf g d w = none → p' = p) := by
      intro d
      induction d with
      | zero =>
        intro w row1 hw hr1
        obtain rfl : w = 8 := by omega
        refine ⟨row1, p, ?_, hr1, (fun l hl => by cases hl), fun _ => rfl⟩
        (repeat (refine em_pure hB kX8_lays rfl ?_))
        refine em_branch kX8_lays rfl (fun _ => ?_) (fun h => absurd (by decide) h)
        (repeat (refine em_pure hB kX8_lays rfl ?_))
        exact em_iret kX8_lays rfl rfl rfl rfl
      | succ d ihd =>
        intro w row1 hw hr1
        have hgw : g w = if em_pB p w || em_bdl R la w then none else (em_ly R c (va_up (em_pB p) w true) (some w)).map (fun l => w :: l) := by rw [← hG]
        -- going on to the next wagon
        have skip : g w = none → ∀ row2, (∀ i, i < nn → row2 i = row i) → ∃ row' p', em_EW Γ (c + 1) mX8_lays (em_ry n m dl I J rv row p) (some (.int (if (em_lf g (d + 1) w).isSome then 1 else 0)), em_ry n m dl I J rv row' p') 86 [(0, .ref 53), (1, .int (nI nn)), (2, .int (nI all)), (3, .int (nI w))] [] (em_ry n m dl I J rv row2 p) ∧ (∀ i, i < nn → row' i = row i) ∧ (∀ l, em_lf g (d + 1) w = some l → ∀ i, i < c + 1 → row' (nn + i) = nI (l.getD i 0)) ∧ (em_lf g (d + 1) w = none → p' = p) := by
          intro hg row2 hr2
          have e : em_lf g (d + 1) w = em_lf g d (w + 1) := by rw [em_lf, hg]
          rw [e]
          obtain ⟨row', p', hE, h1, h2, h3⟩ := ihd (w + 1) row2 (by omega) hr2
          refine ⟨row', p', ?_, h1, h2, h3⟩
          (repeat (refine em_pureT 9 hB kX8_lays rfl rfl ?_))
          refine em_loc (lc' := [(0, .ref 53), (1, .int (nI nn)), (2, .int (nI all)), (3, .int (nI w + 1))]) rfl ?_
          rw [nI_1]
          exact hE
        have head : ∀ fin : Option Value × em_Hp, em_EW Γ (c + 1) mX8_lays (em_ry n m dl I J rv row p) fin 15 [(0, .ref 53), (1, .int (nI nn)), (2, .int (nI all)), (3, .int (nI w))] [] (em_ry n m dl I J rv row1 p) → em_EW Γ (c + 1) mX8_lays (em_ry n m dl I J rv row p) fin 9 [(0, .ref 53), (1, .int (nI nn)), (2, .int (nI all)), (3, .int (nI w))] [] (em_ry n m dl I J rv row1 p) := by
          intro fin k
          (repeat (refine em_pure hB kX8_lays rfl ?_))
          refine em_branch kX8_lays rfl (fun (h : (8 : Int32) ≤ nI w) => absurd h (nI_ge (b := 8) (by omega) (by omega))) (fun _ => ?_)
          exact k
        by_cases hpw : p w = 0
        case neg =>
          have hg0 : g w = none := by rw [hgw, show em_pB p w = true from decide_eq_true hpw]; rfl
          obtain ⟨row', p', hE, h1, h2, h3⟩ := skip hg0 row1 hr1
          refine ⟨row', p', head _ ?_, h1, h2, h3⟩
          (repeat (refine em_pure hB kX8_lays rfl ?_))
          refine em_za (L := 8) hB kX8_lays rfl rfl rfl rfl rfl (show w < 8 by omega) rfl ?_
          exact em_branch kX8_lays rfl (fun _ => hE) (fun h => absurd hpw h)
        have hpB : em_pB p w = false := decide_eq_false (fun z => z hpw)
        have toBar : ∀ fin : Option Value × em_Hp, em_EW Γ (c + 1) mX8_lays (em_ry n m dl I J rv row p) fin 24 [(0, .ref 53), (1, .int (nI nn)), (2, .int (nI all)), (3, .int (nI w))] [] (em_ry n m dl I J rv row1 p) → em_EW Γ (c + 1) mX8_lays (em_ry n m dl I J rv row p) fin 15 [(0, .ref 53), (1, .int (nI nn)), (2, .int (nI all)), (3, .int (nI w))] [] (em_ry n m dl I J rv row1 p) := by
          intro fin k
          (repeat (refine em_pure hB kX8_lays rfl ?_))
          refine em_za (L := 8) hB kX8_lays rfl rfl rfl rfl rfl (show w < 8 by omega) rfl ?_
          exact em_branch kX8_lays rfl (fun h => absurd hpw h) (fun _ => k)
        have barT : em_bdl R la w = true → ∀ fin : Option Value × em_Hp, em_EW Γ (c + 1) mX8_lays (em_ry n m dl I J rv row p) fin 86 [(0, .ref 53), (1, .int (nI nn)), (2, .int (nI all)), (3, .int (nI w))] [] (em_ry n m dl I J rv row1 p) → em_EW Γ (c + 1) mX8_lays (em_ry n m dl I J rv row p) fin 24 [(0, .ref 53), (1, .int (nI nn)), (2, .int (nI all)), (3, .int (nI w))] [] (em_ry n m dl I J rv row1 p) := by
          intro hb fin k
          rcases hla with ⟨h0, rfl⟩ | ⟨v, hv, hn0, hrv, rfl⟩
          · cases hb
          have hb2 := (hR v w hv (by omega)).mp hb
          have e1 : nI nn - 1 = nI (nn - 1) := pk_sub (b := 1) (by omega)
          (repeat (refine em_pure hB kX8_lays rfl ?_))
          refine em_branch kX8_lays rfl (fun (h : nI nn ≤ 0) => absurd h (nI_nle hn0 (by omega))) (fun _ => ?_)
          (repeat (refine em_pure hB kX8_lays rfl ?_))
          refine em_ia (L := 8) hB kX8_lays rfl rfl rfl rfl e1 (show nn - 1 < 8 by omega) rfl ?_
          (repeat (refine em_pure hB kX8_lays rfl ?_))
          refine em_za (L := 64) hB kX8_lays rfl rfl rfl rfl (show 8 * row1 (nn - 1) + nI w = nI (8 * v + w) by rw [hr1 _ (by omega), hrv, em_w64']) (show 8 * v + w < 64 by omega) rfl ?_
          refine em_branch kX8_lays rfl (fun h => absurd h hb2) (fun _ => ?_)
          (repeat (refine em_pureT 86 hB kX8_lays rfl rfl ?_))
          exact k
        have barF : em_bdl R la w = false → ∀ fin : Option Value × em_Hp, em_EW Γ (c + 1) mX8_lays (em_ry n m dl I J rv row p) fin 52 [(0, .ref 53), (1, .int (nI nn)), (2, .int (nI all)), (3, .int (nI w))] [] (em_ry n m dl I J rv row1 p) → em_EW Γ (c + 1) mX8_lays (em_ry n m dl I J rv row p) fin 24 [(0, .ref 53), (1, .int (nI nn)), (2, .int (nI all)), (3, .int (nI w))] [] (em_ry n m dl I J rv row1 p) := by
          intro hb fin k
          rcases hla with ⟨rfl, rfl⟩ | ⟨v, hv, hn0, hrv, rfl⟩
          · (repeat (refine em_pure hB kX8_lays rfl ?_))
            exact em_branch kX8_lays rfl (fun _ => k) (fun h => absurd (by decide) h)
          have hb2 : I 70 (8 * v + w) = 0 := Decidable.not_not.mp (fun z => by have := (hR v w hv (by omega)).mpr z; rw [show R v w = false from hb] at this; cases this)
          have e1 : nI nn - 1 = nI (nn - 1) := pk_sub (b := 1) (by omega)
          (repeat (refine em_pure hB kX8_lays rfl ?_))
          refine em_branch kX8_lays rfl (fun (h : nI nn ≤ 0) => absurd h (nI_nle hn0 (by omega))) (fun _ => ?_)
          (repeat (refine em_pure hB kX8_lays rfl ?_))
          refine em_ia (L := 8) hB kX8_lays rfl rfl rfl rfl e1 (show nn - 1 < 8 by omega) rfl ?_
          (repeat (refine em_pure hB kX8_lays rfl ?_))
          refine em_za (L := 64) hB kX8_lays rfl rfl rfl rfl (show 8 * row1 (nn - 1) + nI w = nI (8 * v + w) by rw [hr1 _ (by omega), hrv, em_w64']) (show 8 * v + w < 64 by omega) rfl ?_
          exact em_branch kX8_lays rfl (fun _ => k) (fun h => absurd hb2 h)
        cases hbar : em_bdl R la w with
        | true =>
          have hg0 : g w = none := by rw [hgw, hbar, Bool.or_true]; rfl
          obtain ⟨row', p', hE, h1, h2, h3⟩ := skip hg0 row1 hr1
          exact ⟨row', p', head _ (toBar _ (barT hbar _ hE)), h1, h2, h3⟩
        | false =>
          have hg1 : g w = (em_ly R c (va_up (em_pB p) w true) (some w)).map (fun l => w :: l) := by rw [hgw, hbar, hpB]; rfl
          obtain ⟨row3, p3, hM, k1, k2, k3⟩ := ihc (nn + 1) (va_up row1 nn (nI w)) (va_up p w 1) (some w) (by omega) (Or.inr ⟨w, by omega, by omega, by show va_up row1 nn (nI w) (nn + 1 - 1) = _; rw [Nat.add_sub_cancel, va_up_self], rfl⟩)
          rw [em_pB_up] at hM k2 k3
          rw [← nI_1] at hM
          have put : ∀ fin : Option Value × em_Hp, em_n fin.2 = n → em_m fin.2 = m → em_EW Γ (c + 1) mX8_lays (em_ry n m dl I J rv row p) fin 74 [(0, .ref 53), (1, .int (nI nn)), (2, .int (nI all)), (3, .int (nI w))] [.int (if (em_ly R c (va_up (em_pB p) w true) (some w)).isSome then 1 else 0)] (em_ry n m dl I J rv row3 p3) → em_EW Γ (c + 1) mX8_lays (em_ry n m dl I J rv row p) fin 52 [(0, .ref 53), (1, .int (nI nn)), (2, .int (nI all)), (3, .int (nI w))] [] (em_ry n m dl I J rv row1 p) := by
            intro fin f1 f2 k
            (repeat (refine em_pure hB kX8_lays rfl ?_))
            refine em_zw (L := 8) hB kX8_lays rfl rfl rfl rfl rfl (show w < 8 by omega) rfl (Or.inr rfl) ?_
            refine em_hpE (hp' := em_ry n m dl I J rv row1 (va_up p w 1)) (em_sI2 (em_hm n m dl (va_up I 68 row1) J rv) 69 _ _) ?_
            (repeat (refine em_pure hB kX8_lays rfl ?_))
            refine em_iw (L := 8) hB kX8_lays rfl rfl rfl rfl rfl (show nn < 8 by omega) rfl ?_
            refine em_hpE (hp' := em_ry n m dl I J rv (va_up row1 nn (nI w)) (va_up p w 1)) (congrArg (fun z => em_hm n m dl z J rv) (em_u2 I (a := 68) (b := 69) _ _ _ (by decide))) ?_
            (repeat (refine em_pure hB kX8_lays rfl ?_))
            refine em_callV (μ' := mX8_lays) (c1 := 8) kX8_lays rfl lX8_155 tX8_lays (by decide) rfl (em_ltB hB rfl) hM rfl rfl (Nat.le_refl _) (Nat.le_of_ble_eq_true rfl) (by rw [f1]; exact Nat.le_refl _) (by rw [f2]; exact Nat.le_refl _) ?_
            exact k
          cases hly : em_ly R c (va_up (em_pB p) w true) (some w) with
          | some l =>
            rw [hly] at hg1 put
            have e : em_lf g (d + 1) w = some (w :: l) := by rw [em_lf, hg1]; rfl
            rw [e]
            refine ⟨row3, p3, head _ (toBar _ (barF hbar _ (put _ rfl rfl ?_))), fun i hi => ?_, fun l' hl' i hi => ?_, fun h => by cases h⟩
            · refine em_branch kX8_lays rfl (fun h => absurd h (show ¬ (1 : Int32) = 0 by decide)) (fun _ => ?_)
              (repeat (refine em_pure hB kX8_lays rfl ?_))
              exact em_iret kX8_lays rfl rfl rfl rfl
            · rw [k1 i (by omega), va_up_ne _ _ (by omega), hr1 i hi]
            · cases hl'
              by_cases hi0 : i = 0
              · subst hi0
                show row3 (nn + 0) = nI w
                rw [Nat.add_zero, k1 nn (by omega), va_up_self]
              · obtain ⟨i', rfl⟩ : ∃ i', i = i' + 1 := ⟨i - 1, by omega⟩
                have := k2 l hly i' (by omega)
                rw [show nn + 1 + i' = nn + (i' + 1) by omega] at this
                rw [this]
                rfl
          | none =>
            rw [hly] at hg1 put
            have hp3 := k3 hly
            obtain ⟨row', p', hE, h1, h2, h3⟩ := skip hg1 row3 (fun i hi => by rw [k1 i (by omega), va_up_ne _ _ (by omega), hr1 i hi])
            refine ⟨row', p', head _ (toBar _ (barF hbar _ (put _ ?_ ?_ ?_))), h1, h2, h3⟩
            · rfl
            · rfl
            · refine em_branch kX8_lays rfl (fun _ => ?_) (fun h => absurd rfl h)
              (repeat (refine em_pure hB kX8_lays rfl ?_))
              refine em_zw (L := 8) hB kX8_lays rfl rfl rfl rfl rfl (show w < 8 by omega) rfl (Or.inl rfl) ?_
              refine em_hpE (hp' := em_ry n m dl I J rv row3 p) ((em_sI2 (em_hm n m dl (va_up I 68 row3) J rv) 69 _ _).trans ?_) hE
              show em_sI (em_hm n m dl (va_up I 68 row3) J rv) 69 (va_up p3 w 0) = _
              rw [hp3, bx_uu]
              have : va_up p w 0 = p := by rw [← hpw]; exact em_va_id p w
              rw [this]
    obtain ⟨row', p', hE, h1, h2, h3⟩ := loop 8 0 row (by omega) (fun _ _ => rfl)
    rw [eG]
    refine ⟨row', p', ?_, h1, h2, h3⟩
    refine em_MC_of (Nat.le_refl _) (Nat.le_refl _) (by decide +kernel) rfl (Nat.le_of_ble_eq_true rfl) ?_
    (repeat (refine em_pure hB kX8_lays rfl ?_))
    refine em_branch kX8_lays rfl (fun _ => ?_) (fun (h : ¬ ¬ nI nn = nI all) => absurd (fun z => by have := (nI_eq (by omega) (by omega)).mp z; omega) h)
    (repeat (refine em_pureT 9 hB kX8_lays rfl rfl ?_))
    exact em_loc (lc' := [(0, .ref 53), (1, .int (nI nn)), (2, .int (nI all)), (3, .int (nI 0))]) rfl hE
end MOrder
