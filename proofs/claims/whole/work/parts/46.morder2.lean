/-! THE REFERENCE'S ORDER -/
abbrev em_pl8 (I : Nat → Nat → Int32) (N k : Nat) : Nat → Int32 := em_plc (fun q => em_mm I (nI q) N) (I 69) k
abbrev em_b70 (I : Nat → Nat → Int32) (N k : Nat) : Nat → Int32 := em_bo (em_b1v I N) (I 70) k
def em_mOr (I : Nat → Nat → Int32) (N i : Nat) : Int32 := match em_ly (em_b1v I N) (em_al I N 8) (em_pB (em_pl8 I N 8)) none with
  | some l => nI (l.getD i 0)
  | none => -1
section MOrder2
variable {Γ : em_Cx} {n m : Nat} {dl : Nat → Nat} {I : Nat → Nat → Int32} {J : Nat → Nat → Int64} {rv : em_Rv}
abbrev em_rz (n m : Nat) (dl : Nat → Nat) (I : Nat → Nat → Int32) (J : Nat → Nat → Int64) (rv : em_Rv) (g p : Nat → Int32) : em_Hp := em_hm n m dl (va_up (va_up I 70 g) 69 p) J rv
theorem s_mOrder_loop (hB : 85 ≤ n) {x : Int32} {N : Nat} (hx : I 53 1 = nI N) (hN : N ≤ 40) (hk : ∀ b, b < N → ∃ k, k < 8 ∧ I 56 b = nI k) {fin : Option Value × em_Hp} (f1 : em_n fin.2 = n) (f2 : em_m fin.2 = m)
    (c : em_EW Γ 9 mX8_order (em_hm n m dl I J rv) fin 101 [(0, .ref 53), (1, .int x), (2, .int (nI (em_al I N 8)))] [] (em_rz n m dl I J rv (em_b70 I N 8) (em_pl8 I N 8))) : em_EW Γ 9 mX8_order (em_hm n m dl I J rv) fin 0 (lv_args 0 [.ref 53, .int x]) [] (em_hm n m dl I J rv) := by
  have many : ∀ (g p : Nat → Int32) (w : Int32), em_MC Γ 0 mX8_manyIn [.ref 53, .int w] (em_rz n m dl I J rv g p) (some (.int (em_mm I w N))) (em_rz n m dl I J rv g p) := fun g p w => s_mManyIn (I := va_up (va_up I 70 g) 69 p) hB hx hN
  have are : ∀ (g p : Nat → Int32) (v w : Int32), em_MC Γ 0 mX8_areBarred [.ref 53, .int v, .int w] (em_rz n m dl I J rv g p) (some (.int (if em_abr I N v w = true then 1 else 0))) (em_rz n m dl I J rv g p) := fun g p v w => s_mAreBarred (I := va_up (va_up I 70 g) 69 p) hB hx hN hk
  have outer : ∀ d w, w + d = 8 → em_EW Γ 9 mX8_order (em_hm n m dl I J rv) fin 4 [(0, .ref 53), (1, .int x), (2, .int (nI (em_al I N w))), (3, .int (nI w))] [] (em_rz n m dl I J rv (em_b70 I N w) (em_pl8 I N w)) := by
    intro d
    induction d with
    | zero =>
      intro w hw
      obtain rfl : w = 8 := by omega
      (repeat (refine em_pure hB kX8_order rfl ?_))
      refine em_branch kX8_order rfl (fun _ => ?_) (fun h => absurd (by decide) h)
      exact em_loc (lc' := [(0, .ref 53), (1, .int x), (2, .int (nI (em_al I N 8)))]) rfl c
    | succ d ih =>
      intro w hw
      have inner : ∀ d v, v + d = 8 → em_EW Γ 9 mX8_order (em_hm n m dl I J rv) fin 49 [(0, .ref 53), (1, .int x), (2, .int (nI (em_al I N (w + 1)))), (3, .int (nI w)), (4, .int (nI v))] [] (em_rz n m dl I J rv (em_bi (fun v => em_b1v I N v w) (em_b70 I N w) w v) (em_pl8 I N (w + 1))) := by
        intro d
        induction d with
        | zero =>
          intro v hv
          obtain rfl : v = 8 := by omega
          (repeat (refine em_pure hB kX8_order rfl ?_))
          refine em_branch kX8_order rfl (fun _ => ?_) (fun h => absurd (by decide) h)
          (repeat (refine em_pureT 4 hB kX8_order rfl rfl ?_))
          refine em_loc (lc' := [(0, .ref 53), (1, .int x), (2, .int (nI (em_al I N (w + 1)))), (3, .int (nI w + 1))]) rfl ?_
          rw [nI_1]
          exact ih (w + 1) (by omega)
        | succ d ih2 =>
          intro v hv
          have ih3 := ih2 (v + 1) (by omega)
          rw [em_bi] at ih3
          generalize em_bi (fun v => em_b1v I N v w) (em_b70 I N w) w v = g at *
          have next : ∀ z, z = (if em_b1v I N v w = true then (1 : Int32) else 0) → em_EW Γ 9 mX8_order (em_hm n m dl I J rv) fin 88 [(0, .ref 53), (1, .int x), (2, .int (nI (em_al I N (w + 1)))), (3, .int (nI w)), (4, .int (nI v))] [.int z, .int (8 * nI v + nI w), .ref 70] (em_rz n m dl I J rv g (em_pl8 I N (w + 1))) := by
            intro z hz
            have h01 : z = 0 ∨ z = 1 := by
              rw [hz]
              split
              · exact Or.inr rfl
              · exact Or.inl rfl
            refine em_zw (L := 64) hB kX8_order rfl rfl rfl rfl em_w64' (show 8 * v + w < 64 by omega) rfl h01 ?_
            refine em_hpE (hp' := em_rz n m dl I J rv (va_up g (8 * v + w) z) (em_pl8 I N (w + 1))) (congrArg (fun z => em_hm n m dl z J rv) (em_u2 I (a := 70) (b := 69) _ _ _ (by decide))) ?_
            (repeat (refine em_pureT 49 hB kX8_order rfl rfl ?_))
            refine em_loc (lc' := [(0, .ref 53), (1, .int x), (2, .int (nI (em_al I N (w + 1)))), (3, .int (nI w)), (4, .int (nI v + 1))]) rfl ?_
            rw [nI_1, hz]
            exact ih3
          (repeat (refine em_pure hB kX8_order rfl ?_))
          refine em_branch kX8_order rfl (fun (h : (8 : Int32) ≤ nI v) => absurd h (nI_ge (b := 8) (by omega) (by omega))) (fun _ => ?_)
          (repeat (refine em_pure hB kX8_order rfl ?_))
          refine em_branch kX8_order rfl (fun (h : nI v = nI w) => ?_) (fun (h : ¬ nI v = nI w) => ?_)
          · have hvw : v = w := (nI_eq (by omega) (by omega)).mp h
            (repeat (refine em_pureT 88 hB kX8_order rfl rfl ?_))
            exact next 0 (by rw [em_b1v, decide_eq_false (fun z => z hvw)]; rfl)
          · have hvw : ¬ v = w := fun z => h (by rw [z])
            have eb : em_b1v I N v w = em_abr I N (nI v) (nI w) := by rw [em_b1v, decide_eq_true hvw]; rfl
            (repeat (refine em_pure hB kX8_order rfl ?_))
            refine em_callV (μ' := mX8_areBarred) (c1 := 8) kX8_order rfl lX8_151 tX8_areBarred (by decide) rfl (em_ltB hB rfl) (are _ _ (nI v) (nI w)) rfl rfl (by decide) (Nat.le_of_ble_eq_true rfl) (by rw [f1]; exact Nat.le_refl _) (by rw [f2]; exact Nat.le_refl _) ?_
            refine em_bz kX8_order rfl (fun h => ?_) (fun h => ?_)
            · (repeat (refine em_pureT 88 hB kX8_order rfl rfl ?_))
              exact next 1 (by rw [eb, if_pos h])
            · (repeat (refine em_pureT 88 hB kX8_order rfl rfl ?_))
              exact next 0 (by rw [eb, if_neg h])
      have tail : ∀ z, z = nI (em_al I N (w + 1)) → em_EW Γ 9 mX8_order (em_hm n m dl I J rv) fin 45 [(0, .ref 53), (1, .int x), (2, .int (nI (em_al I N w))), (3, .int (nI w))] [.int z] (em_rz n m dl I J rv (em_b70 I N w) (em_pl8 I N (w + 1))) := by
        intro z hz
        rw [hz]
        (repeat (refine em_pureT 49 hB kX8_order rfl rfl ?_))
        refine em_loc (lc' := [(0, .ref 53), (1, .int x), (2, .int (nI (em_al I N (w + 1)))), (3, .int (nI w)), (4, .int (nI 0))]) rfl ?_
        exact inner 8 0 (by omega)
      have mid : ∀ z, z = (if em_mm I (nI w) N = 0 then (1 : Int32) else 0) → em_EW Γ 9 mX8_order (em_hm n m dl I J rv) fin 28 [(0, .ref 53), (1, .int x), (2, .int (nI (em_al I N w))), (3, .int (nI w))] [.int z, .int (nI w), .ref 69] (em_rz n m dl I J rv (em_b70 I N w) (em_pl8 I N w)) := by
        intro z hz
        have h01 : z = 0 ∨ z = 1 := by
          rw [hz]
          split
          · exact Or.inr rfl
          · exact Or.inl rfl
        refine em_zw (L := 8) hB kX8_order rfl rfl rfl rfl rfl (show w < 8 by omega) rfl h01 ?_
        refine em_hpE (hp' := em_rz n m dl I J rv (em_b70 I N w) (em_pl8 I N (w + 1))) ((em_sI2 (em_hm n m dl (va_up I 70 (em_b70 I N w)) J rv) 69 _ _).trans (by
          show em_sI (em_hm n m dl (va_up I 70 (em_b70 I N w)) J rv) 69 _ = em_sI (em_hm n m dl (va_up I 70 (em_b70 I N w)) J rv) 69 (em_plc (fun q => em_mm I (nI q) N) (I 69) (w + 1))
          rw [← em_plc_s, hz]
          rfl)) ?_
        (repeat (refine em_pure hB kX8_order rfl ?_))
        refine em_za (L := 8) hB kX8_order rfl rfl rfl rfl rfl (show w < 8 by omega) rfl ?_
        have ez : em_I (em_rz n m dl I J rv (em_b70 I N w) (em_pl8 I N (w + 1))) 69 w = z := by
          show em_plc (fun q => em_mm I (nI q) N) (I 69) (w + 1) w = z
          rw [em_plc, if_pos (show w < w + 1 by omega), hz]
        rw [ez]
        refine em_branch kX8_order rfl (fun (h : z = 0) => ?_) (fun (h : ¬ z = 0) => ?_)
        · have hm : ¬ em_mm I (nI w) N = 0 := fun q => by rw [if_pos q] at hz; rw [hz] at h; cases h
          (repeat (refine em_pureT 45 hB kX8_order rfl rfl ?_))
          refine tail _ ?_
          rw [em_al, if_neg hm, ← nI_1]
        · have hm : em_mm I (nI w) N = 0 := Decidable.not_not.mp fun q => by rw [if_neg q] at hz; exact h hz
          (repeat (refine em_pureT 45 hB kX8_order rfl rfl ?_))
          refine tail _ ?_
          rw [em_al, if_pos hm]
          exact Int32.add_zero _
      (repeat (refine em_pure hB kX8_order rfl ?_))
      refine em_branch kX8_order rfl (fun (h : (8 : Int32) ≤ nI w) => absurd h (nI_ge (b := 8) (by omega) (by omega))) (fun _ => ?_)
      (repeat (refine em_pure hB kX8_order rfl ?_))
      refine em_callV (μ' := mX8_manyIn) (c1 := 8) kX8_order rfl lX8_148 tX8_manyIn (by decide) rfl (em_ltB hB rfl) (many _ _ (nI w)) rfl rfl (by decide) (Nat.le_of_ble_eq_true rfl) (by rw [f1]; exact Nat.le_refl _) (by rw [f2]; exact Nat.le_refl _) ?_
      refine em_branch kX8_order rfl (fun (h : ¬ em_mm I (nI w) N = 0) => ?_) (fun (h : ¬ ¬ em_mm I (nI w) N = 0) => ?_)
      · (repeat (refine em_pureT 28 hB kX8_order rfl rfl ?_))
        exact mid 0 (by rw [if_neg h])
      · (repeat (refine em_pureT 28 hB kX8_order rfl rfl ?_))
        exact mid 1 (by rw [if_pos (Decidable.not_not.mp h)])
  (repeat (refine em_pureT 4 hB kX8_order rfl rfl ?_))
  refine em_loc (lc' := [(0, .ref 53), (1, .int x), (2, .int (nI 0)), (3, .int (nI 0))]) rfl ?_
  refine em_hpE (hp' := em_rz n m dl I J rv (em_b70 I N 0) (em_pl8 I N 0)) ?_ (outer 8 0 (by omega))
  have e1 : em_pl8 I N 0 = I 69 := by funext q; show em_plc _ _ 0 q = _; rw [em_plc, if_neg (show ¬ q < 0 by omega)]
  rw [e1]
  show em_hm n m dl I J rv = em_hm n m dl (va_up (va_up I 70 (I 70)) 69 (I 69)) J rv
  rw [em_va_id, em_va_id]
theorem s_mOrder_no (hB : 85 ≤ n) {x : Int32} {N : Nat} (hx : I 53 1 = nI N) (hN : N ≤ 40) (hk : ∀ b, b < N → ∃ k, k < 8 ∧ I 56 b = nI k) (h : ¬ (0 ≤ x ∧ x ≤ nI (em_al I N 8) - 1)) : em_MC Γ 9 mX8_order [.ref 53, .int x] (em_hm n m dl I J rv) (some (.int (-1))) (em_rz n m dl I J rv (em_b70 I N 8) (em_pl8 I N 8)) := by
  refine em_MC_of (Nat.le_refl _) (Nat.le_refl _) (by decide +kernel) rfl (Nat.le_of_ble_eq_true rfl) ?_
  refine s_mOrder_loop hB hx hN hk rfl rfl ?_
  (repeat (refine em_pure hB kX8_order rfl ?_))
  refine em_callS (μ' := mX8_in) kX8_order rfl lX8_112 tX8_in (s_in Γ _ x 0 (nI (em_al I N 8) - 1)) rfl rfl (by decide) (Nat.le_of_ble_eq_true rfl) (Nat.le_refl _) (Nat.le_refl _) ?_
  refine em_bz kX8_order rfl (fun h1 => absurd h1 h) (fun _ => ?_)
  (repeat (refine em_pure hB kX8_order rfl ?_))
  exact em_iret kX8_order rfl rfl rfl rfl
theorem s_mOrder_ok (hB : 85 ≤ n) {i N : Nat} (hx : I 53 1 = nI N) (hN : N ≤ 40) (hk : ∀ b, b < N → ∃ k, k < 8 ∧ I 56 b = nI k) (h : i < em_al I N 8) : ∃ I', em_MC Γ 9 mX8_order [.ref 53, .int (nI i)] (em_hm n m dl I J rv) (some (.int (em_mOr I N i))) (em_hm n m dl I' J rv) ∧ ∀ k, ¬ k = 68 → ¬ k = 69 → ¬ k = 70 → I' k = I k := by
  have hal := em_al_le I N 8
  obtain ⟨row', p', hM, -, h2, -⟩ := s_mLays (Γ := Γ) (n := n) (m := m) (dl := dl) (I := va_up I 70 (em_b70 I N 8)) (J := J) (rv := rv) hB (R := em_b1v I N) (fun v w hv hw => by
    show _ ↔ ¬ em_bo (em_b1v I N) (I 70) 8 (8 * v + w) = 0
    rw [em_bo_at _ _ 8 v w hv hw (by omega), if_pos hw]
    cases em_b1v I N v w <;> simp) (all := em_al I N 8) hal (em_al I N 8) 0 (I 68) (em_pl8 I N 8) none (by omega) (Or.inl ⟨rfl, rfl⟩)
  refine ⟨va_up (va_up (va_up I 70 (em_b70 I N 8)) 68 row') 69 p', ?_, fun k h68 h69 h70 => by rw [va_up_ne _ _ h69, va_up_ne _ _ h68, va_up_ne _ _ h70]⟩
  refine em_MC_of (Nat.le_refl _) (Nat.le_refl _) (by decide +kernel) rfl (Nat.le_of_ble_eq_true rfl) ?_
  refine s_mOrder_loop hB hx hN hk rfl rfl ?_
  (repeat (refine em_pure hB kX8_order rfl ?_))
  refine em_callS (μ' := mX8_in) kX8_order rfl lX8_112 tX8_in (s_in Γ _ (nI i) 0 (nI (em_al I N 8) - 1)) rfl rfl (by decide) (Nat.le_of_ble_eq_true rfl) (Nat.le_refl _) (Nat.le_refl _) ?_
  refine em_bz kX8_order rfl (fun _ => ?_) (fun h1 => absurd (em_inB rfl (by omega) rfl h) h1)
  refine em_hpE (hp' := em_ry n m dl (va_up I 70 (em_b70 I N 8)) J rv (I 68) (em_pl8 I N 8)) (by
    show em_hm n m dl (va_up (va_up I 70 (em_b70 I N 8)) 69 (em_pl8 I N 8)) J rv = em_hm n m dl (va_up (va_up (va_up I 70 (em_b70 I N 8)) 68 (va_up I 70 (em_b70 I N 8) 68)) 69 (em_pl8 I N 8)) J rv
    rw [em_va_id]) ?_
  (repeat (refine em_pure hB kX8_order rfl ?_))
  refine em_callV (μ' := mX8_lays) (c1 := 8) kX8_order rfl lX8_155 tX8_lays (by decide) rfl (em_ltB hB rfl) hM rfl rfl (by omega) (Nat.le_of_ble_eq_true rfl) (Nat.le_refl _) (Nat.le_refl _) ?_
  cases hly : em_ly (em_b1v I N) (em_al I N 8) (em_pB (em_pl8 I N 8)) none with
  | some l =>
    have er : em_mOr I N i = nI (l.getD i 0) := by rw [em_mOr, hly]
    rw [er]
    refine em_branch kX8_order rfl (fun hz => absurd hz (show ¬ (1 : Int32) = 0 by decide)) (fun _ => ?_)
    (repeat (refine em_pure hB kX8_order rfl ?_))
    refine em_ia (L := 8) hB kX8_order rfl rfl rfl rfl rfl (show i < 8 by omega) rfl ?_
    (repeat (refine em_pure hB kX8_order rfl ?_))
    have h3 := h2 l hly i h
    rw [Nat.zero_add] at h3
    exact em_iret kX8_order rfl rfl rfl (by rw [← h3]; rfl)
  | none =>
    have er : em_mOr I N i = -1 := by rw [em_mOr, hly]
    rw [er]
    refine em_branch kX8_order rfl (fun _ => ?_) (fun hz => absurd rfl hz)
    (repeat (refine em_pure hB kX8_order rfl ?_))
    exact em_iret kX8_order rfl rfl rfl rfl
end MOrder2
