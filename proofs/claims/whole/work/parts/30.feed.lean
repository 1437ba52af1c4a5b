/-! FEED: the class's and the reference's -/
def em_wd (a b c d e : Int32) (j : Nat) : Int32 := if j < 4 then a else if j < 8 then b else if j < 12 then c else if j < 16 then d else e
def em_b20 (a b c d e : Int32) (j : Nat) : Nat := em_by (em_wd a b c d e j) (24 - 8 * (j % 4))
def em_l20 (a b c d e : Int32) : Nat → List Nat
  | 0 => []
  | j + 1 => em_l20 a b c d e j ++ em_b1 (em_b20 a b c d e j)
def em_bys (a b c d e : Int32) : List Nat := em_w4 a 4 ++ (em_w4 b 4 ++ (em_w4 c 4 ++ (em_w4 d 4 ++ em_w4 e 4)))
theorem em_l20_all (a b c d e : Int32) : em_l20 a b c d e 20 = em_bys a b c d e := by
  simp [em_l20, em_bys, em_w4, em_b20, em_wd, List.append_assoc]
theorem em_w4_len (w : Int32) : ∀ d, (em_w4 w d).length ≤ d
  | 0 => Nat.le_refl _
  | d + 1 => by
    have := em_w4_len w d
    simp only [em_w4, List.length_append]
    have h : (em_b1 (em_by w (8 * d))).length ≤ 1 := by unfold em_b1; split <;> simp
    omega
theorem em_l20_len (a b c d e : Int32) : ∀ j, (em_l20 a b c d e j).length ≤ j
  | 0 => Nat.le_refl _
  | j + 1 => by
    have := em_l20_len a b c d e j
    simp only [em_l20, List.length_append]
    have h : (em_b1 (em_b20 a b c d e j)).length ≤ 1 := by unfold em_b1; split <;> simp
    omega
theorem s_mByteOf (Γ : em_Cx) (hp : em_Hp) (a b c d e : Int32) {j : Nat} (hj : j < 20) : em_MC Γ 0 mX8_byteOf [.int a, .int b, .int c, .int d, .int e, .int (nI j)] hp (some (.int (nI (em_b20 a b c d e j)))) hp := by
  refine em_MC_of (Nat.le_refl _) (Nat.le_refl _) (by decide +kernel) rfl (Nat.le_of_ble_eq_true rfl) ?_
  have hsh : ∀ q, q < 4 → ((em_sh q &&& 31).toBitVec.smod 32).toNat = 24 - 8 * q := by decide +kernel
  have e2 : nI j - nI j / 4 * 4 = nI (j % 4) := pk_rem (d := 4) (by omega) (by omega) (by omega)
  have tail : em_EW Γ 0 mX8_byteOf hp (some (.int (nI (em_b20 a b c d e j))), hp) 45 [(5, .int (nI j))] [.int (em_wd a b c d e j)] hp := by
    (repeat (refine em_pure (Nat.zero_le _) kX8_byteOf rfl ?_))
    refine em_irem kX8_byteOf rfl (by decide) ?_
    rw [e2]
    (repeat (refine em_pure (Nat.zero_le _) kX8_byteOf rfl ?_))
    refine em_iret kX8_byteOf rfl rfl rfl ?_
    have h1 := em_byS (em_wd a b c d e j) (em_sh (j % 4)) (q := 24 - 8 * (j % 4)) (by omega) (hsh _ (by omega))
    exact (congrArg (fun z => (some (Value.int z), hp)) h1).symm
  (repeat (refine em_pure (Nat.zero_le _) kX8_byteOf rfl ?_))
  refine em_branch kX8_byteOf rfl (fun (h : (4 : Int32) ≤ nI j) => ?_) (fun (h : ¬ (4 : Int32) ≤ nI j) => ?_)
  case refine_2 =>
    have h0 : j < 4 := Nat.not_le.mp fun z => h (nI_le (a := 4) z (by omega))
    rw [show em_wd a b c d e j = a by simp [em_wd, h0]] at tail
    (repeat (refine em_pureT 45 (Nat.zero_le _) kX8_byteOf rfl rfl ?_))
    exact em_loc (lc' := [(5, .int (nI j))]) rfl tail
  have h4 : ¬ j < 4 := fun z => nI_ge (b := 4) z (by omega) h
  (repeat (refine em_pure (Nat.zero_le _) kX8_byteOf rfl ?_))
  refine em_branch kX8_byteOf rfl (fun (h : (8 : Int32) ≤ nI j) => ?_) (fun (h : ¬ (8 : Int32) ≤ nI j) => ?_)
  case refine_2 =>
    have h0 : j < 8 := Nat.not_le.mp fun z => h (nI_le (a := 8) z (by omega))
    rw [show em_wd a b c d e j = b by simp [em_wd, h4, h0]] at tail
    (repeat (refine em_pureT 45 (Nat.zero_le _) kX8_byteOf rfl rfl ?_))
    exact em_loc (lc' := [(5, .int (nI j))]) rfl tail
  have h8 : ¬ j < 8 := fun z => nI_ge (b := 8) z (by omega) h
  (repeat (refine em_pure (Nat.zero_le _) kX8_byteOf rfl ?_))
  refine em_branch kX8_byteOf rfl (fun (h : (12 : Int32) ≤ nI j) => ?_) (fun (h : ¬ (12 : Int32) ≤ nI j) => ?_)
  case refine_2 =>
    have h0 : j < 12 := Nat.not_le.mp fun z => h (nI_le (a := 12) z (by omega))
    rw [show em_wd a b c d e j = c by simp [em_wd, h4, h8, h0]] at tail
    (repeat (refine em_pureT 45 (Nat.zero_le _) kX8_byteOf rfl rfl ?_))
    exact em_loc (lc' := [(5, .int (nI j))]) rfl tail
  have h12 : ¬ j < 12 := fun z => nI_ge (b := 12) z (by omega) h
  (repeat (refine em_pure (Nat.zero_le _) kX8_byteOf rfl ?_))
  refine em_branch kX8_byteOf rfl (fun (h : (16 : Int32) ≤ nI j) => ?_) (fun (h : ¬ (16 : Int32) ≤ nI j) => ?_)
  · have h0 : ¬ j < 16 := fun z => nI_ge (b := 16) z (by omega) h
    rw [show em_wd a b c d e j = e by simp [em_wd, h4, h8, h12, h0]] at tail
    (repeat (refine em_pureT 45 (Nat.zero_le _) kX8_byteOf rfl rfl ?_))
    exact em_loc (lc' := [(5, .int (nI j))]) rfl tail
  · have h0 : j < 16 := Nat.not_le.mp fun z => h (nI_le (a := 16) z (by omega))
    rw [show em_wd a b c d e j = d by simp [em_wd, h4, h8, h12, h0]] at tail
    (repeat (refine em_pureT 45 (Nat.zero_le _) kX8_byteOf rfl rfl ?_))
    exact em_loc (lc' := [(5, .int (nI j))]) rfl tail
section Feed
variable {Γ : em_Cx} {n m : Nat} {dl : Nat → Nat} {I : Nat → Nat → Int32} {J : Nat → Nat → Int64} {rv : em_Rv}
theorem em_va_id {α : Type} (I : Nat → α) (k : Nat) : va_up I k (I k) = I := by
  funext q
  by_cases h : q = k
  · subst h; simp [va_up]
  · simp [va_up, h]
theorem em_tp0 {S : Nat} (hS : I 28 1 = nI S) : em_hm n m dl I J rv = em_tp n m dl I J rv (I 29) S := by
  show (_, _, I, _) = (_, _, va_up (va_up I 29 (I 29)) 28 (va_up (I 28) 1 (nI S)), _)
  rw [em_va_id I 29, ← hS, em_va_id (I 28) 1, em_va_id I 28]
theorem s_feed_no (hB : 85 ≤ n) {a b c d e : Int32} {S : Nat} (hS : I 28 1 = nI S) (hS2 : S ≤ 200) (h : ¬ S + (em_bys a b c d e).length ≤ 200) : em_MC Γ 1 mX7_feed [.ref 0, .int a, .int b, .int c, .int d, .int e] (em_hm n m dl I J rv) (some (.int (-1))) (em_hm n m dl I J rv) := by
  have hl : (em_bys a b c d e).length = (em_w4 a 4).length + ((em_w4 b 4).length + ((em_w4 c 4).length + ((em_w4 d 4).length + (em_w4 e 4).length))) := by simp [em_bys]
  have l1 := em_w4_len a 4
  have l2 := em_w4_len b 4
  have l3 := em_w4_len c 4
  have l4 := em_w4_len d 4
  have l5 := em_w4_len e 4
  refine em_MC_of (Nat.le_refl _) (Nat.le_refl _) (by decide +kernel) rfl (Nat.le_of_ble_eq_true rfl) ?_
  (repeat (refine em_pure hB kX7_feed rfl ?_))
  refine em_callS (μ' := mX5_bytesIn) kX7_feed rfl lX7_150 tX5_bytesIn (s_bytesIn Γ _ a) rfl rfl (by decide) (Nat.le_of_ble_eq_true rfl) (Nat.le_refl _) (Nat.le_refl _) ?_
  (repeat (refine em_pure hB kX7_feed rfl ?_))
  refine em_callS (μ' := mX5_bytesIn) kX7_feed rfl lX7_150 tX5_bytesIn (s_bytesIn Γ _ b) rfl rfl (by decide) (Nat.le_of_ble_eq_true rfl) (Nat.le_refl _) (Nat.le_refl _) ?_
  (repeat (refine em_pure hB kX7_feed rfl ?_))
  refine em_callS (μ' := mX5_bytesIn) kX7_feed rfl lX7_150 tX5_bytesIn (s_bytesIn Γ _ c) rfl rfl (by decide) (Nat.le_of_ble_eq_true rfl) (Nat.le_refl _) (Nat.le_refl _) ?_
  (repeat (refine em_pure hB kX7_feed rfl ?_))
  refine em_callS (μ' := mX5_bytesIn) kX7_feed rfl lX7_150 tX5_bytesIn (s_bytesIn Γ _ d) rfl rfl (by decide) (Nat.le_of_ble_eq_true rfl) (Nat.le_refl _) (Nat.le_refl _) ?_
  (repeat (refine em_pure hB kX7_feed rfl ?_))
  refine em_callS (μ' := mX5_bytesIn) kX7_feed rfl lX7_150 tX5_bytesIn (s_bytesIn Γ _ e) rfl rfl (by decide) (Nat.le_of_ble_eq_true rfl) (Nat.le_refl _) (Nat.le_refl _) ?_
  (repeat (refine em_pure hB kX7_feed rfl ?_))
  refine em_callV (μ' := mX5_hasRoomFor) (c1 := 5) kX7_feed rfl lX7_153 tX5_hasRoomFor (by decide) rfl (em_ltB hB rfl) (s_hasRoomFor hB (c := (em_bys a b c d e).length) hS hS2 (by show nI _ + nI _ + nI _ + nI _ + nI _ = _; rw [nI_add, nI_add, nI_add, nI_add, hl]; congr 1; omega) (by omega)) rfl rfl (by decide) (Nat.le_of_ble_eq_true rfl) (Nat.le_refl _) (Nat.le_refl _) ?_
  refine em_bn kX7_feed rfl (fun h1 => absurd h1 h) (fun _ => ?_)
  (repeat (refine em_pure hB kX7_feed rfl ?_))
  exact em_iret kX7_feed rfl rfl rfl rfl
theorem s_feed_ok (hB : 85 ≤ n) {a b c d e : Int32} {S : Nat} (hS : I 28 1 = nI S) (h : S + (em_bys a b c d e).length ≤ 200) : em_MC Γ 1 mX7_feed [.ref 0, .int a, .int b, .int c, .int d, .int e] (em_hm n m dl I J rv) (some (.int (nI (S + (em_bys a b c d e).length)))) (em_tp n m dl I J rv (em_app (I 29) S (em_bys a b c d e)) (S + (em_bys a b c d e).length)) := by
  have hl : (em_bys a b c d e).length = (em_w4 a 4).length + ((em_w4 b 4).length + ((em_w4 c 4).length + ((em_w4 d 4).length + (em_w4 e 4).length))) := by simp [em_bys]
  have l1 := em_w4_len a 4
  have l2 := em_w4_len b 4
  have l3 := em_w4_len c 4
  have l4 := em_w4_len d 4
  have l5 := em_w4_len e 4
  refine em_MC_of (Nat.le_refl _) (Nat.le_refl _) (by decide +kernel) rfl (Nat.le_of_ble_eq_true rfl) ?_
  (repeat (refine em_pure hB kX7_feed rfl ?_))
  refine em_callS (μ' := mX5_bytesIn) kX7_feed rfl lX7_150 tX5_bytesIn (s_bytesIn Γ _ a) rfl rfl (by decide) (Nat.le_of_ble_eq_true rfl) (Nat.le_refl _) (Nat.le_refl _) ?_
  (repeat (refine em_pure hB kX7_feed rfl ?_))
  refine em_callS (μ' := mX5_bytesIn) kX7_feed rfl lX7_150 tX5_bytesIn (s_bytesIn Γ _ b) rfl rfl (by decide) (Nat.le_of_ble_eq_true rfl) (Nat.le_refl _) (Nat.le_refl _) ?_
  (repeat (refine em_pure hB kX7_feed rfl ?_))
  refine em_callS (μ' := mX5_bytesIn) kX7_feed rfl lX7_150 tX5_bytesIn (s_bytesIn Γ _ c) rfl rfl (by decide) (Nat.le_of_ble_eq_true rfl) (Nat.le_refl _) (Nat.le_refl _) ?_
  (repeat (refine em_pure hB kX7_feed rfl ?_))
  refine em_callS (μ' := mX5_bytesIn) kX7_feed rfl lX7_150 tX5_bytesIn (s_bytesIn Γ _ d) rfl rfl (by decide) (Nat.le_of_ble_eq_true rfl) (Nat.le_refl _) (Nat.le_refl _) ?_
  (repeat (refine em_pure hB kX7_feed rfl ?_))
  refine em_callS (μ' := mX5_bytesIn) kX7_feed rfl lX7_150 tX5_bytesIn (s_bytesIn Γ _ e) rfl rfl (by decide) (Nat.le_of_ble_eq_true rfl) (Nat.le_refl _) (Nat.le_refl _) ?_
  (repeat (refine em_pure hB kX7_feed rfl ?_))
  refine em_callV (μ' := mX5_hasRoomFor) (c1 := 5) kX7_feed rfl lX7_153 tX5_hasRoomFor (by decide) rfl (em_ltB hB rfl) (s_hasRoomFor hB (c := (em_bys a b c d e).length) hS (by omega) (by show nI _ + nI _ + nI _ + nI _ + nI _ = _; rw [nI_add, nI_add, nI_add, nI_add, hl]; congr 1; omega) (by omega)) rfl rfl (by decide) (Nat.le_of_ble_eq_true rfl) (Nat.le_refl _) (Nat.le_refl _) ?_
  refine em_bn kX7_feed rfl (fun _ => ?_) (fun h1 => absurd h h1)
  refine em_hpE (em_tp0 hS) ?_
  (repeat (refine em_pure hB kX7_feed rfl ?_))
  refine em_callV (μ' := mX5_append) (c1 := 5) kX7_feed rfl lX7_156 tX5_append (by decide) rfl (em_ltB hB rfl) (s_append hB (w := a) (by omega)) rfl rfl (by decide) (Nat.le_of_ble_eq_true rfl) (Nat.le_refl _) (Nat.le_refl _) ?_
  (repeat (refine em_pure hB kX7_feed rfl ?_))
  refine em_callV (μ' := mX5_append) (c1 := 5) kX7_feed rfl lX7_156 tX5_append (by decide) rfl (em_ltB hB rfl) (s_append hB (w := b) (by omega)) rfl rfl (by decide) (Nat.le_of_ble_eq_true rfl) (Nat.le_refl _) (Nat.le_refl _) ?_
  (repeat (refine em_pure hB kX7_feed rfl ?_))
  refine em_callV (μ' := mX5_append) (c1 := 5) kX7_feed rfl lX7_156 tX5_append (by decide) rfl (em_ltB hB rfl) (s_append hB (w := c) (by omega)) rfl rfl (by decide) (Nat.le_of_ble_eq_true rfl) (Nat.le_refl _) (Nat.le_refl _) ?_
  (repeat (refine em_pure hB kX7_feed rfl ?_))
  refine em_callV (μ' := mX5_append) (c1 := 5) kX7_feed rfl lX7_156 tX5_append (by decide) rfl (em_ltB hB rfl) (s_append hB (w := d) (by omega)) rfl rfl (by decide) (Nat.le_of_ble_eq_true rfl) (Nat.le_refl _) (Nat.le_refl _) ?_
  (repeat (refine em_pure hB kX7_feed rfl ?_))
  refine em_callV (μ' := mX5_append) (c1 := 5) kX7_feed rfl lX7_156 tX5_append (by decide) rfl (em_ltB hB rfl) (s_append hB (w := e) (by omega)) rfl rfl (by decide) (Nat.le_of_ble_eq_true rfl) (Nat.le_refl _) (Nat.le_refl _) ?_
  refine em_hpE (hp' := em_tp n m dl I J rv (em_app (I 29) S (em_bys a b c d e)) (S + (em_bys a b c d e).length)) ?_ ?_
  · rw [show em_bys a b c d e = em_w4 a 4 ++ (em_w4 b 4 ++ (em_w4 c 4 ++ (em_w4 d 4 ++ em_w4 e 4))) from rfl, em_app_app, em_app_app, em_app_app, em_app_app]
    simp only [List.length_append, Nat.add_assoc]
  (repeat (refine em_pure hB kX7_feed rfl ?_))
  refine em_callV (μ' := mX5_size) (c1 := 5) kX7_feed rfl lX7_160 tX5_size (by decide) rfl (em_ltB hB rfl) (s_tSize hB) rfl rfl (by decide) (Nat.le_of_ble_eq_true rfl) (Nat.le_refl _) (Nat.le_refl _) ?_
  (repeat (refine em_pure hB kX7_feed rfl ?_))
  exact em_iret kX7_feed rfl rfl rfl rfl
/-- the heap with S bytes on the reference's tape, of the row f -/
abbrev em_tm1 (n m : Nat) (dl : Nat → Nat) (I : Nat → Nat → Int32) (J : Nat → Nat → Int64) (rv : em_Rv) (f : Nat → Int32) (S : Nat) : em_Hp := em_hm n m dl (va_up (va_up I 77 f) 53 (va_up (I 53) 35 (nI S))) J rv
theorem em_tm0 {S : Nat} (hS : I 53 35 = nI S) : em_hm n m dl I J rv = em_tm1 n m dl I J rv (I 77) S := by
  show (_, _, I, _) = (_, _, va_up (va_up I 77 (I 77)) 53 (va_up (I 53) 35 (nI S)), _)
  rw [em_va_id I 77, ← hS, em_va_id (I 53) 35, em_va_id I 53]
theorem s_mFeed_cnt {a b c d e : Int32} {fin : Option Value × em_Hp} (hB : 85 ≤ n) (f1 : n ≤ em_n fin.2) (f2 : m ≤ em_m fin.2) (k : em_EW Γ 1 mX8_feed (em_hm n m dl I J rv) fin 44 [(0, .ref 53), (1, .int a), (2, .int b), (3, .int c), (4, .int d), (5, .int e), (6, .int (nI (em_bys a b c d e).length))] [] (em_hm n m dl I J rv)) : em_EW Γ 1 mX8_feed (em_hm n m dl I J rv) fin 0 (lv_args 0 [.ref 53, .int a, .int b, .int c, .int d, .int e]) [] (em_hm n m dl I J rv) := by
  have loop : ∀ g j, j + g = 20 → em_EW Γ 1 mX8_feed (em_hm n m dl I J rv) fin 6 [(0, .ref 53), (1, .int a), (2, .int b), (3, .int c), (4, .int d), (5, .int e), (6, .int (nI (em_l20 a b c d e j).length)), (7, .int (nI j))] [] (em_hm n m dl I J rv) := by
    intro g
    induction g with
    | zero =>
      intro j hj
      obtain rfl : j = 20 := by omega
      (repeat (refine em_pure hB kX8_feed rfl ?_))
      refine em_branch kX8_feed rfl (fun _ => ?_) (fun h1 => absurd (by decide) h1)
      rw [em_l20_all]
      exact em_loc rfl k
    | succ g ih =>
      intro j hj
      have tail : ∀ z : Nat, z = (em_b1 (em_b20 a b c d e j)).length → em_EW Γ 1 mX8_feed (em_hm n m dl I J rv) fin 35 [(0, .ref 53), (1, .int a), (2, .int b), (3, .int c), (4, .int d), (5, .int e), (6, .int (nI (em_l20 a b c d e j).length)), (7, .int (nI j))] [.int (nI z), .int (nI (em_l20 a b c d e j).length)] (em_hm n m dl I J rv) := by
        intro z hz
        (repeat (refine em_pureT 6 hB kX8_feed rfl rfl ?_))
        refine em_loc (lc' := [(0, .ref 53), (1, .int a), (2, .int b), (3, .int c), (4, .int d), (5, .int e), (6, .int (nI (em_l20 a b c d e j).length + nI z)), (7, .int (nI j + 1))]) rfl ?_
        rw [nI_1, nI_add, hz, show (em_l20 a b c d e j).length + (em_b1 (em_b20 a b c d e j)).length = (em_l20 a b c d e (j + 1)).length by simp [em_l20]]
        exact ih (j + 1) (by omega)
      (repeat (refine em_pure hB kX8_feed rfl ?_))
      refine em_branch kX8_feed rfl (fun (h1 : (20 : Int32) ≤ nI j) => absurd h1 (nI_ge (b := 20) (by omega) (by omega))) (fun _ => ?_)
      (repeat (refine em_pure hB kX8_feed rfl ?_))
      refine em_callS (μ' := mX8_byteOf) kX8_feed rfl lX8_192 tX8_byteOf (s_mByteOf Γ _ a b c d e (j := j) (by omega)) rfl rfl (by decide) (Nat.le_of_ble_eq_true rfl) f1 f2 ?_
      have hb := em_by_lt (em_wd a b c d e j) (24 - 8 * (j % 4))
      refine em_branch kX8_feed rfl (fun (h : nI (em_b20 a b c d e j) = 0) => ?_) (fun (h : ¬ nI (em_b20 a b c d e j) = 0) => ?_)
      · have h0 := (em_and255 (b := em_b20 a b c d e j) hb rfl).mp h
        (repeat (refine em_pureT 35 hB kX8_feed rfl rfl ?_))
        exact tail 0 (by simp [em_b1, h0])
      · have h0 : ¬ em_b20 a b c d e j = 0 := fun z => h ((em_and255 (b := em_b20 a b c d e j) hb rfl).mpr z)
        (repeat (refine em_pureT 35 hB kX8_feed rfl rfl ?_))
        exact tail 1 (by simp [em_b1, h0])
  (repeat (refine em_pureT 6 hB kX8_feed rfl rfl ?_))
  refine em_loc (lc' := [(0, .ref 53), (1, .int a), (2, .int b), (3, .int c), (4, .int d), (5, .int e), (6, .int (nI 0)), (7, .int (nI 0))]) rfl ?_
  exact loop 20 0 (by omega)
theorem s_mFeed_no (hB : 85 ≤ n) {a b c d e : Int32} {S : Nat} (hS : I 53 35 = nI S) (hS2 : S ≤ 200) (h : ¬ S + (em_bys a b c d e).length ≤ 200) : em_MC Γ 1 mX8_feed [.ref 53, .int a, .int b, .int c, .int d, .int e] (em_hm n m dl I J rv) (some (.int (-1))) (em_hm n m dl I J rv) := by
  have hlen := em_l20_len a b c d e 20
  rw [em_l20_all] at hlen
  refine em_MC_of (Nat.le_refl _) (Nat.le_refl _) (by decide +kernel) rfl (Nat.le_of_ble_eq_true rfl) ?_
  refine s_mFeed_cnt hB (Nat.le_refl _) (Nat.le_refl _) ?_
  (repeat (refine em_pure hB kX8_feed rfl ?_))
  refine em_branch kX8_feed rfl (fun (h1 : I 53 35 + nI (em_bys a b c d e).length ≤ 200) => ?_) (fun _ => ?_)
  · rw [hS, nI_add] at h1
    exact absurd h1 (nI_ge (a := 200) (by omega) (by omega))
  · (repeat (refine em_pure hB kX8_feed rfl ?_))
    exact em_iret kX8_feed rfl rfl rfl rfl
theorem s_mFeed_ok (hB : 85 ≤ n) {a b c d e : Int32} {S : Nat} (hS : I 53 35 = nI S) (h : S + (em_bys a b c d e).length ≤ 200) : em_MC Γ 1 mX8_feed [.ref 53, .int a, .int b, .int c, .int d, .int e] (em_hm n m dl I J rv) (some (.int (nI (S + (em_bys a b c d e).length)))) (em_tm1 n m dl I J rv (em_app (I 77) S (em_bys a b c d e)) (S + (em_bys a b c d e).length)) := by
  have hlen := em_l20_len a b c d e 20
  rw [em_l20_all] at hlen
  refine em_MC_of (Nat.le_refl _) (Nat.le_refl _) (by decide +kernel) rfl (Nat.le_of_ble_eq_true rfl) ?_
  refine s_mFeed_cnt hB (Nat.le_refl _) (Nat.le_refl _) ?_
  (repeat (refine em_pure hB kX8_feed rfl ?_))
  refine em_branch kX8_feed rfl (fun _ => ?_) (fun (h1 : ¬ I 53 35 + nI (em_bys a b c d e).length ≤ 200) => absurd (by rw [hS, nI_add]; exact nI_le (b := 200) h (by omega)) h1)
  have loop : ∀ g j, j + g = 20 → em_EW Γ 1 mX8_feed (em_hm n m dl I J rv) (some (.int (nI (S + (em_bys a b c d e).length))), em_tm1 n m dl I J rv (em_app (I 77) S (em_bys a b c d e)) (S + (em_bys a b c d e).length)) 62 [(0, .ref 53), (1, .int a), (2, .int b), (3, .int c), (4, .int d), (5, .int e), (7, .int (nI j))] [] (em_tm1 n m dl I J rv (em_app (I 77) S (em_l20 a b c d e j)) (S + (em_l20 a b c d e j).length)) := by
    intro g
    induction g with
    | zero =>
      intro j hj
      obtain rfl : j = 20 := by omega
      rw [em_l20_all]
      (repeat (refine em_pure hB kX8_feed rfl ?_))
      refine em_branch kX8_feed rfl (fun _ => ?_) (fun h1 => absurd (by decide) h1)
      (repeat (refine em_pure hB kX8_feed rfl ?_))
      exact em_iret kX8_feed rfl rfl rfl rfl
    | succ g ih =>
      intro j hj
      have hb := em_by_lt (em_wd a b c d e j) (24 - 8 * (j % 4))
      have hlj := em_l20_len a b c d e j
      have hlt : ¬ em_b20 a b c d e j = 0 → S + (em_l20 a b c d e j).length < 220 := by omega
      (repeat (refine em_pure hB kX8_feed rfl ?_))
      refine em_branch kX8_feed rfl (fun (h1 : (20 : Int32) ≤ nI j) => absurd h1 (nI_ge (b := 20) (by omega) (by omega))) (fun _ => ?_)
      (repeat (refine em_pure hB kX8_feed rfl ?_))
      refine em_callS (μ' := mX8_byteOf) kX8_feed rfl lX8_192 tX8_byteOf (s_mByteOf Γ _ a b c d e (j := j) (by omega)) rfl rfl (by decide) (Nat.le_of_ble_eq_true rfl) (Nat.le_refl _) (Nat.le_refl _) ?_
      (repeat (refine em_pure hB kX8_feed rfl ?_))
      refine em_branch kX8_feed rfl (fun (h : nI (em_b20 a b c d e j) = 0) => ?_) (fun (h : ¬ nI (em_b20 a b c d e j) = 0) => ?_)
      · have h0 := (em_and255 (b := em_b20 a b c d e j) hb rfl).mp h
        (repeat (refine em_pureT 62 hB kX8_feed rfl rfl ?_))
        refine em_loc (lc' := [(0, .ref 53), (1, .int a), (2, .int b), (3, .int c), (4, .int d), (5, .int e), (7, .int (nI j + 1))]) rfl ?_
        have h7 := ih (j + 1) (by omega)
        rw [show em_l20 a b c d e (j + 1) = em_l20 a b c d e j by simp [em_l20, em_b1, h0]] at h7
        rw [nI_1]
        exact h7
      · have h0 : ¬ em_b20 a b c d e j = 0 := fun z => h ((em_and255 (b := em_b20 a b c d e j) hb rfl).mpr z)
        have hl2 := hlt h0
        generalize hL : (em_l20 a b c d e j).length = T at *
        (repeat (refine em_pure hB kX8_feed rfl ?_))
        refine em_iw (L := 220) (j := S + T) hB kX8_feed rfl rfl rfl rfl rfl hl2 rfl ?_
        (repeat (refine em_pure hB kX8_feed rfl ?_))
        refine em_pi hB kX8_feed rfl rfl rfl rfl rfl rfl rfl ?_
        refine em_hpE (hp' := em_tm1 n m dl I J rv (em_app (I 77) S (em_l20 a b c d e (j + 1))) (S + (em_l20 a b c d e (j + 1)).length)) ?_ ?_
        · have e9 : em_l20 a b c d e (j + 1) = em_l20 a b c d e j ++ [em_b20 a b c d e j] := by simp [em_l20, em_b1, h0]
          rw [e9, em_app_app, List.length_append, hL]
          show (_, _, va_up (va_up (va_up (va_up I 77 _) 53 _) 77 _) 53 (va_up (va_up (I 53) 35 (nI (S + T))) 35 (nI (S + T) + 1)), _) = (_, _, va_up (va_up I 77 (va_up (em_app (I 77) S (em_l20 a b c d e j)) (S + T) (nI (em_b20 a b c d e j)))) 53 (va_up (I 53) 35 (nI (S + T + 1))), _)
          rw [nI_1, bx_uu (I 53)]
          congr 3
          funext q
          by_cases hq : q = 53
          · subst hq; simp only [va_up_self]
          · by_cases hq2 : q = 77
            · subst hq2; rfl
            · simp [va_up, hq, hq2]
        (repeat (refine em_pureT 62 hB kX8_feed rfl rfl ?_))
        refine em_loc (lc' := [(0, .ref 53), (1, .int a), (2, .int b), (3, .int c), (4, .int d), (5, .int e), (7, .int (nI j + 1))]) rfl ?_
        rw [nI_1]
        exact ih (j + 1) (by omega)
  (repeat (refine em_pureT 62 hB kX8_feed rfl rfl ?_))
  refine em_loc (lc' := [(0, .ref 53), (1, .int a), (2, .int b), (3, .int c), (4, .int d), (5, .int e), (7, .int (nI 0))]) rfl ?_
  exact em_hpE (em_tm0 hS) (loop 20 0 (by omega))
end Feed
