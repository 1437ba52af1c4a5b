/-! THE TAPE: bytes that come in -/
def em_by (w : Int32) (s : Nat) : Nat := w.toBitVec.toNat / 2 ^ s % 256
def em_sh (k : Nat) : Int32 := 24 - 8 * nI k
theorem em_sh_ok : ∀ k, k < 4 → ¬ em_sh k < 0 ∧ em_sh k + (-8) = em_sh (k + 1) := by decide +kernel
theorem em_sh4 : em_sh 4 < 0 := by decide +kernel
theorem em_byU (w : Int32) {k : Nat} (hk : k < 4) : (w.toUInt32 >>> ((em_sh k).toUInt32 &&& Int32.toUInt32 31)).toInt32 &&& 255 = nI (em_by w (24 - 8 * k)) := by
  have h1 : ∀ k, k < 4 → (((em_sh k).toUInt32 &&& Int32.toUInt32 31).toBitVec % 32).toNat = 24 - 8 * k := by decide +kernel
  rw [pk_and _ (m := 255) 8 (by decide), pk_ushr w (em_sh k) (24 - 8 * k) (h1 k hk)]
  rfl
theorem em_toInt (x : Int32) : x.toInt = if 2 * x.toBitVec.toNat < 4294967296 then (x.toBitVec.toNat : Int) else (x.toBitVec.toNat : Int) - 4294967296 := BitVec.toInt_eq_toNat_cond x.toBitVec
theorem em_byS (w s : Int32) {q : Nat} (hq : q = 0 ∨ q = 8 ∨ q = 16 ∨ q = 24) (hs : ((s &&& 31).toBitVec.smod 32).toNat = q) : (w >>> (s &&& 31)) &&& 255 = nI (em_by w q) := by
  rw [pk_and _ (m := 255) 8 (by decide)]
  have h1 := pk_shr w (s &&& 31) q hs
  have h2 := em_toInt (w >>> (s &&& 31))
  have h3 := em_toInt w
  have h4 : w.toBitVec.toNat < 4294967296 := w.toBitVec.isLt
  have h5 : (w >>> (s &&& 31)).toBitVec.toNat < 4294967296 := (w >>> (s &&& 31)).toBitVec.isLt
  unfold em_by
  congr 1
  rw [Int.shiftRight_eq_div_pow] at h1
  rcases hq with rfl | rfl | rfl | rfl
  · simp only [Nat.pow_zero, Nat.div_one] at h1 ⊢
    split at h2 <;> split at h3 <;> omega
  · have e : ((2 ^ 8 : Nat) : Int) = 256 := rfl
    rw [e] at h1
    show _ = w.toBitVec.toNat / 256 % 256
    show (w >>> (s &&& 31)).toBitVec.toNat % 256 = _
    split at h2 <;> split at h3 <;> omega
  · have e : ((2 ^ 16 : Nat) : Int) = 65536 := rfl
    rw [e] at h1
    show _ = w.toBitVec.toNat / 65536 % 256
    show (w >>> (s &&& 31)).toBitVec.toNat % 256 = _
    split at h2 <;> split at h3 <;> omega
  · have e : ((2 ^ 24 : Nat) : Int) = 16777216 := rfl
    rw [e] at h1
    show _ = w.toBitVec.toNat / 16777216 % 256
    show (w >>> (s &&& 31)).toBitVec.toNat % 256 = _
    split at h2 <;> split at h3 <;> omega
theorem em_by_lt (w : Int32) (s : Nat) : em_by w s < 256 := Nat.mod_lt _ (by omega)
def em_b1 (b : Nat) : List Nat := if b = 0 then [] else [b]
/-- the bytes of a number from place k on, those that aren't 0 -/
def em_w4 (w : Int32) : Nat → List Nat
  | 0 => []
  | d + 1 => em_b1 (em_by w (8 * d)) ++ em_w4 w d
/-- bytes put behind the first S -/
def em_app : (Nat → Int32) → Nat → List Nat → Nat → Int32
  | f, _, [] => f
  | f, S, b :: bs => em_app (va_up f S (nI b)) (S + 1) bs
theorem em_app_app : ∀ (xs ys : List Nat) (f : Nat → Int32) (S : Nat), em_app f S (xs ++ ys) = em_app (em_app f S xs) (S + xs.length) ys
  | [], ys, f, S => rfl
  | b :: bs, ys, f, S => by
    show em_app (va_up f S (nI b)) (S + 1) (bs ++ ys) = em_app (em_app (va_up f S (nI b)) (S + 1) bs) (S + (bs.length + 1)) ys
    rw [em_app_app bs ys, show S + 1 + bs.length = S + (bs.length + 1) by omega]
theorem em_and255 {x : Int32} {b : Nat} (hb : b < 256) (h : x = nI b) : (x = 0 ↔ b = 0) := by
  rw [h]
  exact nI_eq (b := 0) (by omega) (by omega)
theorem s_bytesIn (Γ : em_Cx) (hp : em_Hp) (w : Int32) : em_MC Γ 0 mX5_bytesIn [.int w] hp (some (.int (nI (em_w4 w 4).length))) hp := by
  refine em_MC_of (Nat.le_refl _) (Nat.le_refl _) (by decide +kernel) rfl (Nat.le_of_ble_eq_true rfl) ?_
  have loop : ∀ d k c, k + d = 4 → em_EW Γ 0 mX5_bytesIn hp (some (.int (nI (c + (em_w4 w d).length))), hp) 5 [(0, .int w), (1, .int (nI c)), (2, .int (em_sh k))] [] hp := by
    intro d
    induction d with
    | zero =>
      intro k c hk
      obtain rfl : k = 4 := by omega
      (repeat (refine em_pure (Nat.zero_le _) kX5_bytesIn rfl ?_))
      refine em_branch kX5_bytesIn rfl (fun _ => ?_) (fun h => absurd em_sh4 h)
      (repeat (refine em_pure (Nat.zero_le _) kX5_bytesIn rfl ?_))
      exact em_iret kX5_bytesIn rfl rfl rfl rfl
    | succ d ih =>
      intro k c hk
      obtain ⟨g1, g2⟩ := em_sh_ok k (by omega)
      have hby := em_byU w (k := k) (by omega)
      rw [show 24 - 8 * k = 8 * d by omega] at hby
      have hb := em_by_lt w (8 * d)
      (repeat (refine em_pure (Nat.zero_le _) kX5_bytesIn rfl ?_))
      refine em_branch kX5_bytesIn rfl (fun h => absurd h g1) (fun _ => ?_)
      (repeat (refine em_pure (Nat.zero_le _) kX5_bytesIn rfl ?_))
      refine em_branch kX5_bytesIn rfl (fun h => ?_) (fun h => ?_)
      · have h0 := (em_and255 hb hby).mp h
        (repeat (refine em_pureT 5 (Nat.zero_le _) kX5_bytesIn rfl rfl ?_))
        refine em_loc (lc' := [(0, .int w), (1, .int (nI c)), (2, .int (em_sh k + (-8)))]) rfl ?_
        rw [g2, show em_w4 w (d + 1) = em_w4 w d by simp [em_w4, em_b1, h0]]
        exact ih (k + 1) c (by omega)
      · have h0 : ¬ em_by w (8 * d) = 0 := fun z => h ((em_and255 hb hby).mpr z)
        (repeat (refine em_pureT 5 (Nat.zero_le _) kX5_bytesIn rfl rfl ?_))
        refine em_loc (lc' := [(0, .int w), (1, .int (nI c + 1)), (2, .int (em_sh k + (-8)))]) rfl ?_
        rw [g2, nI_1, show c + (em_w4 w (d + 1)).length = c + 1 + (em_w4 w d).length by simp [em_w4, em_b1, h0]; omega]
        exact ih (k + 1) (c + 1) (by omega)
  (repeat (refine em_pureT 5 (Nat.zero_le _) kX5_bytesIn rfl rfl ?_))
  refine em_loc (lc' := [(0, .int w), (1, .int (nI 0)), (2, .int (em_sh 0))]) rfl ?_
  have h0 := loop 4 0 0 (by omega)
  rw [Nat.zero_add] at h0
  exact h0
section Tape
variable {Γ : em_Cx} {n m : Nat} {dl : Nat → Nat} {I : Nat → Nat → Int32} {J : Nat → Nat → Int64} {rv : em_Rv}
theorem s_tSize (hB : 85 ≤ n) : em_MC Γ 0 mX5_size [.ref 28] (em_hm n m dl I J rv) (some (.int (I 28 1))) (em_hm n m dl I J rv) := by
  refine em_MC_of (Nat.le_refl _) (Nat.le_refl _) (by decide +kernel) rfl (Nat.le_of_ble_eq_true rfl) ?_
  (repeat (refine em_pure hB kX5_size rfl ?_))
  exact em_iret kX5_size rfl rfl rfl rfl
theorem s_hasRoomFor (hB : 85 ≤ n) {x : Int32} {S c : Nat} (hS : I 28 1 = nI S) (hS2 : S ≤ 200) (hx : x = nI c) (hc : c ≤ 20) : em_MC Γ 0 mX5_hasRoomFor [.ref 28, .int x] (em_hm n m dl I J rv) (some (.int (if S + c ≤ 200 then 1 else 0))) (em_hm n m dl I J rv) := by
  refine em_MC_of (Nat.le_refl _) (Nat.le_refl _) (by decide +kernel) rfl (Nat.le_of_ble_eq_true rfl) ?_
  (repeat (refine em_pure hB kX5_hasRoomFor rfl ?_))
  refine em_branch kX5_hasRoomFor rfl (fun (h : 200 < I 28 1 + x) => ?_) (fun (h : ¬ 200 < I 28 1 + x) => ?_)
  · rw [hS, hx, nI_add] at h
    have h1 : ¬ S + c ≤ 200 := fun z => nI_nlt (a := 200) z (by omega) h
    (repeat (refine em_pure hB kX5_hasRoomFor rfl ?_))
    exact em_iret kX5_hasRoomFor rfl rfl rfl (by rw [if_neg h1])
  · rw [hS, hx, nI_add] at h
    have h1 : S + c ≤ 200 := Nat.not_lt.mp fun z => h (nI_lt (a := 200) z (by omega))
    (repeat (refine em_pure hB kX5_hasRoomFor rfl ?_))
    exact em_iret kX5_hasRoomFor rfl rfl rfl (by rw [if_pos h1])
/-- the heap with S bytes on the class's tape, of the row f -/
abbrev em_tp (n m : Nat) (dl : Nat → Nat) (I : Nat → Nat → Int32) (J : Nat → Nat → Int64) (rv : em_Rv) (f : Nat → Int32) (S : Nat) : em_Hp := em_hm n m dl (va_up (va_up I 29 f) 28 (va_up (I 28) 1 (nI S))) J rv
theorem s_append (hB : 85 ≤ n) {w : Int32} {f0 : Nat → Int32} {S : Nat} (hS : S + (em_w4 w 4).length ≤ 200) : em_MC Γ 0 mX5_append [.ref 28, .int w] (em_tp n m dl I J rv f0 S) none (em_tp n m dl I J rv (em_app f0 S (em_w4 w 4)) (S + (em_w4 w 4).length)) := by
  refine em_MC_of (Nat.le_refl _) (Nat.le_refl _) (by decide +kernel) rfl (Nat.le_of_ble_eq_true rfl) ?_
  have loop : ∀ d k f T, k + d = 4 → T + (em_w4 w d).length ≤ 200 → em_EW Γ 0 mX5_append (em_tp n m dl I J rv f0 S) (none, em_tp n m dl I J rv (em_app f T (em_w4 w d)) (T + (em_w4 w d).length)) 3 [(0, .ref 28), (1, .int w), (2, .int (em_sh k))] [] (em_tp n m dl I J rv f T) := by
    intro d
    induction d with
    | zero =>
      intro k f T hk _
      obtain rfl : k = 4 := by omega
      (repeat (refine em_pure hB kX5_append rfl ?_))
      refine em_branch kX5_append rfl (fun _ => ?_) (fun h => absurd em_sh4 h)
      (repeat (refine em_pure hB kX5_append rfl ?_))
      exact em_vret kX5_append rfl rfl rfl
    | succ d ih =>
      intro k f T hk hT
      obtain ⟨g1, g2⟩ := em_sh_ok k (by omega)
      have hby := em_byU w (k := k) (by omega)
      rw [show 24 - 8 * k = 8 * d by omega] at hby
      have hb := em_by_lt w (8 * d)
      (repeat (refine em_pure hB kX5_append rfl ?_))
      refine em_branch kX5_append rfl (fun h => absurd h g1) (fun _ => ?_)
      (repeat (refine em_pure hB kX5_append rfl ?_))
      refine em_branch kX5_append rfl (fun h => ?_) (fun h => ?_)
      · have h0 := (em_and255 hb hby).mp h
        have e0 : em_w4 w (d + 1) = em_w4 w d := by simp [em_w4, em_b1, h0]
        rw [e0] at hT ⊢
        (repeat (refine em_pureT 3 hB kX5_append rfl rfl ?_))
        refine em_loc (lc' := [(0, .ref 28), (1, .int w), (2, .int (em_sh k + (-8)))]) rfl ?_
        rw [g2]
        exact ih (k + 1) f T (by omega) hT
      · have h0 : ¬ em_by w (8 * d) = 0 := fun z => h ((em_and255 hb hby).mpr z)
        have e0 : em_w4 w (d + 1) = em_by w (8 * d) :: em_w4 w d := by simp [em_w4, em_b1, h0]
        rw [e0] at hT ⊢
        simp only [List.length_cons] at hT
        (repeat (refine em_pure hB kX5_append rfl ?_))
        refine em_branch kX5_append rfl (fun (h5 : (200 : Int32) ≤ nI T) => absurd h5 (nI_ge (b := 200) (by omega) (by omega))) (fun _ => ?_)
        (repeat (refine em_pure hB kX5_append rfl ?_))
        refine em_iw (L := 200) (j := T) hB kX5_append rfl rfl rfl rfl rfl (by omega) rfl ?_
        (repeat (refine em_pure hB kX5_append rfl ?_))
        refine em_pi hB kX5_append rfl rfl rfl rfl rfl rfl rfl ?_
        refine em_hpE (hp' := em_tp n m dl I J rv (va_up f T (nI (em_by w (8 * d)))) (T + 1)) ?_ ?_
        · have e1 : ∀ (x : Int32), x = nI (em_by w (8 * d)) → em_sI (em_sI (em_tp n m dl I J rv f T) 29 (va_up f T x)) 28 (va_up (va_up (I 28) 1 (nI T)) 1 (nI T + 1)) = em_tp n m dl I J rv (va_up f T (nI (em_by w (8 * d)))) (T + 1) := by
            intro x hx
            rw [hx, nI_1]
            show (_, _, va_up (va_up (va_up (va_up I 29 f) 28 _) 29 _) 28 _, _) = (_, _, va_up (va_up I 29 _) 28 _, _)
            congr 3
            funext a
            by_cases ha : a = 28
            · subst ha
              simp only [va_up_self]
              exact bx_uu _ _ _ _
            · by_cases hb : a = 29
              · subst hb; simp [va_up]
              · simp [va_up, ha, hb]
          exact e1 _ hby
        (repeat (refine em_pureT 3 hB kX5_append rfl rfl ?_))
        refine em_loc (lc' := [(0, .ref 28), (1, .int w), (2, .int (em_sh k + (-8)))]) rfl ?_
        rw [g2]
        have h6 := ih (k + 1) (va_up f T (nI (em_by w (8 * d)))) (T + 1) (by omega) (by omega)
        rw [show T + 1 + (em_w4 w d).length = T + (em_by w (8 * d) :: em_w4 w d).length by simp only [List.length_cons]; omega] at h6
        exact h6
  (repeat (refine em_pureT 3 hB kX5_append rfl rfl ?_))
  refine em_loc (lc' := [(0, .ref 28), (1, .int w), (2, .int (em_sh 0))]) rfl ?_
  exact loop 4 0 f0 S (by omega) hS
theorem s_cutTo (hB : 85 ≤ n) {x : Int32} : em_MC Γ 1 mX5_cutTo [.ref 28, .int x] (em_hm n m dl I J rv) (some (.int (if 0 ≤ x ∧ x ≤ I 28 1 then 1 else 0))) (if 0 ≤ x ∧ x ≤ I 28 1 then em_sI (em_hm n m dl I J rv) 28 (va_up (I 28) 1 x) else em_hm n m dl I J rv) := by
  by_cases h : 0 ≤ x ∧ x ≤ I 28 1
  · rw [if_pos h, if_pos h]
    refine em_MC_of (Nat.le_refl _) (Nat.le_refl _) (by decide +kernel) rfl (Nat.le_of_ble_eq_true rfl) ?_
    (repeat (refine em_pure hB kX5_cutTo rfl ?_))
    refine em_callS (μ' := mX7_within) kX5_cutTo rfl lX5_19 tX7_within (s_within Γ _ x 0 (I 28 1)) rfl rfl (by decide) (Nat.le_of_ble_eq_true rfl) (Nat.le_refl _) (Nat.le_refl _) ?_
    refine em_bn kX5_cutTo rfl (fun _ => ?_) (fun h1 => absurd h h1)
    (repeat (refine em_pure hB kX5_cutTo rfl ?_))
    refine em_pi hB kX5_cutTo rfl rfl rfl rfl rfl rfl rfl ?_
    (repeat (refine em_pure hB kX5_cutTo rfl ?_))
    exact em_iret kX5_cutTo rfl rfl rfl rfl
  · rw [if_neg h, if_neg h]
    refine em_MC_of (Nat.le_refl _) (Nat.le_refl _) (by decide +kernel) rfl (Nat.le_of_ble_eq_true rfl) ?_
    (repeat (refine em_pure hB kX5_cutTo rfl ?_))
    refine em_callS (μ' := mX7_within) kX5_cutTo rfl lX5_19 tX7_within (s_within Γ _ x 0 (I 28 1)) rfl rfl (by decide) (Nat.le_of_ble_eq_true rfl) (Nat.le_refl _) (Nat.le_refl _) ?_
    refine em_bn kX5_cutTo rfl (fun h1 => absurd h1 h) (fun _ => ?_)
    (repeat (refine em_pure hB kX5_cutTo rfl ?_))
    exact em_iret kX5_cutTo rfl rfl rfl rfl
theorem s_mEnd (hB : 85 ≤ n) {x : Int32} : em_MC Γ 1 mX8_end [.ref 53, .int x] (em_hm n m dl I J rv) (some (.int (if 0 ≤ x ∧ x ≤ I 53 35 then 1 else 0))) (if 0 ≤ x ∧ x ≤ I 53 35 then em_sI (em_hm n m dl I J rv) 53 (va_up (I 53) 35 x) else em_hm n m dl I J rv) := by
  by_cases h : 0 ≤ x ∧ x ≤ I 53 35
  · rw [if_pos h, if_pos h]
    refine em_MC_of (Nat.le_refl _) (Nat.le_refl _) (by decide +kernel) rfl (Nat.le_of_ble_eq_true rfl) ?_
    (repeat (refine em_pure hB kX8_end rfl ?_))
    refine em_branch kX8_end rfl (fun h1 => absurd h1 (Int32.not_lt.mpr h.1)) (fun _ => ?_)
    (repeat (refine em_pure hB kX8_end rfl ?_))
    refine em_branch kX8_end rfl (fun _ => ?_) (fun h1 => absurd h.2 h1)
    (repeat (refine em_pure hB kX8_end rfl ?_))
    refine em_pi hB kX8_end rfl rfl rfl rfl rfl rfl rfl ?_
    (repeat (refine em_pure hB kX8_end rfl ?_))
    exact em_iret kX8_end rfl rfl rfl rfl
  · rw [if_neg h, if_neg h]
    refine em_MC_of (Nat.le_refl _) (Nat.le_refl _) (by decide +kernel) rfl (Nat.le_of_ble_eq_true rfl) ?_
    (repeat (refine em_pure hB kX8_end rfl ?_))
    refine em_branch kX8_end rfl (fun _ => ?_) (fun h1 => ?_)
    · (repeat (refine em_pure hB kX8_end rfl ?_))
      exact em_iret kX8_end rfl rfl rfl rfl
    · (repeat (refine em_pure hB kX8_end rfl ?_))
      refine em_branch kX8_end rfl (fun h2 => absurd ⟨Int32.not_lt.mp h1, h2⟩ h) (fun _ => ?_)
      (repeat (refine em_pure hB kX8_end rfl ?_))
      exact em_iret kX8_end rfl rfl rfl rfl
end Tape
