/-! THE CLASS'S READER OF LAWS -/
theorem s_has (Γ : em_Cx) (hp : em_Hp) (x k : Int32) : em_MC Γ 0 mX7_has [.int x, .int k] hp (some (.int (if ¬ (x >>> (k &&& 31)) &&& 1 = 0 then 1 else 0))) hp := by
  refine em_MC_of (Nat.le_refl _) (Nat.le_refl _) (by decide +kernel) rfl (Nat.le_of_ble_eq_true rfl) ?_
  (repeat (refine em_pure (Nat.zero_le _) kX7_has rfl ?_))
  refine em_branch kX7_has rfl (fun (h : (x >>> (k &&& 31)) &&& 1 = 0) => ?_) (fun (h : ¬ (x >>> (k &&& 31)) &&& 1 = 0) => ?_)
  · (repeat (refine em_pure (Nat.zero_le _) kX7_has rfl ?_))
    exact em_iret kX7_has rfl rfl rfl (by rw [if_neg (fun z => z h)])
  · (repeat (refine em_pure (Nat.zero_le _) kX7_has rfl ?_))
    exact em_iret kX7_has rfl rfl rfl (by rw [if_pos h])
/-- a clause is taken: what is forbidden, and the numbers by their sorts -/
def em_tk (s : Nat) (v F : Int32) (N : Nat → Int32) : Option (Int32 × (Nat → Int32)) :=
  if s = 0 then (if (0 ≤ v ∧ v ≤ 7) ∧ (F >>> (v &&& 31)) &&& 1 = 0 then some (F ||| (1 <<< (v &&& 31)), N) else none) else (if N s = -1 then some (F, va_up N s v) else none)
def em_cl2 (f : Nat → Int32) (S s we nb ne bh : Nat) : Option (Nat × Nat × Int32) :=
  if nb = we ∨ ¬ (1 ≤ ne - nb ∧ ne - nb ≤ 5) then none else if bh = S ∨ f bh = 59 then some (bh, s, em_val f (ne - nb) nb 0) else none
/-- a clause at p: where it ends, its sort, its number -/
def em_cl1 (f : Nat → Int32) (S p : Nat) : Option (Nat × Nat × Int32) :=
  if em_fs f S p 6 0 < 6 then em_cl2 f S (em_fs f S p 6 0) (p + em_tl.getD (em_fs f S p 6 0) 0) (em_bl f S (p + em_tl.getD (em_fs f S p 6 0) 0)) (em_dg f S (em_bl f S (p + em_tl.getD (em_fs f S p 6 0) 0))) (em_bl f S (em_dg f S (em_bl f S (p + em_tl.getD (em_fs f S p 6 0) 0)))) else none
def em_prs (f : Nat → Int32) (S : Nat) : Nat → Nat → Int32 → (Nat → Int32) → Int32 × Int32 × (Nat → Int32)
  | 0, p, F, N => (nI p, F, N)
  | d + 1, p, F, N => match em_cl1 f S p with
    | none => (nI p, F, N)
    | some (bh, s, v) => match em_tk s v F N with
      | none => (nI p, F, N)
      | some (F', N') => if bh = S then (-1, F', N') else em_prs f S d (em_bl f S (bh + 1)) F' N'
def em_flt (f : Nat → Int32) (S : Nat) (N : Nat → Int32) : Int32 × Int32 × (Nat → Int32) := if em_bl f S 0 = S then (-1, 0, N) else em_prs f S 201 (em_bl f S 0) 0 N
theorem em_fs_sw (f : Nat → Int32) (S p : Nat) : ∀ d i, em_fs f S p d i < i + d → em_sw f S (em_fs f S p d i) p
  | 0, i, h => by
    have : em_fs f S p 0 i = i := rfl
    omega
  | d + 1, i, h => by
    by_cases hs : em_sw f S i p
    · rw [show em_fs f S p (d + 1) i = i by rw [em_fs, if_pos hs]]; exact hs
    · have e : em_fs f S p (d + 1) i = em_fs f S p d (i + 1) := by rw [em_fs, if_neg hs]
      rw [e] at h ⊢
      exact em_fs_sw f S p d (i + 1) (by omega)
theorem em_cl1_lt {f : Nat → Int32} {S p bh s : Nat} {v : Int32} (hp : p ≤ S) (h : em_cl1 f S p = some (bh, s, v)) : p < bh ∧ bh ≤ S ∧ s < 6 := by
  unfold em_cl1 at h
  split at h
  case isFalse => cases h
  rename_i h6
  have hsw := em_fs_sw f S p 6 0 (by omega)
  have hl := em_tl_b _ h6
  have g1 := em_bl_le (f := f) (S := S) (p := p + em_tl.getD (em_fs f S p 6 0) 0) hsw.1
  have g2 := em_dg_le (f := f) (S := S) g1.2
  have g3 := em_bl_le (f := f) (S := S) g2.2
  unfold em_cl2 at h
  split at h
  case isTrue => cases h
  split at h
  case isFalse => cases h
  cases h
  exact ⟨by omega, by omega, h6⟩
section Reader
variable {Γ : em_Cx} {n m : Nat} {dl : Nat → Nat} {I : Nat → Nat → Int32} {J : Nat → Nat → Int64} {rv : em_Rv}
abbrev em_lw (n m : Nat) (dl : Nat → Nat) (I : Nat → Nat → Int32) (J : Nat → Nat → Int64) (rv : em_Rv) (F : Int32) (N : Nat → Int32) : em_Hp := em_hm n m dl (va_up (va_up I 47 (va_up (I 47) 0 F)) 48 N) J rv
theorem em_lwF {F F' : Int32} {N : Nat → Int32} : em_sI (em_lw n m dl I J rv F N) 47 (va_up (va_up (I 47) 0 F) 0 F') = em_lw n m dl I J rv F' N := by
  show (_, _, va_up (va_up (va_up I 47 _) 48 N) 47 _, _) = (_, _, va_up (va_up I 47 _) 48 N, _)
  rw [bx_uu (I 47)]
  congr 3
  funext q
  by_cases h : q = 47
  · subst h; simp [va_up]
  · by_cases h2 : q = 48
    · subst h2; simp [va_up]
    · simp [va_up, h, h2]
theorem s_clear (hB : 85 ≤ n) : em_MC Γ 1 mX4_clear [.ref 47] (em_hm n m dl I J rv) none (em_lw n m dl I J rv 0 (em_fil (I 48) (-1) 6)) := by
  refine em_MC_of (Nat.le_refl _) (Nat.le_refl _) (by decide +kernel) rfl (Nat.le_of_ble_eq_true rfl) ?_
  (repeat (refine em_pure hB kX4_clear rfl ?_))
  refine em_pi hB kX4_clear rfl rfl rfl rfl rfl rfl rfl ?_
  (repeat (refine em_pure hB kX4_clear rfl ?_))
  refine em_callS (μ' := mJ7_fill_53178) kX4_clear rfl lX4_15 tJ7_fill_53178 (s_fillI Γ _ (-1) (L := 6) (k := 48) rfl (em_ltB hB rfl) rfl (by decide)) rfl rfl (by decide) (Nat.le_of_ble_eq_true rfl) (Nat.le_refl _) (Nat.le_refl _) ?_
  (repeat (refine em_pure hB kX4_clear rfl ?_))
  exact em_vret kX4_clear rfl rfl rfl
theorem s_forbid_ok (hB : 85 ≤ n) {v F : Int32} {N : Nat → Int32} (h : (0 ≤ v ∧ v ≤ 7) ∧ (F >>> (v &&& 31)) &&& 1 = 0) : em_MC Γ 2 mX4_forbid [.ref 47, .int v] (em_lw n m dl I J rv F N) (some (.int 1)) (em_lw n m dl I J rv (F ||| (1 <<< (v &&& 31))) N) := by
  refine em_MC_of (Nat.le_refl _) (Nat.le_refl _) (by decide +kernel) rfl (Nat.le_of_ble_eq_true rfl) ?_
  (repeat (refine em_pure hB kX4_forbid rfl ?_))
  refine em_callS (μ' := mX7_isKind) kX4_forbid rfl lX4_47 tX7_isKind (s_isKind Γ _ v) rfl rfl (by decide) (Nat.le_of_ble_eq_true rfl) (Nat.le_refl _) (Nat.le_refl _) ?_
  refine em_bz kX4_forbid rfl (fun _ => ?_) (fun h1 => absurd h.1 h1)
  (repeat (refine em_pure hB kX4_forbid rfl ?_))
  refine em_callS (μ' := mX7_has) kX4_forbid rfl lX4_50 tX7_has (s_has Γ _ F v) rfl rfl (by decide) (Nat.le_of_ble_eq_true rfl) (Nat.le_refl _) (Nat.le_refl _) ?_
  refine em_bz kX4_forbid rfl (fun h1 => absurd h.2 h1) (fun _ => ?_)
  (repeat (refine em_pure hB kX4_forbid rfl ?_))
  refine em_pi hB kX4_forbid rfl rfl rfl rfl rfl rfl rfl ?_
  refine em_hpE em_lwF ?_
  (repeat (refine em_pure hB kX4_forbid rfl ?_))
  exact em_iret kX4_forbid rfl rfl rfl rfl
theorem s_forbid_no (hB : 85 ≤ n) {v F : Int32} {N : Nat → Int32} (h : ¬ ((0 ≤ v ∧ v ≤ 7) ∧ (F >>> (v &&& 31)) &&& 1 = 0)) : em_MC Γ 2 mX4_forbid [.ref 47, .int v] (em_lw n m dl I J rv F N) (some (.int 0)) (em_lw n m dl I J rv F N) := by
  refine em_MC_of (Nat.le_refl _) (Nat.le_refl _) (by decide +kernel) rfl (Nat.le_of_ble_eq_true rfl) ?_
  (repeat (refine em_pure hB kX4_forbid rfl ?_))
  refine em_callS (μ' := mX7_isKind) kX4_forbid rfl lX4_47 tX7_isKind (s_isKind Γ _ v) rfl rfl (by decide) (Nat.le_of_ble_eq_true rfl) (Nat.le_refl _) (Nat.le_refl _) ?_
  refine em_bz kX4_forbid rfl (fun h1 => ?_) (fun _ => ?_)
  · (repeat (refine em_pure hB kX4_forbid rfl ?_))
    refine em_callS (μ' := mX7_has) kX4_forbid rfl lX4_50 tX7_has (s_has Γ _ F v) rfl rfl (by decide) (Nat.le_of_ble_eq_true rfl) (Nat.le_refl _) (Nat.le_refl _) ?_
    refine em_bz kX4_forbid rfl (fun _ => ?_) (fun h2 => absurd ⟨h1, Decidable.not_not.mp h2⟩ h)
    (repeat (refine em_pure hB kX4_forbid rfl ?_))
    exact em_iret kX4_forbid rfl rfl rfl rfl
  · (repeat (refine em_pure hB kX4_forbid rfl ?_))
    exact em_iret kX4_forbid rfl rfl rfl rfl
theorem s_take_ok (hB : 85 ≤ n) {s : Nat} {v F F' : Int32} {N N' : Nat → Int32} (hs : s < 6) (h : em_tk s v F N = some (F', N')) : em_MC Γ 3 mX4_take [.ref 47, .int (nI s), .int v] (em_lw n m dl I J rv F N) (some (.int 1)) (em_lw n m dl I J rv F' N') := by
  unfold em_tk at h
  refine em_MC_of (Nat.le_refl _) (Nat.le_refl _) (by decide +kernel) rfl (Nat.le_of_ble_eq_true rfl) ?_
  (repeat (refine em_pure hB kX4_take rfl ?_))
  split at h
  · rename_i hs0
    subst hs0
    split at h
    case isFalse => cases h
    rename_i hc
    cases h
    refine em_branch kX4_take rfl (fun h1 => absurd rfl h1) (fun _ => ?_)
    (repeat (refine em_pure hB kX4_take rfl ?_))
    refine em_callV (μ' := mX4_forbid) (c1 := 4) kX4_take rfl lX4_31 tX4_forbid (by decide) rfl (em_ltB hB rfl) (s_forbid_ok hB hc) rfl rfl (by decide) (Nat.le_of_ble_eq_true rfl) (Nat.le_refl _) (Nat.le_refl _) ?_
    exact em_iret kX4_take rfl rfl rfl rfl
  · rename_i hs0
    split at h
    case isFalse => cases h
    rename_i hc
    cases h
    refine em_branch kX4_take rfl (fun _ => ?_) (fun h1 => absurd (fun z => hs0 ((nI_eq (b := 0) (by omega) (by omega)).mp z)) h1)
    (repeat (refine em_pure hB kX4_take rfl ?_))
    refine em_callS (μ' := mX7_within) kX4_take rfl lX4_35 tX7_within (s_within Γ _ (nI s) 0 5) rfl rfl (by decide) (Nat.le_of_ble_eq_true rfl) (Nat.le_refl _) (Nat.le_refl _) ?_
    refine em_bz kX4_take rfl (fun _ => ?_) (fun h1 => absurd ⟨nI_pos' (by omega), nI_le (b := 5) (by omega) (by omega)⟩ h1)
    (repeat (refine em_pure hB kX4_take rfl ?_))
    refine em_ia (L := 6) hB kX4_take rfl rfl rfl rfl rfl hs rfl ?_
    (repeat (refine em_pure hB kX4_take rfl ?_))
    refine em_branch kX4_take rfl (fun _ => ?_) (fun h1 => absurd hc h1)
    (repeat (refine em_pure hB kX4_take rfl ?_))
    refine em_iw (L := 6) hB kX4_take rfl rfl rfl rfl rfl hs rfl ?_
    refine em_hpE (hp' := em_lw n m dl I J rv F (va_up N s v)) (em_sI2 (em_hm n m dl (va_up I 47 (va_up (I 47) 0 F)) J rv) 48 N _) ?_
    (repeat (refine em_pure hB kX4_take rfl ?_))
    exact em_iret kX4_take rfl rfl rfl rfl
theorem s_take_no (hB : 85 ≤ n) {s : Nat} {v F : Int32} {N : Nat → Int32} (hs : s < 6) (h : em_tk s v F N = none) : em_MC Γ 3 mX4_take [.ref 47, .int (nI s), .int v] (em_lw n m dl I J rv F N) (some (.int 0)) (em_lw n m dl I J rv F N) := by
  unfold em_tk at h
  refine em_MC_of (Nat.le_refl _) (Nat.le_refl _) (by decide +kernel) rfl (Nat.le_of_ble_eq_true rfl) ?_
  (repeat (refine em_pure hB kX4_take rfl ?_))
  split at h
  · rename_i hs0
    subst hs0
    split at h
    case isTrue => cases h
    rename_i hc
    refine em_branch kX4_take rfl (fun h1 => absurd rfl h1) (fun _ => ?_)
    (repeat (refine em_pure hB kX4_take rfl ?_))
    refine em_callV (μ' := mX4_forbid) (c1 := 4) kX4_take rfl lX4_31 tX4_forbid (by decide) rfl (em_ltB hB rfl) (s_forbid_no hB hc) rfl rfl (by decide) (Nat.le_of_ble_eq_true rfl) (Nat.le_refl _) (Nat.le_refl _) ?_
    exact em_iret kX4_take rfl rfl rfl rfl
  · rename_i hs0
    split at h
    case isTrue => cases h
    rename_i hc
    refine em_branch kX4_take rfl (fun _ => ?_) (fun h1 => absurd (fun z => hs0 ((nI_eq (b := 0) (by omega) (by omega)).mp z)) h1)
    (repeat (refine em_pure hB kX4_take rfl ?_))
    refine em_callS (μ' := mX7_within) kX4_take rfl lX4_35 tX7_within (s_within Γ _ (nI s) 0 5) rfl rfl (by decide) (Nat.le_of_ble_eq_true rfl) (Nat.le_refl _) (Nat.le_refl _) ?_
    refine em_bz kX4_take rfl (fun _ => ?_) (fun h1 => absurd ⟨nI_pos' (by omega), nI_le (b := 5) (by omega) (by omega)⟩ h1)
    (repeat (refine em_pure hB kX4_take rfl ?_))
    refine em_ia (L := 6) hB kX4_take rfl rfl rfl rfl rfl hs rfl ?_
    (repeat (refine em_pure hB kX4_take rfl ?_))
    refine em_branch kX4_take rfl (fun h1 => absurd h1 hc) (fun _ => ?_)
    (repeat (refine em_pure hB kX4_take rfl ?_))
    exact em_iret kX4_take rfl rfl rfl rfl
theorem s_readClause (hB : 85 ≤ n) {p S : Nat} (hS : I 28 1 = nI S) (hS2 : S ≤ 200) (hp : p ≤ S) {F : Int32} {N : Nat → Int32} : ∃ (F' : Int32) (N' : Nat → Int32) (r : Int32), em_MC Γ 6 mX5_readClause [.ref 28, .int (nI p), .ref 47] (em_lw n m dl I J rv F N) (some (.int r)) (em_lw n m dl I J rv F' N') ∧ ((∃ bh s v, em_cl1 (I 29) S p = some (bh, s, v) ∧ em_tk s v F N = some (F', N') ∧ r = nI bh) ∨ ((∀ bh s v, em_cl1 (I 29) S p = some (bh, s, v) → em_tk s v F N = none) ∧ r = -1)) := by
  by_cases h6 : em_fs (I 29) S p 6 0 < 6
  case neg =>
    refine ⟨F, N, -1, ?_, Or.inr ⟨fun bh s v h => ?_, rfl⟩⟩
    · refine em_MC_of (Nat.le_refl _) (Nat.le_refl _) (by decide +kernel) rfl (Nat.le_of_ble_eq_true rfl) ?_
      (repeat (refine em_pure hB kX5_readClause rfl ?_))
      refine em_callV (μ' := mX5_sortAt) (c1 := 5) kX5_readClause rfl lX5_36 tX5_sortAt (by decide) rfl (em_ltB hB rfl) (s_sortAt (I := va_up (va_up I 47 (va_up (I 47) 0 F)) 48 N) hB hS hS2 hp) rfl rfl (by decide) (Nat.le_of_ble_eq_true rfl) (Nat.le_refl _) (Nat.le_refl _) ?_
      rw [if_neg (show ¬ em_fs (va_up (va_up I 47 (va_up (I 47) 0 F)) 48 N 29) S p 6 0 < 6 from h6)]
      (repeat (refine em_pure hB kX5_readClause rfl ?_))
      refine em_branch kX5_readClause rfl (fun h => absurd rfl h) (fun _ => ?_)
      (repeat (refine em_pure hB kX5_readClause rfl ?_))
      exact em_iret kX5_readClause rfl rfl rfl rfl
    · unfold em_cl1 at h; rw [if_neg h6] at h; cases h
  have hsw := em_fs_sw (I 29) S p 6 0 (by omega)
  have hcl : em_cl1 (I 29) S p = em_cl2 (I 29) S (em_fs (I 29) S p 6 0) (p + em_tl.getD (em_fs (I 29) S p 6 0) 0) (em_bl (I 29) S (p + em_tl.getD (em_fs (I 29) S p 6 0) 0)) (em_dg (I 29) S (em_bl (I 29) S (p + em_tl.getD (em_fs (I 29) S p 6 0) 0))) (em_bl (I 29) S (em_dg (I 29) S (em_bl (I 29) S (p + em_tl.getD (em_fs (I 29) S p 6 0) 0)))) := by rw [em_cl1, if_pos h6]
  rw [hcl]
  have sort0 := fun (F : Int32) (N : Nat → Int32) => s_sortAt (Γ := Γ) (n := n) (m := m) (dl := dl) (J := J) (rv := rv) (I := va_up (va_up I 47 (va_up (I 47) 0 F)) 48 N) hB hS hS2 hp
  have sort1 : ∀ (F : Int32) (N : Nat → Int32), em_MC Γ 5 mX5_sortAt [.ref 28, .int (nI p)] (em_lw n m dl I J rv F N) (some (.int (nI (em_fs (I 29) S p 6 0)))) (em_lw n m dl I J rv F N) := by
    intro F N
    have h := sort0 F N
    rw [if_pos (show em_fs (va_up (va_up I 47 (va_up (I 47) 0 F)) 48 N 29) S p 6 0 < 6 from h6)] at h
    exact h
  generalize hs : em_fs (I 29) S p 6 0 = s at *
  have hlen := em_tl_b s h6
  have hweS : p + em_tl.getD s 0 ≤ S := hsw.1
  generalize hwe : p + em_tl.getD s 0 = we at *
  have g1 := em_bl_le (f := I 29) hweS
  have blk1 := s_pastBlanks (Γ := Γ) (n := n) (m := m) (dl := dl) (J := J) (rv := rv) (I := va_up (va_up I 47 (va_up (I 47) 0 F)) 48 N) hB hS hS2 hweS
  have blk1 : em_MC Γ 0 mX5_pastBlanks [.ref 28, .int (nI we)] (em_lw n m dl I J rv F N) (some (.int (nI (em_bl (I 29) S we)))) (em_lw n m dl I J rv F N) := blk1
  generalize hnb : em_bl (I 29) S we = nb at *
  have g2 := em_dg_le (f := I 29) g1.2
  have dig : em_MC Γ 1 mX5_pastDigits [.ref 28, .int (nI nb)] (em_lw n m dl I J rv F N) (some (.int (nI (em_dg (I 29) S nb)))) (em_lw n m dl I J rv F N) := s_pastDigits (I := va_up (va_up I 47 (va_up (I 47) 0 F)) 48 N) hB hS hS2 g1.2
  generalize hne : em_dg (I 29) S nb = ne at *
  have g3 := em_bl_le (f := I 29) g2.2
  have blk2 : ∀ (F : Int32) (N : Nat → Int32), em_MC Γ 0 mX5_pastBlanks [.ref 28, .int (nI ne)] (em_lw n m dl I J rv F N) (some (.int (nI (em_bl (I 29) S ne)))) (em_lw n m dl I J rv F N) := fun F N => s_pastBlanks (I := va_up (va_up I 47 (va_up (I 47) 0 F)) 48 N) hB hS hS2 g2.2
  generalize hbh : em_bl (I 29) S ne = bh at *
  have val1 : em_MC Γ 0 mX5_valueOf [.ref 28, .int (nI nb), .int (nI ne)] (em_lw n m dl I J rv F N) (some (.int (em_val (I 29) (ne - nb) nb 0))) (em_lw n m dl I J rv F N) := s_valueOf (I := va_up (va_up I 47 (va_up (I 47) 0 F)) 48 N) hB g2.1 (by omega)
  obtain ⟨u, hu, hWo⟩ := s_wordOf Γ (em_lw n m dl I J rv F N) h6
  -- the walk up to the numbers' checks
  have front : ∀ fin : Option Value × em_Hp, em_n fin.2 = n → em_m fin.2 = m → em_EW Γ 6 mX5_readClause (em_lw n m dl I J rv F N) fin 40 [(0, .ref 28), (1, .int (nI p)), (2, .ref 47), (3, .int (nI s)), (4, .int (nI we)), (5, .int (nI nb)), (6, .int (nI ne))] [] (em_lw n m dl I J rv F N) → em_EW Γ 6 mX5_readClause (em_lw n m dl I J rv F N) fin 0 (lv_args 0 [.ref 28, .int (nI p), .ref 47]) [] (em_lw n m dl I J rv F N) := by
    intro fin hf1 hf2 k
    (repeat (refine em_pure hB kX5_readClause rfl ?_))
    refine em_callV (μ' := mX5_sortAt) (c1 := 5) kX5_readClause rfl lX5_36 tX5_sortAt (by decide) rfl (em_ltB hB rfl) (sort1 F N) rfl rfl (by decide) (Nat.le_of_ble_eq_true rfl) (by rw [hf1]; exact Nat.le_refl _) (by rw [hf2]; exact Nat.le_refl _) ?_
    (repeat (refine em_pure hB kX5_readClause rfl ?_))
    refine em_branch kX5_readClause rfl (fun _ => ?_) (fun (h : ¬ ¬ nI s = -1) => absurd (fun z => by have := congrArg Int32.toInt z; rw [nI_toInt (by omega)] at this; have h5 : (-1 : Int32).toInt = -1 := rfl; rw [h5] at this; omega) h)
    (repeat (refine em_pure hB kX5_readClause rfl ?_))
    refine em_callS (μ' := mX5_wordOf) kX5_readClause rfl lX5_39 tX5_wordOf hWo rfl rfl (by decide) (Nat.le_of_ble_eq_true rfl) (by rw [hf1]; exact Nat.le_refl _) (by rw [hf2]; exact Nat.le_refl _) ?_
    refine em_callW (μ' := mJ0_length_8abf5) kX5_readClause rfl lX5_43 tJ0_length_8abf5 h6 hu (s_length Γ _ h6 hu) rfl rfl (by decide) (Nat.le_of_ble_eq_true rfl) (by rw [hf1]; exact Nat.le_refl _) (by rw [hf2]; exact Nat.le_refl _) ?_
    (repeat (refine em_pureT 24 hB kX5_readClause rfl rfl ?_))
    refine em_loc (lc' := [(0, .ref 28), (1, .int (nI p)), (2, .ref 47), (3, .int (nI s)), (4, .int (nI p + nI (em_tl.getD s 0)))]) rfl ?_
    rw [nI_add, hwe]
    (repeat (refine em_pure hB kX5_readClause rfl ?_))
    refine em_callV (μ' := mX5_pastBlanks) (c1 := 5) kX5_readClause rfl lX5_28 tX5_pastBlanks (by decide) rfl (em_ltB hB rfl) blk1 rfl rfl (by decide) (Nat.le_of_ble_eq_true rfl) (by rw [hf1]; exact Nat.le_refl _) (by rw [hf2]; exact Nat.le_refl _) ?_
    (repeat (refine em_pure hB kX5_readClause rfl ?_))
    refine em_callV (μ' := mX5_pastDigits) (c1 := 5) kX5_readClause rfl lX5_48 tX5_pastDigits (by decide) rfl (em_ltB hB rfl) dig rfl rfl (by decide) (Nat.le_of_ble_eq_true rfl) (by rw [hf1]; exact Nat.le_refl _) (by rw [hf2]; exact Nat.le_refl _) ?_
    (repeat (refine em_pureT 40 hB kX5_readClause rfl rfl ?_))
    exact em_loc (lc' := [(0, .ref 28), (1, .int (nI p)), (2, .ref 47), (3, .int (nI s)), (4, .int (nI we)), (5, .int (nI nb)), (6, .int (nI ne))]) rfl k
  have esub : nI ne - nI nb = nI (ne - nb) := pk_sub g2.1
  by_cases hc : nb = we ∨ ¬ (1 ≤ ne - nb ∧ ne - nb ≤ 5)
  · refine ⟨F, N, -1, ?_, Or.inr ⟨fun bh' s' v' h => ?_, rfl⟩⟩
    · refine em_MC_of (Nat.le_refl _) (Nat.le_refl _) (by decide +kernel) rfl (Nat.le_of_ble_eq_true rfl) ?_
      refine front _ rfl rfl ?_
      (repeat (refine em_pure hB kX5_readClause rfl ?_))
      refine em_branch kX5_readClause rfl (fun _ => ?_) (fun (h : ¬ nI nb = nI we) => ?_)
      · (repeat (refine em_pure hB kX5_readClause rfl ?_))
        exact em_iret kX5_readClause rfl rfl rfl rfl
      · have h1 : ¬ nb = we := fun z => h (by rw [z])
        (repeat (refine em_pure hB kX5_readClause rfl ?_))
        refine em_callS (μ' := mX7_within) kX5_readClause rfl lX5_19 tX7_within (s_within Γ _ (nI ne - nI nb) 1 5) rfl rfl (by decide) (Nat.le_of_ble_eq_true rfl) (Nat.le_refl _) (Nat.le_refl _) ?_
        refine em_bn kX5_readClause rfl (fun h2 => ?_) (fun _ => ?_)
        · rw [esub] at h2
          refine absurd ⟨?_, ?_⟩ (hc.resolve_left h1)
          · exact Nat.not_lt.mp fun z => nI_ge (b := 1) z (by omega) h2.1
          · exact Nat.not_lt.mp fun z => nI_ge (a := 5) z (by omega) h2.2
        · (repeat (refine em_pure hB kX5_readClause rfl ?_))
          exact em_iret kX5_readClause rfl rfl rfl rfl
    · unfold em_cl2 at h; rw [if_pos hc] at h; cases h
  have hc1 : ¬ nb = we := fun z => hc (Or.inl z)
  have hc2 : 1 ≤ ne - nb ∧ ne - nb ≤ 5 := Decidable.not_not.mp fun z => hc (Or.inr z)
  have mid : ∀ fin : Option Value × em_Hp, em_n fin.2 = n → em_m fin.2 = m → em_EW Γ 6 mX5_readClause (em_lw n m dl I J rv F N) fin 72 [(0, .ref 28), (1, .int (nI p)), (2, .ref 47), (3, .int (nI s)), (4, .int (nI we)), (5, .int (nI nb)), (6, .int (nI ne))] [.int (em_val (I 29) (ne - nb) nb 0), .int (nI s), .ref 47] (em_lw n m dl I J rv F N) → em_EW Γ 6 mX5_readClause (em_lw n m dl I J rv F N) fin 40 [(0, .ref 28), (1, .int (nI p)), (2, .ref 47), (3, .int (nI s)), (4, .int (nI we)), (5, .int (nI nb)), (6, .int (nI ne))] [] (em_lw n m dl I J rv F N) := by
    intro fin hf1 hf2 k
    (repeat (refine em_pure hB kX5_readClause rfl ?_))
    refine em_branch kX5_readClause rfl (fun h => absurd ((nI_eq (by omega) (by omega)).mp h) hc1) (fun _ => ?_)
    (repeat (refine em_pure hB kX5_readClause rfl ?_))
    refine em_callS (μ' := mX7_within) kX5_readClause rfl lX5_19 tX7_within (s_within Γ _ (nI ne - nI nb) 1 5) rfl rfl (by decide) (Nat.le_of_ble_eq_true rfl) (by rw [hf1]; exact Nat.le_refl _) (by rw [hf2]; exact Nat.le_refl _) ?_
    refine em_bn kX5_readClause rfl (fun _ => ?_) (fun h => absurd (by rw [esub]; exact ⟨nI_le (a := 1) hc2.1 (by omega), nI_le (b := 5) hc2.2 (by omega)⟩) h)
    (repeat (refine em_pure hB kX5_readClause rfl ?_))
    refine em_callV (μ' := mX5_valueOf) (c1 := 5) kX5_readClause rfl lX5_51 tX5_valueOf (by decide) rfl (em_ltB hB rfl) val1 rfl rfl (by decide) (Nat.le_of_ble_eq_true rfl) (by rw [hf1]; exact Nat.le_refl _) (by rw [hf2]; exact Nat.le_refl _) ?_
    exact k
  cases htk : em_tk s (em_val (I 29) (ne - nb) nb 0) F N with
  | none =>
    refine ⟨F, N, -1, ?_, Or.inr ⟨fun bh' s' v' h => ?_, rfl⟩⟩
    · refine em_MC_of (Nat.le_refl _) (Nat.le_refl _) (by decide +kernel) rfl (Nat.le_of_ble_eq_true rfl) ?_
      refine front _ rfl rfl (mid _ rfl rfl ?_)
      refine em_callV (μ' := mX4_take) (c1 := 4) kX5_readClause rfl lX5_55 tX4_take (by decide) rfl (em_ltB hB rfl) (s_take_no hB h6 htk) rfl rfl (by decide) (Nat.le_of_ble_eq_true rfl) (Nat.le_refl _) (Nat.le_refl _) ?_
      refine em_branch kX5_readClause rfl (fun h => absurd rfl h) (fun _ => ?_)
      (repeat (refine em_pure hB kX5_readClause rfl ?_))
      exact em_iret kX5_readClause rfl rfl rfl rfl
    · unfold em_cl2 at h
      rw [if_neg hc] at h
      split at h
      · cases h; exact htk
      · cases h
  | some q =>
    obtain ⟨F', N'⟩ := q
    by_cases hend : bh = S ∨ I 29 bh = 59
    · refine ⟨F', N', nI bh, ?_, Or.inl ⟨bh, s, _, by rw [em_cl2, if_neg hc, if_pos hend], htk, rfl⟩⟩
      refine em_MC_of (Nat.le_refl _) (Nat.le_refl _) (by decide +kernel) rfl (Nat.le_of_ble_eq_true rfl) ?_
      refine front _ rfl rfl (mid _ rfl rfl ?_)
      refine em_callV (μ' := mX4_take) (c1 := 4) kX5_readClause rfl lX5_55 tX4_take (by decide) rfl (em_ltB hB rfl) (s_take_ok hB h6 htk) rfl rfl (by decide) (Nat.le_of_ble_eq_true rfl) (Nat.le_refl _) (Nat.le_refl _) ?_
      refine em_branch kX5_readClause rfl (fun _ => ?_) (fun h => absurd (by decide) h)
      (repeat (refine em_pure hB kX5_readClause rfl ?_))
      refine em_callV (μ' := mX5_pastBlanks) (c1 := 5) kX5_readClause rfl lX5_28 tX5_pastBlanks (by decide) rfl (em_ltB hB rfl) (blk2 F' N') rfl rfl (by decide) (Nat.le_of_ble_eq_true rfl) (Nat.le_refl _) (Nat.le_refl _) ?_
      (repeat (refine em_pure hB kX5_readClause rfl ?_))
      refine em_branch kX5_readClause rfl (fun _ => ?_) (fun (h : ¬ nI bh = I 28 1) => ?_)
      · (repeat (refine em_pure hB kX5_readClause rfl ?_))
        exact em_iret kX5_readClause rfl rfl rfl rfl
      · have h1 : ¬ bh = S := fun z => h (by rw [z, hS])
        (repeat (refine em_pure hB kX5_readClause rfl ?_))
        refine em_ia (L := 200) hB kX5_readClause rfl rfl rfl rfl rfl (by omega) rfl ?_
        (repeat (refine em_pure hB kX5_readClause rfl ?_))
        refine em_branch kX5_readClause rfl (fun h2 => absurd (hend.resolve_left h1) h2) (fun _ => ?_)
        (repeat (refine em_pure hB kX5_readClause rfl ?_))
        exact em_iret kX5_readClause rfl rfl rfl rfl
    · refine ⟨F', N', -1, ?_, Or.inr ⟨fun bh' s' v' h => ?_, rfl⟩⟩
      · refine em_MC_of (Nat.le_refl _) (Nat.le_refl _) (by decide +kernel) rfl (Nat.le_of_ble_eq_true rfl) ?_
        refine front _ rfl rfl (mid _ rfl rfl ?_)
        refine em_callV (μ' := mX4_take) (c1 := 4) kX5_readClause rfl lX5_55 tX4_take (by decide) rfl (em_ltB hB rfl) (s_take_ok hB h6 htk) rfl rfl (by decide) (Nat.le_of_ble_eq_true rfl) (Nat.le_refl _) (Nat.le_refl _) ?_
        refine em_branch kX5_readClause rfl (fun _ => ?_) (fun h => absurd (by decide) h)
        (repeat (refine em_pure hB kX5_readClause rfl ?_))
        refine em_callV (μ' := mX5_pastBlanks) (c1 := 5) kX5_readClause rfl lX5_28 tX5_pastBlanks (by decide) rfl (em_ltB hB rfl) (blk2 F' N') rfl rfl (by decide) (Nat.le_of_ble_eq_true rfl) (Nat.le_refl _) (Nat.le_refl _) ?_
        (repeat (refine em_pure hB kX5_readClause rfl ?_))
        refine em_branch kX5_readClause rfl (fun (h : nI bh = I 28 1) => ?_) (fun _ => ?_)
        · rw [hS] at h
          exact absurd (Or.inl ((nI_eq (by omega) (by omega)).mp h)) hend
        · have h1 : ¬ bh = S := fun z => hend (Or.inl z)
          (repeat (refine em_pure hB kX5_readClause rfl ?_))
          refine em_ia (L := 200) hB kX5_readClause rfl rfl rfl rfl rfl (by omega) rfl ?_
          (repeat (refine em_pure hB kX5_readClause rfl ?_))
          refine em_branch kX5_readClause rfl (fun _ => ?_) (fun (h2 : ¬ ¬ I 29 bh = 59) => absurd (Or.inr (Decidable.not_not.mp h2)) hend)
          (repeat (refine em_pure hB kX5_readClause rfl ?_))
          exact em_iret kX5_readClause rfl rfl rfl rfl
      · unfold em_cl2 at h
        rw [if_neg hc, if_neg hend] at h
        cases h
theorem s_readInto (hB : 85 ≤ n) {S : Nat} (hS : I 28 1 = nI S) (hS2 : S ≤ 200) : ∃ (F' : Int32) (N' : Nat → Int32), em_MC Γ 7 mX5_readInto [.ref 28, .ref 47] (em_hm n m dl I J rv) (some (.int (em_flt (I 29) S (em_fil (I 48) (-1) 6)).1)) (em_lw n m dl I J rv F' N') ∧ ((em_flt (I 29) S (em_fil (I 48) (-1) 6)).1 = -1 → F' = (em_flt (I 29) S (em_fil (I 48) (-1) 6)).2.1 ∧ N' = (em_flt (I 29) S (em_fil (I 48) (-1) 6)).2.2) := by
  have hneg : ∀ q : Nat, q ≤ 200 → ¬ nI q = -1 := by
    intro q hq z
    have := congrArg Int32.toInt z
    rw [nI_toInt (by omega)] at this
    have h5 : (-1 : Int32).toInt = -1 := rfl
    rw [h5] at this
    omega
  have loop : ∀ d c p F N, c + d = 201 → p ≤ S → ∃ (F' : Int32) (N' : Nat → Int32), em_EW Γ 7 mX5_readInto (em_hm n m dl I J rv) (some (.int (em_prs (I 29) S d p F N).1), em_lw n m dl I J rv F' N') 22 [(0, .ref 28), (1, .ref 47), (2, .int (nI p)), (3, .int (nI c))] [] (em_lw n m dl I J rv F N) ∧ ((em_prs (I 29) S d p F N).1 = -1 → F' = (em_prs (I 29) S d p F N).2.1 ∧ N' = (em_prs (I 29) S d p F N).2.2) := by
    intro d
    induction d with
    | zero =>
      intro c p F N hc hp
      obtain rfl : c = 201 := by omega
      refine ⟨F, N, ?_, fun h => absurd h (hneg p (by omega))⟩
      (repeat (refine em_pure hB kX5_readInto rfl ?_))
      refine em_branch kX5_readInto rfl (fun _ => ?_) (fun h => absurd (by decide) h)
      (repeat (refine em_pure hB kX5_readInto rfl ?_))
      exact em_iret kX5_readInto rfl rfl rfl rfl
    | succ d ih =>
      intro c p F N hc hp
      obtain ⟨F1, N1, r, hM, hr⟩ := s_readClause (Γ := Γ) (n := n) (m := m) (dl := dl) (I := I) (J := J) (rv := rv) hB hS hS2 hp (F := F) (N := N)
      rcases hr with ⟨bh, s, v, hcl, htk, rfl⟩ | ⟨hno, rfl⟩
      · have hlt := em_cl1_lt hp hcl
        by_cases hbh : bh = S
        · have e1 : em_prs (I 29) S (d + 1) p F N = (-1, F1, N1) := by simp only [em_prs, hcl, htk, if_pos hbh]
          rw [e1]
          refine ⟨F1, N1, ?_, fun _ => ⟨rfl, rfl⟩⟩
          (repeat (refine em_pure hB kX5_readInto rfl ?_))
          refine em_branch kX5_readInto rfl (fun (h : (200 : Int32) < nI c) => absurd h (nI_nlt (a := 200) (by omega) (by omega))) (fun _ => ?_)
          (repeat (refine em_pure hB kX5_readInto rfl ?_))
          refine em_callV (μ' := mX5_readClause) (c1 := 5) kX5_readInto rfl lX5_32 tX5_readClause (by decide) rfl (em_ltB hB rfl) hM rfl rfl (by decide) (Nat.le_of_ble_eq_true rfl) (Nat.le_refl _) (Nat.le_refl _) ?_
          (repeat (refine em_pure hB kX5_readInto rfl ?_))
          refine em_branch kX5_readInto rfl (fun _ => ?_) (fun h => absurd (hneg bh (by omega)) h)
          (repeat (refine em_pure hB kX5_readInto rfl ?_))
          refine em_branch kX5_readInto rfl (fun (h : ¬ nI bh = I 28 1) => absurd (by rw [hbh, hS]) h) (fun _ => ?_)
          (repeat (refine em_pure hB kX5_readInto rfl ?_))
          exact em_iret kX5_readInto rfl rfl rfl rfl
        · have hb1 := em_bl_le (f := I 29) (S := S) (p := bh + 1) (by omega)
          obtain ⟨F2, N2, hE, hp2⟩ := ih (c + 1) (em_bl (I 29) S (bh + 1)) F1 N1 (by omega) hb1.2
          have e1 : em_prs (I 29) S (d + 1) p F N = em_prs (I 29) S d (em_bl (I 29) S (bh + 1)) F1 N1 := by simp only [em_prs, hcl, htk, if_neg hbh]
          rw [e1]
          refine ⟨F2, N2, ?_, hp2⟩
          (repeat (refine em_pure hB kX5_readInto rfl ?_))
          refine em_branch kX5_readInto rfl (fun (h : (200 : Int32) < nI c) => absurd h (nI_nlt (a := 200) (by omega) (by omega))) (fun _ => ?_)
          (repeat (refine em_pure hB kX5_readInto rfl ?_))
          refine em_callV (μ' := mX5_readClause) (c1 := 5) kX5_readInto rfl lX5_32 tX5_readClause (by decide) rfl (em_ltB hB rfl) hM rfl rfl (by decide) (Nat.le_of_ble_eq_true rfl) (Nat.le_refl _) (Nat.le_refl _) ?_
          (repeat (refine em_pure hB kX5_readInto rfl ?_))
          refine em_branch kX5_readInto rfl (fun _ => ?_) (fun h => absurd (hneg bh (by omega)) h)
          (repeat (refine em_pure hB kX5_readInto rfl ?_))
          refine em_branch kX5_readInto rfl (fun _ => ?_) (fun (h : ¬ ¬ nI bh = I 28 1) => absurd (by rw [hS]; exact fun z => hbh ((nI_eq (by omega) (by omega)).mp z)) h)
          (repeat (refine em_pure hB kX5_readInto rfl ?_))
          have blk : em_MC Γ 0 mX5_pastBlanks [.ref 28, .int (nI bh + 1)] (em_lw n m dl I J rv F1 N1) (some (.int (nI (em_bl (I 29) S (bh + 1))))) (em_lw n m dl I J rv F1 N1) := by
            rw [nI_1]
            exact s_pastBlanks (I := va_up (va_up I 47 (va_up (I 47) 0 F1)) 48 N1) hB hS hS2 (by omega)
          refine em_callV (μ' := mX5_pastBlanks) (c1 := 5) kX5_readInto rfl lX5_28 tX5_pastBlanks (by decide) rfl (em_ltB hB rfl) blk rfl rfl (by decide) (Nat.le_of_ble_eq_true rfl) (Nat.le_refl _) (Nat.le_refl _) ?_
          (repeat (refine em_pureT 22 hB kX5_readInto rfl rfl ?_))
          refine em_loc (lc' := [(0, .ref 28), (1, .ref 47), (2, .int (nI (em_bl (I 29) S (bh + 1)))), (3, .int (nI c + 1))]) rfl ?_
          rw [nI_1]
          exact hE
      · have e1 : em_prs (I 29) S (d + 1) p F N = (nI p, F, N) := by
          cases hcl : em_cl1 (I 29) S p with
          | none => simp only [em_prs, hcl]
          | some q =>
            obtain ⟨bh, s, v⟩ := q
            have := hno bh s v hcl
            simp only [em_prs, hcl, this]
        rw [e1]
        refine ⟨F1, N1, ?_, fun h => absurd h (hneg p (by omega))⟩
        (repeat (refine em_pure hB kX5_readInto rfl ?_))
        refine em_branch kX5_readInto rfl (fun (h : (200 : Int32) < nI c) => absurd h (nI_nlt (a := 200) (by omega) (by omega))) (fun _ => ?_)
        (repeat (refine em_pure hB kX5_readInto rfl ?_))
        refine em_callV (μ' := mX5_readClause) (c1 := 5) kX5_readInto rfl lX5_32 tX5_readClause (by decide) rfl (em_ltB hB rfl) hM rfl rfl (by decide) (Nat.le_of_ble_eq_true rfl) (Nat.le_refl _) (Nat.le_refl _) ?_
        (repeat (refine em_pure hB kX5_readInto rfl ?_))
        refine em_branch kX5_readInto rfl (fun h => absurd rfl h) (fun _ => ?_)
        (repeat (refine em_pure hB kX5_readInto rfl ?_))
        exact em_iret kX5_readInto rfl rfl rfl rfl
  have hb0 := em_bl_le (f := I 29) (S := S) (p := 0) (by omega)
  have blk0 : em_MC Γ 0 mX5_pastBlanks [.ref 28, .int 0] (em_lw n m dl I J rv 0 (em_fil (I 48) (-1) 6)) (some (.int (nI (em_bl (I 29) S 0)))) (em_lw n m dl I J rv 0 (em_fil (I 48) (-1) 6)) := s_pastBlanks (p := 0) (I := va_up (va_up I 47 (va_up (I 47) 0 0)) 48 (em_fil (I 48) (-1) 6)) hB hS hS2 (by omega)
  by_cases h0 : em_bl (I 29) S 0 = S
  · have e1 : em_flt (I 29) S (em_fil (I 48) (-1) 6) = (-1, 0, em_fil (I 48) (-1) 6) := by rw [em_flt, if_pos h0]
    rw [e1]
    refine ⟨0, em_fil (I 48) (-1) 6, ?_, fun _ => ⟨rfl, rfl⟩⟩
    refine em_MC_of (Nat.le_refl _) (Nat.le_refl _) (by decide +kernel) rfl (Nat.le_of_ble_eq_true rfl) ?_
    (repeat (refine em_pure hB kX5_readInto rfl ?_))
    refine em_callV (μ' := mX4_clear) (c1 := 4) kX5_readInto rfl lX5_23 tX4_clear (by decide) rfl (em_ltB hB rfl) (s_clear hB) rfl rfl (by decide) (Nat.le_of_ble_eq_true rfl) (Nat.le_refl _) (Nat.le_refl _) ?_
    (repeat (refine em_pure hB kX5_readInto rfl ?_))
    refine em_callV (μ' := mX5_pastBlanks) (c1 := 5) kX5_readInto rfl lX5_28 tX5_pastBlanks (by decide) rfl (em_ltB hB rfl) blk0 rfl rfl (by decide) (Nat.le_of_ble_eq_true rfl) (Nat.le_refl _) (Nat.le_refl _) ?_
    (repeat (refine em_pure hB kX5_readInto rfl ?_))
    refine em_branch kX5_readInto rfl (fun (h : ¬ nI (em_bl (I 29) S 0) = I 28 1) => absurd (by rw [h0, hS]) h) (fun _ => ?_)
    (repeat (refine em_pure hB kX5_readInto rfl ?_))
    exact em_iret kX5_readInto rfl rfl rfl rfl
  · have e1 : em_flt (I 29) S (em_fil (I 48) (-1) 6) = em_prs (I 29) S 201 (em_bl (I 29) S 0) 0 (em_fil (I 48) (-1) 6) := by rw [em_flt, if_neg h0]
    rw [e1]
    obtain ⟨F', N', hE, hpr⟩ := loop 201 0 (em_bl (I 29) S 0) 0 (em_fil (I 48) (-1) 6) (by omega) hb0.2
    refine ⟨F', N', ?_, hpr⟩
    refine em_MC_of (Nat.le_refl _) (Nat.le_refl _) (by decide +kernel) rfl (Nat.le_of_ble_eq_true rfl) ?_
    (repeat (refine em_pure hB kX5_readInto rfl ?_))
    refine em_callV (μ' := mX4_clear) (c1 := 4) kX5_readInto rfl lX5_23 tX4_clear (by decide) rfl (em_ltB hB rfl) (s_clear hB) rfl rfl (by decide) (Nat.le_of_ble_eq_true rfl) (Nat.le_refl _) (Nat.le_refl _) ?_
    (repeat (refine em_pure hB kX5_readInto rfl ?_))
    refine em_callV (μ' := mX5_pastBlanks) (c1 := 5) kX5_readInto rfl lX5_28 tX5_pastBlanks (by decide) rfl (em_ltB hB rfl) blk0 rfl rfl (by decide) (Nat.le_of_ble_eq_true rfl) (Nat.le_refl _) (Nat.le_refl _) ?_
    (repeat (refine em_pure hB kX5_readInto rfl ?_))
    refine em_branch kX5_readInto rfl (fun _ => ?_) (fun (h : ¬ ¬ nI (em_bl (I 29) S 0) = I 28 1) => absurd (by rw [hS]; exact fun z => h0 ((nI_eq (by omega) (by omega)).mp z)) h)
    (repeat (refine em_pureT 22 hB kX5_readInto rfl rfl ?_))
    exact em_loc (lc' := [(0, .ref 28), (1, .ref 47), (2, .int (nI (em_bl (I 29) S 0))), (3, .int (nI 0))]) rfl hE
end Reader
