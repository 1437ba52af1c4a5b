/-! HELPERS FOR THE WALKS -/
/-- the locals, fewer and in another order -/
theorem em_loc {Γ : em_Cx} {K : Nat} {μ : em_Me} {hp0 : em_Hp} {fin : Option Value × em_Hp} {pc : Nat} {lc lc' : List (Nat × Value)} {st : List Value} {hp : em_Hp} (h : lc'.map (fun q => em_lk lc q.1) = lc'.map (fun q => some q.2)) (k : em_EW Γ K μ hp0 fin pc lc' st hp) : em_EW Γ K μ hp0 fin pc lc st hp := by
  intro p e s m args below meth c hx hb hr hlk hml hown hnm hG hs H locs cells slots ls hW hlo hcl hsl hl
  refine k p e s m args below meth c hx hb hr hlk hml hown hnm hG hs H locs cells slots ls hW hlo hcl hsl ⟨hl.1, hl.2.1, fun q hq => ?_⟩
  obtain ⟨q', hq', rfl⟩ := List.mem_map.mp hq
  exact em_at hl (List.map_inj_left.mp h q' hq')
/-- a pure step, but not from the place tgt -/
theorem em_pureT {Γ : em_Cx} {K : Nat} {μ : em_Me} {hp0 : em_Hp} {fin : Option Value × em_Hp} {B pc pc' : Nat} {lc lc' : List (Nat × Value)} {st st' : List Value} {hp : em_Hp} (tgt : Nat) (hB : B ≤ em_n hp) (hok : em_ok μ) (_ : Nat.beq pc tgt = false) (h : em_ps B μ hp pc lc st = some (pc', lc', st')) (k : em_EW Γ K μ hp0 fin pc' lc' st' hp) : em_EW Γ K μ hp0 fin pc lc st hp := em_pure hB hok h k
theorem em_lnB {hp : em_Hp} {k : Nat} (h : Nat.blt k 85 = true) : em_ln hp k = em_lS k := by simp [em_ln, h]
theorem em_ltB {hp : em_Hp} {k : Nat} (hB : 85 ≤ em_n hp) (h : Nat.blt k 85 = true) : k < em_n hp := Nat.lt_of_lt_of_le (Nat.le_of_ble_eq_true h) hB
section EmHelp
variable {Γ : em_Cx} {K : Nat} {μ : em_Me} {hp0 : em_Hp} {fin : Option Value × em_Hp} {pc a nx : Nat} {lc : List (Nat × Value)} {st t : List Value} {hp : em_Hp}
theorem em_ia {i : Int32} {k j L : Nat} (hB : 85 ≤ em_n hp) (hok : em_ok μ) (h : em_as 62 μ pc st = some (i, k, nx, t)) (hk : em_k k = 9) (h85 : Nat.blt k 85 = true) (hL : em_lS k = L) (e : i = nI j) (hj : j < L) (hL2 : Nat.blt L 100000 = true) (kk : em_EW Γ K μ hp0 fin nx lc (.int (em_I hp k j) :: t) hp) : em_EW Γ K μ hp0 fin pc lc st hp := by
  have hb : L < 100000 := Nat.le_of_ble_eq_true hL2
  subst e
  refine em_iald hok h hk (em_ltB hB h85) (by rw [em_lnB h85, hL]; exact vp_in_nI hj (by omega)) ?_
  rw [nI_clamp (by omega)]
  exact kk
theorem em_za {i : Int32} {k j L : Nat} (hB : 85 ≤ em_n hp) (hok : em_ok μ) (h : em_as 63 μ pc st = some (i, k, nx, t)) (hk : em_k k = 11) (h85 : Nat.blt k 85 = true) (hL : em_lS k = L) (e : i = nI j) (hj : j < L) (hL2 : Nat.blt L 100000 = true) (kk : em_EW Γ K μ hp0 fin nx lc (.int (em_I hp k j) :: t) hp) : em_EW Γ K μ hp0 fin pc lc st hp := by
  have hb : L < 100000 := Nat.le_of_ble_eq_true hL2
  subst e
  refine em_zald hok h hk (em_ltB hB h85) (by rw [em_lnB h85, hL]; exact vp_in_nI hj (by omega)) ?_
  rw [nI_clamp (by omega)]
  exact kk
theorem em_ja {i : Int32} {k j L : Nat} (hB : 85 ≤ em_n hp) (hok : em_ok μ) (h : em_as 64 μ pc st = some (i, k, nx, t)) (hk : em_k k = 10) (h85 : Nat.blt k 85 = true) (hL : em_lS k = L) (e : i = nI j) (hj : j < L) (hL2 : Nat.blt L 100000 = true) (kk : em_EW Γ K μ hp0 fin nx lc (.long (em_J hp k j) :: t) hp) : em_EW Γ K μ hp0 fin pc lc st hp := by
  have hb : L < 100000 := Nat.le_of_ble_eq_true hL2
  subst e
  refine em_lald hok h hk (em_ltB hB h85) (by rw [em_lnB h85, hL]; exact vp_in_nI hj (by omega)) ?_
  rw [nI_clamp (by omega)]
  exact kk
theorem em_iw {x i : Int32} {k j L : Nat} (hB : 85 ≤ em_n hp) (hok : em_ok μ) (h : em_wI 66 μ pc st = some (x, i, k, nx, t)) (hk : em_k k = 9) (h85 : Nat.blt k 85 = true) (hL : em_lS k = L) (e : i = nI j) (hj : j < L) (hL2 : Nat.blt L 100000 = true) (kk : em_EW Γ K μ hp0 fin nx lc t (em_sI hp k (va_up (em_I hp k) j x))) : em_EW Γ K μ hp0 fin pc lc st hp := by
  have hb : L < 100000 := Nat.le_of_ble_eq_true hL2
  subst e
  refine em_iast hok h hk (em_ltB hB h85) (by rw [em_lnB h85, hL]; exact vp_in_nI hj (by omega)) ?_
  rw [nI_clamp (by omega)]
  exact kk
theorem em_zw {x i : Int32} {k j L : Nat} (hB : 85 ≤ em_n hp) (hok : em_ok μ) (h : em_wI 67 μ pc st = some (x, i, k, nx, t)) (hk : em_k k = 11) (h85 : Nat.blt k 85 = true) (hL : em_lS k = L) (e : i = nI j) (hj : j < L) (hL2 : Nat.blt L 100000 = true) (h01 : x = 0 ∨ x = 1) (kk : em_EW Γ K μ hp0 fin nx lc t (em_sI hp k (va_up (em_I hp k) j x))) : em_EW Γ K μ hp0 fin pc lc st hp := by
  have hb : L < 100000 := Nat.le_of_ble_eq_true hL2
  subst e
  refine em_zast hok h hk (em_ltB hB h85) (by rw [em_lnB h85, hL]; exact vp_in_nI hj (by omega)) h01 ?_
  rw [nI_clamp (by omega)]
  exact kk
theorem em_jw {x : Int64} {i : Int32} {k j L : Nat} (hB : 85 ≤ em_n hp) (hok : em_ok μ) (h : em_wJ μ pc st = some (x, i, k, nx, t)) (hk : em_k k = 10) (h85 : Nat.blt k 85 = true) (hL : em_lS k = L) (e : i = nI j) (hj : j < L) (hL2 : Nat.blt L 100000 = true) (kk : em_EW Γ K μ hp0 fin nx lc t (em_sJ hp k (va_up (em_J hp k) j x))) : em_EW Γ K μ hp0 fin pc lc st hp := by
  have hb : L < 100000 := Nat.le_of_ble_eq_true hL2
  subst e
  refine em_last hok h hk (em_ltB hB h85) (by rw [em_lnB h85, hL]; exact vp_in_nI hj (by omega)) ?_
  rw [nI_clamp (by omega)]
  exact kk
/-- an int field of a fixed cell is set -/
theorem em_pi {c j k : Nat} {x : Int32} {r : vw_C} (hB : 85 ≤ em_n hp) (hok : em_ok μ) (h : em_pf μ pc = some (c, j, nx)) (hk : em_k k = c) (hc9 : Nat.blt c 9 = true) (h85 : Nat.blt k 85 = true) (hr0 : vwCl[c]? = some r) (hfin : (r.2.1 j).2.2.2 = false) (ht : em_ty c j = .int) (kk : em_EW Γ K μ hp0 fin nx lc t (em_sI hp k (va_up (em_I hp k) j x))) : em_EW Γ K μ hp0 fin pc lc (.int x :: .ref k :: t) hp := em_putI hok h hk (Nat.le_of_ble_eq_true hc9) (em_ltB hB h85) hr0 hfin ht kk
/-- branches on a truth value that was answered -/
theorem em_bz {P : Prop} [Decidable P] (hok : em_ok μ) (h : em_at1 50 μ pc = some (a, nx)) (kf : P → em_EW Γ K μ hp0 fin nx lc t hp) (kt : ¬ P → em_EW Γ K μ hp0 fin a lc t hp) : em_EW Γ K μ hp0 fin pc lc (.int (if P then 1 else 0) :: t) hp := by
  obtain ⟨b, hi⟩ := em_at1_i h
  refine em_branch hok (P := (if P then (1 : Int32) else 0) = 0) (tgt := a) (nx := nx) (t := t) (by simp only [em_bs, hi]) (fun q => ?_) (fun q => ?_)
  · by_cases hP : P
    · rw [if_pos hP] at q; exact absurd q (by decide)
    · exact kt hP
  · by_cases hP : P
    · exact kf hP
    · rw [if_neg hP] at q; exact absurd rfl q
theorem em_bn {P : Prop} [Decidable P] (hok : em_ok μ) (h : em_at1 51 μ pc = some (a, nx)) (kt : P → em_EW Γ K μ hp0 fin a lc t hp) (kf : ¬ P → em_EW Γ K μ hp0 fin nx lc t hp) : em_EW Γ K μ hp0 fin pc lc (.int (if P then 1 else 0) :: t) hp := by
  obtain ⟨b, hi⟩ := em_at1_i h
  refine em_branch hok (P := ¬ (if P then (1 : Int32) else 0) = 0) (tgt := a) (nx := nx) (t := t) (by simp only [em_bs, hi]) (fun q => ?_) (fun q => ?_)
  · by_cases hP : P
    · exact kt hP
    · rw [if_neg hP] at q; exact absurd rfl q
  · by_cases hP : P
    · rw [if_pos hP] at q; exact absurd (by decide) q
    · exact kf hP
end EmHelp
theorem em_nb {P : Prop} [Decidable P] : narrow .boolean (.int (if P then 1 else 0)) = .int (if P then 1 else 0) := by by_cases h : P <;> simp [h] <;> rfl
theorem s_within (Γ : em_Cx) (hp : em_Hp) (x y z : Int32) : em_MC Γ 0 mX7_within [.int x, .int y, .int z] hp (some (.int (if y ≤ x ∧ x ≤ z then 1 else 0))) hp := by
  refine em_MC_of (Nat.le_refl _) (Nat.le_refl _) (by decide +kernel) rfl (Nat.le_of_ble_eq_true rfl) ?_
  (repeat (refine em_pure (Nat.zero_le _) kX7_within rfl ?_))
  refine em_branch kX7_within rfl (fun h1 => ?_) (fun h1 => ?_)
  · (repeat (refine em_pure (Nat.zero_le _) kX7_within rfl ?_))
    exact em_iret kX7_within rfl rfl rfl (by rw [if_neg (fun q => absurd h1 (Int32.not_lt.mpr q.1))])
  · (repeat (refine em_pure (Nat.zero_le _) kX7_within rfl ?_))
    refine em_branch kX7_within rfl (fun h2 => ?_) (fun h2 => ?_)
    · (repeat (refine em_pure (Nat.zero_le _) kX7_within rfl ?_))
      exact em_iret kX7_within rfl rfl rfl (by rw [if_neg (fun q => absurd h2 (Int32.not_lt.mpr q.2))])
    · (repeat (refine em_pure (Nat.zero_le _) kX7_within rfl ?_))
      exact em_iret kX7_within rfl rfl rfl (by rw [if_pos ⟨Int32.not_lt.mp h1, Int32.not_lt.mp h2⟩])
theorem s_in (Γ : em_Cx) (hp : em_Hp) (x y z : Int32) : em_MC Γ 0 mX8_in [.int x, .int y, .int z] hp (some (.int (if y ≤ x ∧ x ≤ z then 1 else 0))) hp := by
  refine em_MC_of (Nat.le_refl _) (Nat.le_refl _) (by decide +kernel) rfl (Nat.le_of_ble_eq_true rfl) ?_
  (repeat (refine em_pure (Nat.zero_le _) kX8_in rfl ?_))
  refine em_branch kX8_in rfl (fun h1 => ?_) (fun h1 => ?_)
  · (repeat (refine em_pure (Nat.zero_le _) kX8_in rfl ?_))
    exact em_iret kX8_in rfl rfl rfl (by rw [if_neg (fun q => absurd h1 (Int32.not_lt.mpr q.1))])
  · (repeat (refine em_pure (Nat.zero_le _) kX8_in rfl ?_))
    refine em_branch kX8_in rfl (fun h2 => ?_) (fun h2 => ?_)
    · (repeat (refine em_pure (Nat.zero_le _) kX8_in rfl ?_))
      exact em_iret kX8_in rfl rfl rfl (by rw [if_neg (fun q => absurd h2 (Int32.not_lt.mpr q.2))])
    · (repeat (refine em_pure (Nat.zero_le _) kX8_in rfl ?_))
      exact em_iret kX8_in rfl rfl rfl (by rw [if_pos ⟨Int32.not_lt.mp h1, Int32.not_lt.mp h2⟩])
theorem s_isKind (Γ : em_Cx) (hp : em_Hp) (x : Int32) : em_MC Γ 1 mX7_isKind [.int x] hp (some (.int (if 0 ≤ x ∧ x ≤ 7 then 1 else 0))) hp := by
  refine em_MC_of (Nat.le_refl _) (Nat.le_refl _) (by decide +kernel) rfl (Nat.le_of_ble_eq_true rfl) ?_
  (repeat (refine em_pure (Nat.zero_le _) kX7_isKind rfl ?_))
  refine em_callS (μ' := mX7_within) kX7_isKind rfl lX7_68 tX7_within (s_within Γ hp x 0 7) rfl rfl (by decide) (by decide) (Nat.le_refl _) (Nat.le_refl _) ?_
  (repeat (refine em_pure (Nat.zero_le _) kX7_isKind rfl ?_))
  exact em_iret kX7_isKind rfl rfl em_nb rfl
