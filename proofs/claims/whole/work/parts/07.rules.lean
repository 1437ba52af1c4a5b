/-! BRANCHES, ARRAYS, FIELDS, ANSWERS -/
def em_bs (μ : em_Me) (pc : Nat) (st : List Value) : Option (Prop × Nat × Nat × List Value) := match em_i μ pc with
  | some (op, a, _, nx) => match op with
    | 50 => match st with
      | .int x :: t => some (x = 0, a, nx, t)
      | _ => none
    | 51 => match st with
      | .int x :: t => some (¬ x = 0, a, nx, t)
      | _ => none
    | 52 => match st with
      | .int x :: t => some (x < 0, a, nx, t)
      | _ => none
    | 53 => match st with
      | .int x :: t => some (0 ≤ x, a, nx, t)
      | _ => none
    | 54 => match st with
      | .int x :: t => some (0 < x, a, nx, t)
      | _ => none
    | 55 => match st with
      | .int x :: t => some (x ≤ 0, a, nx, t)
      | _ => none
    | 56 => match st with
      | .int y :: .int x :: t => some (x = y, a, nx, t)
      | _ => none
    | 57 => match st with
      | .int y :: .int x :: t => some (¬ x = y, a, nx, t)
      | _ => none
    | 58 => match st with
      | .int y :: .int x :: t => some (x < y, a, nx, t)
      | _ => none
    | 59 => match st with
      | .int y :: .int x :: t => some (y ≤ x, a, nx, t)
      | _ => none
    | 60 => match st with
      | .int y :: .int x :: t => some (y < x, a, nx, t)
      | _ => none
    | 61 => match st with
      | .int y :: .int x :: t => some (x ≤ y, a, nx, t)
      | _ => none
    | _ => none
  | none => none
/-- an array's read or a division: two on the stack -/
def em_as (op : Nat) (μ : em_Me) (pc : Nat) (st : List Value) : Option (Int32 × Nat × Nat × List Value) := match em_i μ pc with
  | some (o, _, _, nx) => bif Nat.beq o op then (match st with
    | .int i :: .ref k :: t => some (i, k, nx, t)
    | _ => none) else none
  | none => none
def em_wI (op : Nat) (μ : em_Me) (pc : Nat) (st : List Value) : Option (Int32 × Int32 × Nat × Nat × List Value) := match em_i μ pc with
  | some (o, _, _, nx) => bif Nat.beq o op then (match st with
    | .int x :: .int i :: .ref k :: t => some (x, i, k, nx, t)
    | _ => none) else none
  | none => none
def em_wJ (μ : em_Me) (pc : Nat) (st : List Value) : Option (Int64 × Int32 × Nat × Nat × List Value) := match em_i μ pc with
  | some (o, _, _, nx) => bif Nat.beq o 68 then (match st with
    | .long x :: .int i :: .ref k :: t => some (x, i, k, nx, t)
    | _ => none) else none
  | none => none
def em_wA (μ : em_Me) (pc : Nat) (st : List Value) : Option (Nat × Int32 × Nat × Nat × List Value) := match em_i μ pc with
  | some (o, _, _, nx) => bif Nat.beq o 69 then (match st with
    | .ref x :: .int i :: .ref k :: t => some (x, i, k, nx, t)
    | _ => none) else none
  | none => none
def em_dI (op : Nat) (μ : em_Me) (pc : Nat) (st : List Value) : Option (Int32 × Int32 × Nat × List Value) := match em_i μ pc with
  | some (o, _, _, nx) => bif Nat.beq o op then (match st with
    | .int y :: .int x :: t => some (y, x, nx, t)
    | _ => none) else none
  | none => none
def em_dJ (op : Nat) (μ : em_Me) (pc : Nat) (st : List Value) : Option (Int64 × Int64 × Nat × List Value) := match em_i μ pc with
  | some (o, _, _, nx) => bif Nat.beq o op then (match st with
    | .long y :: .long x :: t => some (y, x, nx, t)
    | _ => none) else none
  | none => none
/-- an instruction of this number at pc -/
def em_at1 (op : Nat) (μ : em_Me) (pc : Nat) : Option (Nat × Nat) := match em_i μ pc with
  | some (o, a, _, nx) => bif Nat.beq o op then some (a, nx) else none
  | none => none
theorem em_at1_i {op : Nat} {μ : em_Me} {pc a nx : Nat} (h : em_at1 op μ pc = some (a, nx)) : ∃ b, em_i μ pc = some (op, a, b, nx) := by
  unfold em_at1 at h
  split at h
  · rename_i o a1 b1 n1 hi
    cases hq : Nat.beq o op with
    | false => rw [hq] at h; cases h
    | true =>
      rw [hq] at h
      have := Nat.eq_of_beq_eq_true hq
      subst this
      cases h
      exact ⟨_, hi⟩
  · cases h
abbrev em_sI (hp : em_Hp) (k : Nat) (r : Nat → Int32) : em_Hp := (hp.1, hp.2.1, va_up hp.2.2.1 k r, hp.2.2.2.1, hp.2.2.2.2)
abbrev em_sJ (hp : em_Hp) (k : Nat) (r : Nat → Int64) : em_Hp := (hp.1, hp.2.1, hp.2.2.1, va_up hp.2.2.2.1 k r, hp.2.2.2.2)
abbrev em_sR (hp : em_Hp) (k : Nat) (r : Nat → Option Nat) : em_Hp := (hp.1, hp.2.1, hp.2.2.1, hp.2.2.2.1, va_up hp.2.2.2.2 k r)
theorem em_arrI {Γ : em_Cx} {s : State} (hG : em_G Γ s) (n : Nat) (f : Nat → Value) : s.isArrayOf (arrV (em_cI Γ) n f) .int := (hG.2.1.2 0 _ rfl).1 n f
theorem em_arrJ {Γ : em_Cx} {s : State} (hG : em_G Γ s) (n : Nat) (f : Nat → Value) : s.isArrayOf (arrV (em_cJ Γ) n f) .long := (hG.2.1.2 1 _ rfl).1 n f
theorem em_arrZ {Γ : em_Cx} {s : State} (hG : em_G Γ s) (n : Nat) (f : Nat → Value) : s.isArrayOf (arrV (em_cZ Γ) n f) .boolean := (hG.2.1.2 2 _ rfl).1 n f
theorem em_arrL {Γ : em_Cx} {s : State} (hG : em_G Γ s) (n : Nat) (f : Nat → Value) : s.isArrayOf (arrV (em_cL Γ) n f) (.object "BeastRoad$Law") := (hG.2.1.2 3 _ rfl).1 n f
theorem em_lo {Γ : em_Cx} {locs : List Loc} (h : ∀ q ∈ locs, em_A Γ q.base) (k i : Nat) : ∀ q ∈ locs ++ [(⟨em_z Γ + k, i⟩ : Loc)], em_A Γ q.base := by
  intro q hq
  rcases List.mem_append.mp hq with h1 | h1
  · exact h q h1
  · rw [List.mem_singleton.mp h1]
    exact Nat.le_add_right _ _
theorem em_inS {cI : ClassId} {i : Int32} {n : Nat} {f : Nat → Value} (hin : vp_in i n) : ¬ (i < 0 ∨ (arrV cI n f).slots.size ≤ i.toNatClampNeg) := by rw [arrV_size]; exact hin
theorem em_inR {cI : ClassId} {i : Int32} {n : Nat} {f : Nat → Value} (hin : vp_in i n) : (arrV cI n f).slots[i.toNatClampNeg]? = some (f i.toNatClampNeg) := arrV_read _ _ (Nat.not_le.mp fun q => hin (Or.inr q))
theorem em_updV {α : Type} (g : α → Value) (f : Nat → α) (k : Nat) (x : α) : updV (fun j => g (f j)) k (g x) = fun j => g (va_up f k x j) := by
  funext j
  by_cases h : j = k
  · simp [updV, va_up, h]
  · simp [updV, va_up, h]
section EmRules
variable {Γ : em_Cx} {K : Nat} {μ : em_Me} {hp0 : em_Hp} {fin : Option Value × em_Hp} {pc a nx : Nat} {b : Int32} {lc : List (Nat × Value)} {st t : List Value} {hp : em_Hp}
theorem em_branch {P : Prop} {tgt : Nat} (hok : em_ok μ) (h : em_bs μ pc st = some (P, tgt, nx, t)) (kt : P → em_EW Γ K μ hp0 fin tgt lc t hp) (kf : ¬ P → em_EW Γ K μ hp0 fin nx lc t hp) : em_EW Γ K μ hp0 fin pc lc st hp := by
  unfold em_bs at h
  split at h
  · rename_i op a b n1 hi
    obtain ⟨i, len, hd, hdec, hnx⟩ := hok.dec hi
    subst hnx
    have he : (pc : Int) + em_br pc a = (a : Int) := by unfold em_br; omega
    split at h <;> first
      | (cases h; done)
      | (split at h
         · cases h
           simp only [em_dec] at hd
           cases hd
           intro p e s m args below meth c hx hb hr hlk hml hown hnm hG hs H locs cells slots ls hW hlo hcl hsl hl
           have k1 := fun q => kt q p e s m args below meth c hx hb hr hlk hml hown hnm hG hs H locs cells slots ls hW hlo hcl hsl hl
           have k2 := fun q => kf q p e s m args below meth c hx hb hr hlk hml hown hnm hG hs H locs cells slots ls hW hlo hcl hsl hl
           first
             | exact lv_if_eq hx hb hdec he k1 k2
             | exact lv_if_ne hx hb hdec he k1 (fun q => k2 (fun z => z q))
             | exact lv_if_lt hx hb hdec he k1 k2
             | exact lv_if_ge hx hb hdec he k1 k2
             | exact lv_if_gt hx hb hdec he k1 k2
             | exact lv_if_le hx hb hdec he k1 k2
             | exact lv_icmp_eq hx hb hdec he k1 k2
             | exact lv_icmp_ne hx hb hdec he k1 (fun q => k2 (fun z => z q))
             | exact lv_icmp_lt hx hb hdec he k1 k2
             | exact lv_icmp_ge hx hb hdec he k1 k2
             | exact lv_icmp_gt hx hb hdec he k1 k2
             | exact lv_icmp_le hx hb hdec he k1 k2
         · cases h)
  · cases h
theorem em_as_i {op : Nat} {i : Int32} {k : Nat} (h : em_as op μ pc st = some (i, k, nx, t)) : (∃ a b, em_i μ pc = some (op, a, b, nx)) ∧ st = .int i :: .ref k :: t := by
  unfold em_as at h
  split at h
  · rename_i o a b n1 hi
    cases hq : Nat.beq o op with
    | false => rw [hq] at h; cases h
    | true =>
      rw [hq] at h
      have := Nat.eq_of_beq_eq_true hq
      subst this
      simp only [cond_true] at h
      split at h
      · cases h; exact ⟨⟨_, _, hi⟩, rfl⟩
      · cases h
  · cases h
theorem em_iald {i : Int32} {k : Nat} (hok : em_ok μ) (h : em_as 62 μ pc st = some (i, k, nx, t)) (hk : em_k k = 9) (hn : k < em_n hp) (hin : vp_in i (em_ln hp k)) (kk : em_EW Γ K μ hp0 fin nx lc (.int (em_I hp k i.toNatClampNeg) :: t) hp) : em_EW Γ K μ hp0 fin pc lc st hp := by
  obtain ⟨⟨a, b, hi⟩, rfl⟩ := em_as_i h
  obtain ⟨ii, len, hd, hdec, hnx⟩ := hok.dec hi
  subst hnx
  cases hd
  intro p e s m args below meth c hx hb hr hlk hml hown hnm hG hs H locs cells slots ls hW hlo hcl hsl hl
  exact W.iald hx hb ((em_cl_9 hk).mp (hW.2.2 k hn)) (em_arrI hG _ _) (fun q => by cases q) (em_inS hin) (em_inR hin) rfl rfl hdec (kk p e s m args below meth c hx hb hr hlk hml hown hnm hG hs H locs cells slots ls hW hlo hcl hsl hl)
theorem em_zald {i : Int32} {k : Nat} (hok : em_ok μ) (h : em_as 63 μ pc st = some (i, k, nx, t)) (hk : em_k k = 11) (hn : k < em_n hp) (hin : vp_in i (em_ln hp k)) (kk : em_EW Γ K μ hp0 fin nx lc (.int (em_I hp k i.toNatClampNeg) :: t) hp) : em_EW Γ K μ hp0 fin pc lc st hp := by
  obtain ⟨⟨a, b, hi⟩, rfl⟩ := em_as_i h
  obtain ⟨ii, len, hd, hdec, hnx⟩ := hok.dec hi
  subst hnx
  cases hd
  intro p e s m args below meth c hx hb hr hlk hml hown hnm hG hs H locs cells slots ls hW hlo hcl hsl hl
  exact W.zald hx hb ((em_cl_11 hk).mp (hW.2.2 k hn)) (em_arrZ hG _ _) (fun q => by cases q) (em_inS hin) (em_inR hin) rfl rfl hdec (kk p e s m args below meth c hx hb hr hlk hml hown hnm hG hs H locs cells slots ls hW hlo hcl hsl hl)
theorem em_lald {i : Int32} {k : Nat} (hok : em_ok μ) (h : em_as 64 μ pc st = some (i, k, nx, t)) (hk : em_k k = 10) (hn : k < em_n hp) (hin : vp_in i (em_ln hp k)) (kk : em_EW Γ K μ hp0 fin nx lc (.long (em_J hp k i.toNatClampNeg) :: t) hp) : em_EW Γ K μ hp0 fin pc lc st hp := by
  obtain ⟨⟨a, b, hi⟩, rfl⟩ := em_as_i h
  obtain ⟨ii, len, hd, hdec, hnx⟩ := hok.dec hi
  subst hnx
  cases hd
  intro p e s m args below meth c hx hb hr hlk hml hown hnm hG hs H locs cells slots ls hW hlo hcl hsl hl
  exact W.lald hx hb ((em_cl_10 hk).mp (hW.2.2 k hn)) (em_arrJ hG _ _) (fun q => by cases q) (em_inS hin) (em_inR hin) rfl rfl hdec (kk p e s m args below meth c hx hb hr hlk hml hown hnm hG hs H locs cells slots ls hW hlo hcl hsl hl)
theorem em_aald {i : Int32} {k : Nat} (hok : em_ok μ) (h : em_as 65 μ pc st = some (i, k, nx, t)) (hk : em_k k = 12) (hn : k < em_n hp) (hin : vp_in i (em_ln hp k)) (kk : em_EW Γ K μ hp0 fin nx lc (em_rf (em_R hp k i.toNatClampNeg) :: t) hp) : em_EW Γ K μ hp0 fin pc lc st hp := by
  obtain ⟨⟨a, b, hi⟩, rfl⟩ := em_as_i h
  obtain ⟨ii, len, hd, hdec, hnx⟩ := hok.dec hi
  subst hnx
  cases hd
  intro p e s m args below meth c hx hb hr hlk hml hown hnm hG hs H locs cells slots ls hW hlo hcl hsl hl
  exact W.aald (ty := .object "BeastRoad$Law") hx hb ((em_cl_12 hk).mp (hW.2.2 k hn)) (em_arrL hG _ _) rfl (fun q => by cases q) (em_inS hin) (em_inR hin) rfl rfl hdec (kk p e s m args below meth c hx hb hr hlk hml hown hnm hG hs H locs cells slots ls hW hlo hcl hsl hl)
theorem em_alen {k : Nat} (hok : em_ok μ) (h : em_at1 34 μ pc = some (a, nx)) (hk : em_k k = 9 ∨ em_k k = 10 ∨ em_k k = 11) (hn : k < em_n hp) (kk : em_EW Γ K μ hp0 fin nx lc (.int (nI (em_ln hp k)) :: t) hp) : em_EW Γ K μ hp0 fin pc lc (.ref k :: t) hp := by
  obtain ⟨b, hi⟩ := em_at1_i h
  obtain ⟨ii, len, hd, hdec, hnx⟩ := hok.dec hi
  subst hnx
  cases hd
  intro p e s m args below meth c hx hb hr hlk hml hown hnm hG hs H locs cells slots ls hW hlo hcl hsl hl
  have k0 := kk p e s m args below meth c hx hb hr hlk hml hown hnm hG hs H locs cells slots ls hW hlo hcl hsl hl
  rcases hk with hk | hk | hk
  · exact W.alen (n := nI (em_ln hp k)) hx hb ((em_cl_9 hk).mp (hW.2.2 k hn)) (em_arrI hG _ _) (by rw [arrV_size]; rfl) rfl rfl hdec k0
  · exact W.alen (n := nI (em_ln hp k)) hx hb ((em_cl_10 hk).mp (hW.2.2 k hn)) (em_arrJ hG _ _) (by rw [arrV_size]; rfl) rfl rfl hdec k0
  · exact W.alen (n := nI (em_ln hp k)) hx hb ((em_cl_11 hk).mp (hW.2.2 k hn)) (em_arrZ hG _ _) (by rw [arrV_size]; rfl) rfl rfl hdec k0
theorem em_wI_i {op : Nat} {x i : Int32} {k : Nat} (h : em_wI op μ pc st = some (x, i, k, nx, t)) : (∃ a b, em_i μ pc = some (op, a, b, nx)) ∧ st = .int x :: .int i :: .ref k :: t := by
  unfold em_wI at h
  split at h
  · rename_i o a b n1 hi
    cases hq : Nat.beq o op with
    | false => rw [hq] at h; cases h
    | true =>
      rw [hq] at h
      have := Nat.eq_of_beq_eq_true hq
      subst this
      simp only [cond_true] at h
      split at h
      · cases h; exact ⟨⟨_, _, hi⟩, rfl⟩
      · cases h
  · cases h
theorem em_ne {α : Type} {f : Nat → α} {k : Nat} {r : α} : ∀ j, j ≠ k → va_up f k r j = f j := fun _ h => va_up_ne _ _ h
theorem em_iast {x i : Int32} {k : Nat} (hok : em_ok μ) (h : em_wI 66 μ pc st = some (x, i, k, nx, t)) (hk : em_k k = 9) (hn : k < em_n hp) (hin : vp_in i (em_ln hp k)) (kk : em_EW Γ K μ hp0 fin nx lc t (em_sI hp k (va_up (em_I hp k) i.toNatClampNeg x))) : em_EW Γ K μ hp0 fin pc lc st hp := by
  obtain ⟨⟨a, b, hi⟩, rfl⟩ := em_wI_i h
  obtain ⟨ii, len, hd, hdec, hnx⟩ := hok.dec hi
  subst hnx
  cases hd
  intro p e s m args below meth c hx hb hr hlk hml hown hnm hG hs H locs cells slots ls hW hlo hcl hsl hl
  refine W.iast hx hb ((em_cl_9 hk).mp (hW.2.2 k hn)) (em_arrI hG _ _) (fun q => by cases q) (em_inS hin) rfl rfl hdec fun H1 e1 z1 oq => ?_
  refine kk p e s m args below meth c hx hb hr hlk hml hown hnm hG hs H1 _ cells slots ls (em_W_set (k := k) hW rfl (fun _ _ => rfl) em_ne (fun _ _ => rfl) (fun _ _ => rfl) z1 oq ((em_cl_9 hk).mpr ?_)) (em_lo hlo k _) hcl hsl hl
  rw [e1, arrV_store, em_updV (fun z => Value.int z)]
  show some (arrV _ _ _) = some (arrV _ _ (fun j => Value.int (va_up (em_I hp) k _ k j)))
  rw [va_up_self]
  rfl
theorem em_zast {x i : Int32} {k : Nat} (hok : em_ok μ) (h : em_wI 67 μ pc st = some (x, i, k, nx, t)) (hk : em_k k = 11) (hn : k < em_n hp) (hin : vp_in i (em_ln hp k)) (hx01 : x = 0 ∨ x = 1) (kk : em_EW Γ K μ hp0 fin nx lc t (em_sI hp k (va_up (em_I hp k) i.toNatClampNeg x))) : em_EW Γ K μ hp0 fin pc lc st hp := by
  obtain ⟨⟨a, b, hi⟩, rfl⟩ := em_wI_i h
  obtain ⟨ii, len, hd, hdec, hnx⟩ := hok.dec hi
  subst hnx
  cases hd
  intro p e s m args below meth c hx hb hr hlk hml hown hnm hG hs H locs cells slots ls hW hlo hcl hsl hl
  have hnar : narrow .boolean (.int x) = .int x := by rcases hx01 with rfl | rfl <;> rfl
  refine W.zast hx hb ((em_cl_11 hk).mp (hW.2.2 k hn)) (em_arrZ hG _ _) (fun q => by cases q) (em_inS hin) rfl rfl hdec fun H1 e1 z1 oq => ?_
  refine kk p e s m args below meth c hx hb hr hlk hml hown hnm hG hs H1 _ cells slots ls (em_W_set (k := k) hW rfl (fun _ _ => rfl) em_ne (fun _ _ => rfl) (fun _ _ => rfl) z1 oq ((em_cl_11 hk).mpr ?_)) (em_lo hlo k _) hcl hsl hl
  rw [e1, hnar, arrV_store, em_updV (fun z => Value.int z)]
  show some (arrV _ _ _) = some (arrV _ _ (fun j => Value.int (va_up (em_I hp) k _ k j)))
  rw [va_up_self]
  rfl
theorem em_last {x : Int64} {i : Int32} {k : Nat} (hok : em_ok μ) (h : em_wJ μ pc st = some (x, i, k, nx, t)) (hk : em_k k = 10) (hn : k < em_n hp) (hin : vp_in i (em_ln hp k)) (kk : em_EW Γ K μ hp0 fin nx lc t (em_sJ hp k (va_up (em_J hp k) i.toNatClampNeg x))) : em_EW Γ K μ hp0 fin pc lc st hp := by
  have hii : (∃ a b, em_i μ pc = some (68, a, b, nx)) ∧ st = .long x :: .int i :: .ref k :: t := by
    unfold em_wJ at h
    split at h
    · rename_i o a b n1 hi
      cases hq : Nat.beq o 68 with
      | false => rw [hq] at h; cases h
      | true =>
        rw [hq] at h
        have := Nat.eq_of_beq_eq_true hq
        subst this
        simp only [cond_true] at h
        split at h
        · cases h; exact ⟨⟨_, _, hi⟩, rfl⟩
        · cases h
    · cases h
  obtain ⟨⟨a, b, hi⟩, rfl⟩ := hii
  obtain ⟨ii, len, hd, hdec, hnx⟩ := hok.dec hi
  subst hnx
  cases hd
  intro p e s m args below meth c hx hb hr hlk hml hown hnm hG hs H locs cells slots ls hW hlo hcl hsl hl
  refine W.last hx hb ((em_cl_10 hk).mp (hW.2.2 k hn)) (em_arrJ hG _ _) (fun q => by cases q) (em_inS hin) rfl rfl hdec fun H1 e1 z1 oq => ?_
  refine kk p e s m args below meth c hx hb hr hlk hml hown hnm hG hs H1 _ cells slots ls (em_W_set (k := k) hW rfl (fun _ _ => rfl) (fun _ _ => rfl) em_ne (fun _ _ => rfl) z1 oq ((em_cl_10 hk).mpr ?_)) (em_lo hlo k _) hcl hsl hl
  rw [e1, arrV_store, em_updV (fun z => Value.long z)]
  show some (arrV _ _ _) = some (arrV _ _ (fun j => Value.long (va_up (em_J hp) k _ k j)))
  rw [va_up_self]
  rfl
theorem em_dI_i {op : Nat} {x y : Int32} (h : em_dI op μ pc st = some (y, x, nx, t)) : (∃ a b, em_i μ pc = some (op, a, b, nx)) ∧ st = .int y :: .int x :: t := by
  unfold em_dI at h
  split at h
  · rename_i o a b n1 hi
    cases hq : Nat.beq o op with
    | false => rw [hq] at h; cases h
    | true =>
      rw [hq] at h
      have := Nat.eq_of_beq_eq_true hq
      subst this
      simp only [cond_true] at h
      split at h
      · cases h; exact ⟨⟨_, _, hi⟩, rfl⟩
      · cases h
  · cases h
theorem em_dJ_i {op : Nat} {x y : Int64} (h : em_dJ op μ pc st = some (y, x, nx, t)) : (∃ a b, em_i μ pc = some (op, a, b, nx)) ∧ st = .long y :: .long x :: t := by
  unfold em_dJ at h
  split at h
  · rename_i o a b n1 hi
    cases hq : Nat.beq o op with
    | false => rw [hq] at h; cases h
    | true =>
      rw [hq] at h
      have := Nat.eq_of_beq_eq_true hq
      subst this
      simp only [cond_true] at h
      split at h
      · cases h; exact ⟨⟨_, _, hi⟩, rfl⟩
      · cases h
  · cases h
theorem em_idiv {x y : Int32} (hok : em_ok μ) (h : em_dI 70 μ pc st = some (y, x, nx, t)) (h0 : ¬ y = 0) (kk : em_EW Γ K μ hp0 fin nx lc (.int (x / y) :: t) hp) : em_EW Γ K μ hp0 fin pc lc st hp := by
  obtain ⟨⟨a, b, hi⟩, rfl⟩ := em_dI_i h
  obtain ⟨ii, len, hd, hdec, hnx⟩ := hok.dec hi
  subst hnx
  cases hd
  intro p e s m args below meth c hx hb hr hlk hml hown hnm hG hs H locs cells slots ls hW hlo hcl hsl hl
  exact lv_idiv hx hb hdec h0 (kk p e s m args below meth c hx hb hr hlk hml hown hnm hG hs H locs cells slots ls hW hlo hcl hsl hl)
theorem em_irem {x y : Int32} (hok : em_ok μ) (h : em_dI 71 μ pc st = some (y, x, nx, t)) (h0 : ¬ y = 0) (kk : em_EW Γ K μ hp0 fin nx lc (.int (x - x / y * y) :: t) hp) : em_EW Γ K μ hp0 fin pc lc st hp := by
  obtain ⟨⟨a, b, hi⟩, rfl⟩ := em_dI_i h
  obtain ⟨ii, len, hd, hdec, hnx⟩ := hok.dec hi
  subst hnx
  cases hd
  intro p e s m args below meth c hx hb hr hlk hml hown hnm hG hs H locs cells slots ls hW hlo hcl hsl hl
  exact lv_irem hx hb hdec h0 (kk p e s m args below meth c hx hb hr hlk hml hown hnm hG hs H locs cells slots ls hW hlo hcl hsl hl)
theorem em_ldiv {x y : Int64} (hok : em_ok μ) (h : em_dJ 72 μ pc st = some (y, x, nx, t)) (h0 : ¬ y = 0) (kk : em_EW Γ K μ hp0 fin nx lc (.long (x / y) :: t) hp) : em_EW Γ K μ hp0 fin pc lc st hp := by
  obtain ⟨⟨a, b, hi⟩, rfl⟩ := em_dJ_i h
  obtain ⟨ii, len, hd, hdec, hnx⟩ := hok.dec hi
  subst hnx
  cases hd
  intro p e s m args below meth c hx hb hr hlk hml hown hnm hG hs H locs cells slots ls hW hlo hcl hsl hl
  exact lv_ldiv hx hb hdec h0 (kk p e s m args below meth c hx hb hr hlk hml hown hnm hG hs H locs cells slots ls hW hlo hcl hsl hl)
theorem em_lrem {x y : Int64} (hok : em_ok μ) (h : em_dJ 73 μ pc st = some (y, x, nx, t)) (h0 : ¬ y = 0) (kk : em_EW Γ K μ hp0 fin nx lc (.long (x - x / y * y) :: t) hp) : em_EW Γ K μ hp0 fin pc lc st hp := by
  obtain ⟨⟨a, b, hi⟩, rfl⟩ := em_dJ_i h
  obtain ⟨ii, len, hd, hdec, hnx⟩ := hok.dec hi
  subst hnx
  cases hd
  intro p e s m args below meth c hx hb hr hlk hml hown hnm hG hs H locs cells slots ls hW hlo hcl hsl hl
  exact lv_lrem hx hb hdec h0 (kk p e s m args below meth c hx hb hr hlk hml hown hnm hG hs H locs cells slots ls hW hlo hcl hsl hl)
/-! answers -/
theorem em_iret {v : Int32} {ty : FieldType} (hok : em_ok μ) (h : em_at1 83 μ pc = some (a, nx)) (hrt : em_rt μ = some ty) (hnv : narrow ty (.int v) = .int v) (hf : fin = (some (.int v), hp)) : em_EW Γ K μ hp0 fin pc lc [.int v] hp := by
  obtain ⟨b, hi⟩ := em_at1_i h
  obtain ⟨ii, len, hd, hdec, hnx⟩ := hok.dec hi
  cases hd
  subst hf
  intro p e s m args below meth c hx hb hr hlk hml hown hnm hG hs H locs cells slots ls hW hlo hcl hsl hl
  obtain rfl : cells = em_n hp - em_n hp0 := by omega
  obtain rfl : slots = em_m hp - em_m hp0 := by omega
  exact W.zret hx hb (hr.trans hrt) hnv (fun t ht _ => ⟨rfl, by rw [ht]; exact hW⟩) hlo hdec hlk
theorem em_lret {v : Int64} (hok : em_ok μ) (h : em_at1 84 μ pc = some (a, nx)) (hrt : em_rt μ = some .long) (hf : fin = (some (.long v), hp)) : em_EW Γ K μ hp0 fin pc lc [.long v] hp := by
  obtain ⟨b, hi⟩ := em_at1_i h
  obtain ⟨ii, len, hd, hdec, hnx⟩ := hok.dec hi
  cases hd
  subst hf
  intro p e s m args below meth c hx hb hr hlk hml hown hnm hG hs H locs cells slots ls hW hlo hcl hsl hl
  obtain rfl : cells = em_n hp - em_n hp0 := by omega
  obtain rfl : slots = em_m hp - em_m hp0 := by omega
  exact W.lret hx hb (hr.trans hrt) (fun t ht _ => ⟨rfl, by rw [ht]; exact hW⟩) hlo hdec hlk
theorem em_aret {v : Value} {ty : FieldType} (hok : em_ok μ) (h : em_at1 85 μ pc = some (a, nx)) (hrt : em_rt μ = some ty) (hty : (∃ n, ty = .object n) ∨ ∃ t, ty = .array t) (hv : (∃ r, v = .ref r) ∨ ∃ u, v = .float u) (hf : fin = (some v, hp)) : em_EW Γ K μ hp0 fin pc lc [v] hp := by
  obtain ⟨b, hi⟩ := em_at1_i h
  obtain ⟨ii, len, hd, hdec, hnx⟩ := hok.dec hi
  cases hd
  subst hf
  intro p e s m args below meth c hx hb hr hlk hml hown hnm hG hs H locs cells slots ls hW hlo hcl hsl hl
  obtain rfl : cells = em_n hp - em_n hp0 := by omega
  obtain rfl : slots = em_m hp - em_m hp0 := by omega
  refine W.aret (v := em_v Γ v) hx hb (hr.trans hrt) hty ?_ (fun t ht _ => ⟨rfl, by rw [ht]; exact hW⟩) hlo hdec hlk
  rcases hv with ⟨r, rfl⟩ | ⟨u, rfl⟩
  · exact Or.inr ⟨_, rfl⟩
  · exact Or.inr ⟨_, rfl⟩
theorem em_vret (hok : em_ok μ) (h : em_at1 86 μ pc = some (a, nx)) (hrt : em_rt μ = none) (hf : fin = (none, hp)) : em_EW Γ K μ hp0 fin pc lc [] hp := by
  obtain ⟨b, hi⟩ := em_at1_i h
  obtain ⟨ii, len, hd, hdec, hnx⟩ := hok.dec hi
  cases hd
  subst hf
  intro p e s m args below meth c hx hb hr hlk hml hown hnm hG hs H locs cells slots ls hW hlo hcl hsl hl
  obtain rfl : cells = em_n hp - em_n hp0 := by omega
  obtain rfl : slots = em_m hp - em_m hp0 := by omega
  exact W.vret hx hb (hr.trans hrt) (fun t ht _ => ⟨rfl, by rw [ht]; exact hW⟩) hlo hdec hlk
end EmRules
