theorem em_nf_ok {c : Nat} {r : vw_C} (h : vwCl[c]? = some r) : em_nf c = r.2.2 := by
  match c, h with
  | 0, h => cases h; rfl
  | 1, h => cases h; rfl
  | 2, h => cases h; rfl
  | 3, h => cases h; rfl
  | 4, h => cases h; rfl
  | 5, h => cases h; rfl
  | 6, h => cases h; rfl
  | 7, h => cases h; rfl
  | 8, h => cases h; rfl
  | n + 9, h => simp [vwCl] at h
theorem em_uin {c : Nat} {r : vw_C} (h : vwCl[c]? = some r) : ∀ w ∈ u_ws r.1 r.2.1 r.2.2, w ∈ lw_tbl := by
  match c, h with
  | 0, h => cases h; exact iX0
  | 1, h => cases h; exact iX1
  | 2, h => cases h; exact iX2
  | 3, h => cases h; exact iX3
  | 4, h => cases h; exact iX4
  | 5, h => cases h; exact iX5
  | 6, h => cases h; exact iX6
  | 7, h => cases h; exact iX7
  | 8, h => cases h; exact iX8
  | n + 9, h => simp [vwCl] at h
theorem em_okl (C : String) (T : u_T) (k : Nat) : em_okw (u_lay C T k) = true := by
  unfold u_lay
  split <;> rfl
theorem em_layAt {Γ : em_Cx} {s : State} {args : Array Value} (hG : em_G Γ s) {c j : Nat} {r : vw_C} (h : vwCl[c]? = some r) (hj : j < r.2.2) : (u_lay r.1 r.2.1 j).before args s = true := hG.1 _ (em_uin h _ (u_in_lay hj)) (em_okl _ _ _) args
theorem em_lays {Γ : em_Cx} {s : State} {args : Array Value} (hG : em_G Γ s) {c j : Nat} {r : vw_C} (h : vwCl[c]? = some r) (hj : j < r.2.2) : (Cond.lays r.1 (r.2.1 j).1 (r.2.1 j).2.1 (r.2.1 j).2.2.1).before args s = true ∨ (Cond.laysFinal r.1 (r.2.1 j).1 (r.2.1 j).2.1 (r.2.1 j).2.2.1).before args s = true := by
  have h1 := em_layAt (args := args) hG h hj
  unfold u_lay at h1
  split at h1
  · exact Or.inr h1
  · exact Or.inl h1
/-! THE PURE STEPS: no heap is changed, no branch taken -/
def em_lk : List (Nat × Value) → Nat → Option Value
  | [], _ => none
  | (j, v) :: t, i => bif Nat.beq j i then some v else em_lk t i
theorem em_lk_mem : ∀ {lc : List (Nat × Value)} {i : Nat} {v : Value}, em_lk lc i = some v → (i, v) ∈ lc
  | [], _, _, h => by cases h
  | (j, w) :: t, i, v, h => by
    unfold em_lk at h
    cases hb : Nat.beq j i with
    | true =>
      rw [hb] at h
      have e := Nat.eq_of_beq_eq_true hb
      subst e
      cases h
      exact List.mem_cons_self
    | false =>
      rw [hb] at h
      exact List.mem_cons_of_mem _ (em_lk_mem h)
theorem em_at {Γ : em_Cx} {ls : Array Slot} {nL : Nat} {lc : List (Nat × Value)} {i : Nat} {v : Value} (hl : lv_has ls nL (em_lv Γ lc)) (h : em_lk lc i = some v) : ls[i]? = some (.val (em_v Γ v)) := hl.2.2 (i, em_v Γ v) (List.mem_map.mpr ⟨(i, v), em_lk_mem h, rfl⟩)
def em_st1 (lc : List (Nat × Value)) (i : Nat) (v : Value) : List (Nat × Value) := (i, v) :: lc.filter (fun q => !(q.1 == i) && !(q.1 + 1 == i && q.2.category == 2))
def em_st2 (lc : List (Nat × Value)) (i : Nat) (v : Value) : List (Nat × Value) := (i, v) :: lc.filter (fun q => !(q.1 == i) && (!(q.1 == i + 1) && !(q.1 + 1 == i && q.2.category == 2)))
theorem em_lv_st1 (Γ : em_Cx) (lc : List (Nat × Value)) (i : Nat) (v : Value) : (i, em_v Γ v) :: (em_lv Γ lc).filter (fun q => !(q.1 == i) && !(q.1 + 1 == i && q.2.category == 2)) = em_lv Γ (em_st1 lc i v) := by
  show _ = (i, em_v Γ v) :: List.map _ (List.filter _ lc)
  rw [em_lv, List.filter_map]
  congr 2
  apply List.filter_congr
  intro q _
  simp [em_v_cat]
theorem em_lv_st2 (Γ : em_Cx) (lc : List (Nat × Value)) (i : Nat) (v : Value) : (i, em_v Γ v) :: (em_lv Γ lc).filter (fun q => !(q.1 == i) && (!(q.1 == i + 1) && !(q.1 + 1 == i && q.2.category == 2))) = em_lv Γ (em_st2 lc i v) := by
  show _ = (i, em_v Γ v) :: List.map _ (List.filter _ lc)
  rw [em_lv, List.filter_map]
  congr 2
  apply List.filter_congr
  intro q _
  simp [em_v_cat]
abbrev em_S3 : Type := Option (Nat × List (Nat × Value) × List Value)
def em_ii (nx : Nat) (lc : List (Nat × Value)) (st : List Value) (f : Int32 → Int32 → Int32) : em_S3 := match st with
  | .int y :: .int x :: t => some (nx, lc, .int (f x y) :: t)
  | _ => none
def em_ll (nx : Nat) (lc : List (Nat × Value)) (st : List Value) (f : Int64 → Int64 → Int64) : em_S3 := match st with
  | .long y :: .long x :: t => some (nx, lc, .long (f x y) :: t)
  | _ => none
def em_ldI (nx : Nat) (lc : List (Nat × Value)) (st : List Value) (a : Nat) : em_S3 := match em_lk lc a with
  | some (.int x) => some (nx, lc, .int x :: st)
  | _ => none
def em_ldJ (nx : Nat) (lc : List (Nat × Value)) (st : List Value) (a : Nat) : em_S3 := match em_lk lc a with
  | some (.long x) => some (nx, lc, .long x :: st)
  | _ => none
def em_ldA (nx : Nat) (lc : List (Nat × Value)) (st : List Value) (a : Nat) : em_S3 := match em_lk lc a with
  | some (.ref x) => some (nx, lc, .ref x :: st)
  | some (.float x) => some (nx, lc, .float x :: st)
  | _ => none
def em_stI (nx nL : Nat) (lc : List (Nat × Value)) (st : List Value) (a : Nat) : em_S3 := match st with
  | .int x :: t => bif Nat.blt a nL then some (nx, em_st1 lc a (.int x), t) else none
  | _ => none
def em_stJ (nx nL : Nat) (lc : List (Nat × Value)) (st : List Value) (a : Nat) : em_S3 := match st with
  | .long x :: t => bif Nat.blt (a + 1) nL then some (nx, em_st2 lc a (.long x), t) else none
  | _ => none
def em_stA (nx nL : Nat) (lc : List (Nat × Value)) (st : List Value) (a : Nat) : em_S3 := match st with
  | .ref x :: t => bif Nat.blt a nL then some (nx, em_st1 lc a (.ref x), t) else none
  | .float x :: t => bif Nat.blt a nL then some (nx, em_st1 lc a (.float x), t) else none
  | _ => none
def em_po (B : Nat) (μ : em_Me) (hp : em_Hp) (lc : List (Nat × Value)) (st : List Value) (op a : Nat) (b : Int32) (nx : Nat) : em_S3 := match op with
  | 0 => some (nx, lc, .int b :: st)
  | 1 => some (nx, lc, .int b :: st)
  | 2 => some (nx, lc, .int b :: st)
  | 3 => some (nx, lc, .long (bif Nat.beq a 0 then 0 else 1) :: st)
  | 4 => em_ldI nx lc st a
  | 5 => em_ldI nx lc st a
  | 6 => em_ldJ nx lc st a
  | 7 => em_ldJ nx lc st a
  | 8 => em_ldA nx lc st a
  | 9 => em_ldA nx lc st a
  | 10 => em_stI nx (em_nL μ) lc st a
  | 11 => em_stI nx (em_nL μ) lc st a
  | 12 => em_stJ nx (em_nL μ) lc st a
  | 13 => em_stJ nx (em_nL μ) lc st a
  | 14 => em_stA nx (em_nL μ) lc st a
  | 15 => em_stA nx (em_nL μ) lc st a
  | 16 => match em_lk lc a with
    | some (.int x) => bif Nat.blt a (em_nL μ) then some (nx, em_st1 lc a (.int (x + b)), st) else none
    | _ => none
  | 17 => em_ii nx lc st (fun x y => x + y)
  | 18 => em_ii nx lc st (fun x y => x - y)
  | 19 => em_ii nx lc st (fun x y => x * y)
  | 20 => em_ii nx lc st (fun x y => x &&& y)
  | 21 => em_ii nx lc st (fun x y => x ||| y)
  | 22 => em_ii nx lc st (fun x y => x ^^^ y)
  | 23 => em_ii nx lc st (fun x y => x <<< (y &&& 31))
  | 24 => em_ii nx lc st (fun x y => x >>> (y &&& 31))
  | 25 => em_ii nx lc st (fun x y => (x.toUInt32 >>> (y.toUInt32 &&& Int32.toUInt32 31)).toInt32)
  | 26 => em_ll nx lc st (fun x y => x + y)
  | 27 => em_ll nx lc st (fun x y => x * y)
  | 28 => match st with
    | .int x :: t => some (nx, lc, .long x.toInt64 :: t)
    | _ => none
  | 29 => match st with
    | .long y :: .long x :: t => some (nx, lc, .int (lg_cmp x y) :: t)
    | _ => none
  | 30 => match st with
    | .int x :: t => some (nx, lc, .int x :: .int x :: t)
    | .ref x :: t => some (nx, lc, .ref x :: .ref x :: t)
    | _ => none
  | 31 => match st with
    | .int x :: .ref y :: t => some (nx, lc, .int x :: .ref y :: .int x :: .ref y :: t)
    | _ => none
  | 32 => some (a, lc, st)
  | 33 => match st, em_fl μ a with
    | .ref k :: t, some (c, j) => bif Nat.beq (em_k k) c && (Nat.blt c 9 && Nat.blt k B) then some (nx, lc, em_fv hp c k j :: t) else none
    | _, _ => none
  | 35 => match em_kl μ a with
    | some v => some (nx, lc, .int v :: st)
    | none => none
  | 36 => match em_kl μ a with
    | some v => some (nx, lc, .int v :: st)
    | none => none
  | 37 => some (nx, lc, .long (-1) :: st)
  | _ => none
def em_ps (B : Nat) (μ : em_Me) (hp : em_Hp) (pc : Nat) (lc : List (Nat × Value)) (st : List Value) : em_S3 := match em_i μ pc with
  | some (op, a, b, nx) => em_po B μ hp lc st op a b nx
  | none => none

section EmPure
variable {Γ : em_Cx} {K : Nat} {μ : em_Me} {hp0 : em_Hp} {fin : Option Value × em_Hp} {B pc pc' a : Nat} {b : Int32} {lc lc' : List (Nat × Value)} {st st' : List Value} {hp : em_Hp}

theorem em_o0 (hB : B ≤ em_n hp) {nx : Nat} (hok : em_ok μ) (hi : em_i μ pc = some (0, a, b, nx)) (h : em_po B μ hp lc st 0 a b nx = some (pc', lc', st')) (k : em_EW Γ K μ hp0 fin pc' lc' st' hp) : em_EW Γ K μ hp0 fin pc lc st hp := by
  obtain ⟨i, len, hd, hdec, hnx⟩ := hok.dec hi
  subst hnx
  simp only [em_dec] at hd
  cases hd
  cases h
  intro p e s m args below meth c hx hb hr hlk hml hown hnm hG hs H locs cells slots ls hW hlo hcl hsl hl
  exact lv_iconst hx hb hdec (Int32.ofInt_toInt b) (k p e s m args below meth c hx hb hr hlk hml hown hnm hG hs H locs cells slots ls hW hlo hcl hsl hl)

theorem em_o1 (hB : B ≤ em_n hp) {nx : Nat} (hok : em_ok μ) (hi : em_i μ pc = some (1, a, b, nx)) (h : em_po B μ hp lc st 1 a b nx = some (pc', lc', st')) (k : em_EW Γ K μ hp0 fin pc' lc' st' hp) : em_EW Γ K μ hp0 fin pc lc st hp := by
  obtain ⟨i, len, hd, hdec, hnx⟩ := hok.dec hi
  subst hnx
  simp only [em_dec] at hd
  split at hd
  · rename_i hq
    cases hd
    cases h
    intro p e s m args below meth c hx hb hr hlk hml hown hnm hG hs H locs cells slots ls hW hlo hcl hsl hl
    exact lv_bipush hx hb hdec hq (k p e s m args below meth c hx hb hr hlk hml hown hnm hG hs H locs cells slots ls hW hlo hcl hsl hl)
  · cases hd

theorem em_o2 (hB : B ≤ em_n hp) {nx : Nat} (hok : em_ok μ) (hi : em_i μ pc = some (2, a, b, nx)) (h : em_po B μ hp lc st 2 a b nx = some (pc', lc', st')) (k : em_EW Γ K μ hp0 fin pc' lc' st' hp) : em_EW Γ K μ hp0 fin pc lc st hp := by
  obtain ⟨i, len, hd, hdec, hnx⟩ := hok.dec hi
  subst hnx
  simp only [em_dec] at hd
  split at hd
  · rename_i hq
    cases hd
    cases h
    intro p e s m args below meth c hx hb hr hlk hml hown hnm hG hs H locs cells slots ls hW hlo hcl hsl hl
    exact lv_sipush hx hb hdec hq (k p e s m args below meth c hx hb hr hlk hml hown hnm hG hs H locs cells slots ls hW hlo hcl hsl hl)
  · cases hd

theorem em_o3 (hB : B ≤ em_n hp) {nx : Nat} (hok : em_ok μ) (hi : em_i μ pc = some (3, a, b, nx)) (h : em_po B μ hp lc st 3 a b nx = some (pc', lc', st')) (k : em_EW Γ K μ hp0 fin pc' lc' st' hp) : em_EW Γ K μ hp0 fin pc lc st hp := by
  obtain ⟨i, len, hd, hdec, hnx⟩ := hok.dec hi
  subst hnx
  simp only [em_dec] at hd
  split at hd
  · rename_i hq
    subst hq
    cases hd
    cases h
    intro p e s m args below meth c hx hb hr hlk hml hown hnm hG hs H locs cells slots ls hW hlo hcl hsl hl
    exact lv_lconst hx hb hdec rfl (k p e s m args below meth c hx hb hr hlk hml hown hnm hG hs H locs cells slots ls hW hlo hcl hsl hl)
  · split at hd
    · rename_i hq
      subst hq
      cases hd
      cases h
      intro p e s m args below meth c hx hb hr hlk hml hown hnm hG hs H locs cells slots ls hW hlo hcl hsl hl
      exact lv_lconst hx hb hdec rfl (k p e s m args below meth c hx hb hr hlk hml hown hnm hG hs H locs cells slots ls hW hlo hcl hsl hl)
    · cases hd

theorem em_o4 (hB : B ≤ em_n hp) {nx : Nat} (hok : em_ok μ) (hi : em_i μ pc = some (4, a, b, nx)) (h : em_po B μ hp lc st 4 a b nx = some (pc', lc', st')) (k : em_EW Γ K μ hp0 fin pc' lc' st' hp) : em_EW Γ K μ hp0 fin pc lc st hp := by
  obtain ⟨i, len, hd, hdec, hnx⟩ := hok.dec hi
  subst hnx
  simp only [em_po, em_ldI] at h
  simp only [em_dec, em_f4] at hd
  split at hd
  case isFalse => cases hd
  cases hd
  split at h
  · rename_i x hx1
    cases h
    intro p e s m args below meth c hx hb hr hlk hml hown hnm hG hs H locs cells slots ls hW hlo hcl hsl hl
    exact lv_iload_n hx hb hdec rfl (em_at hl hx1) (k p e s m args below meth c hx hb hr hlk hml hown hnm hG hs H locs cells slots ls hW hlo hcl hsl hl)
  · cases h

theorem em_o5 (hB : B ≤ em_n hp) {nx : Nat} (hok : em_ok μ) (hi : em_i μ pc = some (5, a, b, nx)) (h : em_po B μ hp lc st 5 a b nx = some (pc', lc', st')) (k : em_EW Γ K μ hp0 fin pc' lc' st' hp) : em_EW Γ K μ hp0 fin pc lc st hp := by
  obtain ⟨i, len, hd, hdec, hnx⟩ := hok.dec hi
  subst hnx
  simp only [em_po, em_ldI] at h
  simp only [em_dec] at hd
  cases hd
  split at h
  · rename_i x hx1
    cases h
    intro p e s m args below meth c hx hb hr hlk hml hown hnm hG hs H locs cells slots ls hW hlo hcl hsl hl
    exact lv_iload hx hb hdec (em_at hl hx1) (k p e s m args below meth c hx hb hr hlk hml hown hnm hG hs H locs cells slots ls hW hlo hcl hsl hl)
  · cases h

theorem em_o6 (hB : B ≤ em_n hp) {nx : Nat} (hok : em_ok μ) (hi : em_i μ pc = some (6, a, b, nx)) (h : em_po B μ hp lc st 6 a b nx = some (pc', lc', st')) (k : em_EW Γ K μ hp0 fin pc' lc' st' hp) : em_EW Γ K μ hp0 fin pc lc st hp := by
  obtain ⟨i, len, hd, hdec, hnx⟩ := hok.dec hi
  subst hnx
  simp only [em_po, em_ldJ] at h
  simp only [em_dec, em_f4] at hd
  split at hd
  case isFalse => cases hd
  cases hd
  split at h
  · rename_i x hx1
    cases h
    intro p e s m args below meth c hx hb hr hlk hml hown hnm hG hs H locs cells slots ls hW hlo hcl hsl hl
    exact lv_lload_n hx hb hdec rfl (em_at hl hx1) (k p e s m args below meth c hx hb hr hlk hml hown hnm hG hs H locs cells slots ls hW hlo hcl hsl hl)
  · cases h

theorem em_o7 (hB : B ≤ em_n hp) {nx : Nat} (hok : em_ok μ) (hi : em_i μ pc = some (7, a, b, nx)) (h : em_po B μ hp lc st 7 a b nx = some (pc', lc', st')) (k : em_EW Γ K μ hp0 fin pc' lc' st' hp) : em_EW Γ K μ hp0 fin pc lc st hp := by
  obtain ⟨i, len, hd, hdec, hnx⟩ := hok.dec hi
  subst hnx
  simp only [em_po, em_ldJ] at h
  simp only [em_dec] at hd
  cases hd
  split at h
  · rename_i x hx1
    cases h
    intro p e s m args below meth c hx hb hr hlk hml hown hnm hG hs H locs cells slots ls hW hlo hcl hsl hl
    exact lv_lload hx hb hdec (em_at hl hx1) (k p e s m args below meth c hx hb hr hlk hml hown hnm hG hs H locs cells slots ls hW hlo hcl hsl hl)
  · cases h

theorem em_o8 (hB : B ≤ em_n hp) {nx : Nat} (hok : em_ok μ) (hi : em_i μ pc = some (8, a, b, nx)) (h : em_po B μ hp lc st 8 a b nx = some (pc', lc', st')) (k : em_EW Γ K μ hp0 fin pc' lc' st' hp) : em_EW Γ K μ hp0 fin pc lc st hp := by
  obtain ⟨i, len, hd, hdec, hnx⟩ := hok.dec hi
  subst hnx
  simp only [em_po, em_ldA] at h
  simp only [em_dec, em_f4] at hd
  split at hd
  case isFalse => cases hd
  cases hd
  split at h
  · rename_i x hx1
    cases h
    intro p e s m args below meth c hx hb hr hlk hml hown hnm hG hs H locs cells slots ls hW hlo hcl hsl hl
    exact lv_aload_n hx hb hdec rfl (em_at hl hx1) (k p e s m args below meth c hx hb hr hlk hml hown hnm hG hs H locs cells slots ls hW hlo hcl hsl hl)
  · rename_i x hx1
    cases h
    intro p e s m args below meth c hx hb hr hlk hml hown hnm hG hs H locs cells slots ls hW hlo hcl hsl hl
    exact lv_aload_n hx hb hdec rfl (em_at hl hx1) (k p e s m args below meth c hx hb hr hlk hml hown hnm hG hs H locs cells slots ls hW hlo hcl hsl hl)
  · cases h

theorem em_o9 (hB : B ≤ em_n hp) {nx : Nat} (hok : em_ok μ) (hi : em_i μ pc = some (9, a, b, nx)) (h : em_po B μ hp lc st 9 a b nx = some (pc', lc', st')) (k : em_EW Γ K μ hp0 fin pc' lc' st' hp) : em_EW Γ K μ hp0 fin pc lc st hp := by
  obtain ⟨i, len, hd, hdec, hnx⟩ := hok.dec hi
  subst hnx
  simp only [em_po, em_ldA] at h
  simp only [em_dec] at hd
  cases hd
  split at h
  · rename_i x hx1
    cases h
    intro p e s m args below meth c hx hb hr hlk hml hown hnm hG hs H locs cells slots ls hW hlo hcl hsl hl
    exact lv_aload hx hb hdec (em_at hl hx1) (k p e s m args below meth c hx hb hr hlk hml hown hnm hG hs H locs cells slots ls hW hlo hcl hsl hl)
  · rename_i x hx1
    cases h
    intro p e s m args below meth c hx hb hr hlk hml hown hnm hG hs H locs cells slots ls hW hlo hcl hsl hl
    exact lv_aload hx hb hdec (em_at hl hx1) (k p e s m args below meth c hx hb hr hlk hml hown hnm hG hs H locs cells slots ls hW hlo hcl hsl hl)
  · cases h

theorem em_o10 (hB : B ≤ em_n hp) {nx : Nat} (hok : em_ok μ) (hi : em_i μ pc = some (10, a, b, nx)) (h : em_po B μ hp lc st 10 a b nx = some (pc', lc', st')) (k : em_EW Γ K μ hp0 fin pc' lc' st' hp) : em_EW Γ K μ hp0 fin pc lc st hp := by
  obtain ⟨i, len, hd, hdec, hnx⟩ := hok.dec hi
  subst hnx
  simp only [em_po, em_stI] at h
  simp only [em_dec, em_f4] at hd
  split at hd
  case isFalse => cases hd
  cases hd
  split at h
  · rename_i x t
    cases hq : Nat.blt a (em_nL μ) with
    | false => rw [hq] at h; cases h
    | true =>
      rw [hq] at h
      cases h
      intro p e s m args below meth c hx hb hr hlk hml hown hnm hG hs H locs cells slots ls hW hlo hcl hsl hl
      exact lv_istore_n hx hb hdec rfl hl (Nat.le_of_ble_eq_true hq) (em_lv_st1 Γ lc a (.int x)) (fun ls' hl' => k p e s m args below meth c hx hb hr hlk hml hown hnm hG hs H locs cells slots ls' hW hlo hcl hsl (hl'))
  · cases h

theorem em_o11 (hB : B ≤ em_n hp) {nx : Nat} (hok : em_ok μ) (hi : em_i μ pc = some (11, a, b, nx)) (h : em_po B μ hp lc st 11 a b nx = some (pc', lc', st')) (k : em_EW Γ K μ hp0 fin pc' lc' st' hp) : em_EW Γ K μ hp0 fin pc lc st hp := by
  obtain ⟨i, len, hd, hdec, hnx⟩ := hok.dec hi
  subst hnx
  simp only [em_po, em_stI] at h
  simp only [em_dec] at hd
  cases hd
  split at h
  · rename_i x t
    cases hq : Nat.blt a (em_nL μ) with
    | false => rw [hq] at h; cases h
    | true =>
      rw [hq] at h
      cases h
      intro p e s m args below meth c hx hb hr hlk hml hown hnm hG hs H locs cells slots ls hW hlo hcl hsl hl
      exact lv_istore hx hb hdec hl (Nat.le_of_ble_eq_true hq) (em_lv_st1 Γ lc a (.int x)) (fun ls' hl' => k p e s m args below meth c hx hb hr hlk hml hown hnm hG hs H locs cells slots ls' hW hlo hcl hsl (hl'))
  · cases h

theorem em_o12 (hB : B ≤ em_n hp) {nx : Nat} (hok : em_ok μ) (hi : em_i μ pc = some (12, a, b, nx)) (h : em_po B μ hp lc st 12 a b nx = some (pc', lc', st')) (k : em_EW Γ K μ hp0 fin pc' lc' st' hp) : em_EW Γ K μ hp0 fin pc lc st hp := by
  obtain ⟨i, len, hd, hdec, hnx⟩ := hok.dec hi
  subst hnx
  simp only [em_po, em_stJ] at h
  simp only [em_dec, em_f4] at hd
  split at hd
  case isFalse => cases hd
  cases hd
  split at h
  · rename_i x t
    cases hq : Nat.blt (a + 1) (em_nL μ) with
    | false => rw [hq] at h; cases h
    | true =>
      rw [hq] at h
      cases h
      intro p e s m args below meth c hx hb hr hlk hml hown hnm hG hs H locs cells slots ls hW hlo hcl hsl hl
      exact lv_lstore_n hx hb hdec rfl hl (Nat.le_of_ble_eq_true hq) (em_lv_st2 Γ lc a (.long x)) (fun ls' hl' => k p e s m args below meth c hx hb hr hlk hml hown hnm hG hs H locs cells slots ls' hW hlo hcl hsl (hl'))
  · cases h

theorem em_o13 (hB : B ≤ em_n hp) {nx : Nat} (hok : em_ok μ) (hi : em_i μ pc = some (13, a, b, nx)) (h : em_po B μ hp lc st 13 a b nx = some (pc', lc', st')) (k : em_EW Γ K μ hp0 fin pc' lc' st' hp) : em_EW Γ K μ hp0 fin pc lc st hp := by
  obtain ⟨i, len, hd, hdec, hnx⟩ := hok.dec hi
  subst hnx
  simp only [em_po, em_stJ] at h
  simp only [em_dec] at hd
  cases hd
  split at h
  · rename_i x t
    cases hq : Nat.blt (a + 1) (em_nL μ) with
    | false => rw [hq] at h; cases h
    | true =>
      rw [hq] at h
      cases h
      intro p e s m args below meth c hx hb hr hlk hml hown hnm hG hs H locs cells slots ls hW hlo hcl hsl hl
      exact lv_lstore hx hb hdec hl (Nat.le_of_ble_eq_true hq) (em_lv_st2 Γ lc a (.long x)) (fun ls' hl' => k p e s m args below meth c hx hb hr hlk hml hown hnm hG hs H locs cells slots ls' hW hlo hcl hsl (hl'))
  · cases h

theorem em_o14 (hB : B ≤ em_n hp) {nx : Nat} (hok : em_ok μ) (hi : em_i μ pc = some (14, a, b, nx)) (h : em_po B μ hp lc st 14 a b nx = some (pc', lc', st')) (k : em_EW Γ K μ hp0 fin pc' lc' st' hp) : em_EW Γ K μ hp0 fin pc lc st hp := by
  obtain ⟨i, len, hd, hdec, hnx⟩ := hok.dec hi
  subst hnx
  simp only [em_po, em_stA] at h
  simp only [em_dec, em_f4] at hd
  split at hd
  case isFalse => cases hd
  cases hd
  split at h
  · rename_i x t
    cases hq : Nat.blt a (em_nL μ) with
    | false => rw [hq] at h; cases h
    | true =>
      rw [hq] at h
      cases h
      intro p e s m args below meth c hx hb hr hlk hml hown hnm hG hs H locs cells slots ls hW hlo hcl hsl hl
      exact lv_astore_n hx hb hdec rfl hl (Nat.le_of_ble_eq_true hq) (em_lv_st1 Γ lc a (.ref x)) (fun ls' hl' => k p e s m args below meth c hx hb hr hlk hml hown hnm hG hs H locs cells slots ls' hW hlo hcl hsl (hl'))
  · rename_i x t
    cases hq : Nat.blt a (em_nL μ) with
    | false => rw [hq] at h; cases h
    | true =>
      rw [hq] at h
      cases h
      intro p e s m args below meth c hx hb hr hlk hml hown hnm hG hs H locs cells slots ls hW hlo hcl hsl hl
      exact lv_astore_n hx hb hdec rfl hl (Nat.le_of_ble_eq_true hq) (em_lv_st1 Γ lc a (.float x)) (fun ls' hl' => k p e s m args below meth c hx hb hr hlk hml hown hnm hG hs H locs cells slots ls' hW hlo hcl hsl (hl'))
  · cases h

theorem em_o15 (hB : B ≤ em_n hp) {nx : Nat} (hok : em_ok μ) (hi : em_i μ pc = some (15, a, b, nx)) (h : em_po B μ hp lc st 15 a b nx = some (pc', lc', st')) (k : em_EW Γ K μ hp0 fin pc' lc' st' hp) : em_EW Γ K μ hp0 fin pc lc st hp := by
  obtain ⟨i, len, hd, hdec, hnx⟩ := hok.dec hi
  subst hnx
  simp only [em_po, em_stA] at h
  simp only [em_dec] at hd
  cases hd
  split at h
  · rename_i x t
    cases hq : Nat.blt a (em_nL μ) with
    | false => rw [hq] at h; cases h
    | true =>
      rw [hq] at h
      cases h
      intro p e s m args below meth c hx hb hr hlk hml hown hnm hG hs H locs cells slots ls hW hlo hcl hsl hl
      exact lv_astore hx hb hdec hl (Nat.le_of_ble_eq_true hq) (em_lv_st1 Γ lc a (.ref x)) (fun ls' hl' => k p e s m args below meth c hx hb hr hlk hml hown hnm hG hs H locs cells slots ls' hW hlo hcl hsl (hl'))
  · rename_i x t
    cases hq : Nat.blt a (em_nL μ) with
    | false => rw [hq] at h; cases h
    | true =>
      rw [hq] at h
      cases h
      intro p e s m args below meth c hx hb hr hlk hml hown hnm hG hs H locs cells slots ls hW hlo hcl hsl hl
      exact lv_astore hx hb hdec hl (Nat.le_of_ble_eq_true hq) (em_lv_st1 Γ lc a (.float x)) (fun ls' hl' => k p e s m args below meth c hx hb hr hlk hml hown hnm hG hs H locs cells slots ls' hW hlo hcl hsl (hl'))
  · cases h

theorem em_o16 (hB : B ≤ em_n hp) {nx : Nat} (hok : em_ok μ) (hi : em_i μ pc = some (16, a, b, nx)) (h : em_po B μ hp lc st 16 a b nx = some (pc', lc', st')) (k : em_EW Γ K μ hp0 fin pc' lc' st' hp) : em_EW Γ K μ hp0 fin pc lc st hp := by
  obtain ⟨i, len, hd, hdec, hnx⟩ := hok.dec hi
  subst hnx
  simp only [em_dec] at hd
  cases hd
  simp only [em_po] at h
  split at h
  · rename_i x hx1
    cases hq : Nat.blt a (em_nL μ) with
    | false => rw [hq] at h; cases h
    | true =>
      rw [hq] at h
      cases h
      intro p e s m args below meth c hx hb hr hlk hml hown hnm hG hs H locs cells slots ls hW hlo hcl hsl hl
      obtain ⟨k0, hk0⟩ := List.getElem?_of_mem (List.mem_map.mpr ⟨(a, _), em_lk_mem hx1, rfl⟩ : (a, em_v Γ (.int x)) ∈ em_lv Γ lc)
      exact lv_iinc hx hb hdec hl hk0 (by rw [Int32.ofInt_toInt]) (Nat.le_of_ble_eq_true hq) (em_lv_st1 Γ lc a (.int (x + b))) (fun ls' hl' => k p e s m args below meth c hx hb hr hlk hml hown hnm hG hs H locs cells slots ls' hW hlo hcl hsl (hl'))
  · cases h

theorem em_o17 (hB : B ≤ em_n hp) {nx : Nat} (hok : em_ok μ) (hi : em_i μ pc = some (17, a, b, nx)) (h : em_po B μ hp lc st 17 a b nx = some (pc', lc', st')) (k : em_EW Γ K μ hp0 fin pc' lc' st' hp) : em_EW Γ K μ hp0 fin pc lc st hp := by
  obtain ⟨i, len, hd, hdec, hnx⟩ := hok.dec hi
  subst hnx
  simp only [em_dec] at hd
  cases hd
  simp only [em_po, em_ii] at h
  split at h
  · rename_i y x t
    cases h
    intro p e s m args below meth c hx hb hr hlk hml hown hnm hG hs H locs cells slots ls hW hlo hcl hsl hl
    exact lv_iadd hx hb hdec (k p e s m args below meth c hx hb hr hlk hml hown hnm hG hs H locs cells slots ls hW hlo hcl hsl hl)
  · cases h

theorem em_o18 (hB : B ≤ em_n hp) {nx : Nat} (hok : em_ok μ) (hi : em_i μ pc = some (18, a, b, nx)) (h : em_po B μ hp lc st 18 a b nx = some (pc', lc', st')) (k : em_EW Γ K μ hp0 fin pc' lc' st' hp) : em_EW Γ K μ hp0 fin pc lc st hp := by
  obtain ⟨i, len, hd, hdec, hnx⟩ := hok.dec hi
  subst hnx
  simp only [em_dec] at hd
  cases hd
  simp only [em_po, em_ii] at h
  split at h
  · rename_i y x t
    cases h
    intro p e s m args below meth c hx hb hr hlk hml hown hnm hG hs H locs cells slots ls hW hlo hcl hsl hl
    exact lv_isub hx hb hdec (k p e s m args below meth c hx hb hr hlk hml hown hnm hG hs H locs cells slots ls hW hlo hcl hsl hl)
  · cases h

theorem em_o19 (hB : B ≤ em_n hp) {nx : Nat} (hok : em_ok μ) (hi : em_i μ pc = some (19, a, b, nx)) (h : em_po B μ hp lc st 19 a b nx = some (pc', lc', st')) (k : em_EW Γ K μ hp0 fin pc' lc' st' hp) : em_EW Γ K μ hp0 fin pc lc st hp := by
  obtain ⟨i, len, hd, hdec, hnx⟩ := hok.dec hi
  subst hnx
  simp only [em_dec] at hd
  cases hd
  simp only [em_po, em_ii] at h
  split at h
  · rename_i y x t
    cases h
    intro p e s m args below meth c hx hb hr hlk hml hown hnm hG hs H locs cells slots ls hW hlo hcl hsl hl
    exact lv_imul hx hb hdec (k p e s m args below meth c hx hb hr hlk hml hown hnm hG hs H locs cells slots ls hW hlo hcl hsl hl)
  · cases h

theorem em_o20 (hB : B ≤ em_n hp) {nx : Nat} (hok : em_ok μ) (hi : em_i μ pc = some (20, a, b, nx)) (h : em_po B μ hp lc st 20 a b nx = some (pc', lc', st')) (k : em_EW Γ K μ hp0 fin pc' lc' st' hp) : em_EW Γ K μ hp0 fin pc lc st hp := by
  obtain ⟨i, len, hd, hdec, hnx⟩ := hok.dec hi
  subst hnx
  simp only [em_dec] at hd
  cases hd
  simp only [em_po, em_ii] at h
  split at h
  · rename_i y x t
    cases h
    intro p e s m args below meth c hx hb hr hlk hml hown hnm hG hs H locs cells slots ls hW hlo hcl hsl hl
    exact lv_iand hx hb hdec (k p e s m args below meth c hx hb hr hlk hml hown hnm hG hs H locs cells slots ls hW hlo hcl hsl hl)
  · cases h

theorem em_o21 (hB : B ≤ em_n hp) {nx : Nat} (hok : em_ok μ) (hi : em_i μ pc = some (21, a, b, nx)) (h : em_po B μ hp lc st 21 a b nx = some (pc', lc', st')) (k : em_EW Γ K μ hp0 fin pc' lc' st' hp) : em_EW Γ K μ hp0 fin pc lc st hp := by
  obtain ⟨i, len, hd, hdec, hnx⟩ := hok.dec hi
  subst hnx
  simp only [em_dec] at hd
  cases hd
  simp only [em_po, em_ii] at h
  split at h
  · rename_i y x t
    cases h
    intro p e s m args below meth c hx hb hr hlk hml hown hnm hG hs H locs cells slots ls hW hlo hcl hsl hl
    exact lv_ior hx hb hdec (k p e s m args below meth c hx hb hr hlk hml hown hnm hG hs H locs cells slots ls hW hlo hcl hsl hl)
  · cases h

theorem em_o22 (hB : B ≤ em_n hp) {nx : Nat} (hok : em_ok μ) (hi : em_i μ pc = some (22, a, b, nx)) (h : em_po B μ hp lc st 22 a b nx = some (pc', lc', st')) (k : em_EW Γ K μ hp0 fin pc' lc' st' hp) : em_EW Γ K μ hp0 fin pc lc st hp := by
  obtain ⟨i, len, hd, hdec, hnx⟩ := hok.dec hi
  subst hnx
  simp only [em_dec] at hd
  cases hd
  simp only [em_po, em_ii] at h
  split at h
  · rename_i y x t
    cases h
    intro p e s m args below meth c hx hb hr hlk hml hown hnm hG hs H locs cells slots ls hW hlo hcl hsl hl
    exact lv_ixor hx hb hdec (k p e s m args below meth c hx hb hr hlk hml hown hnm hG hs H locs cells slots ls hW hlo hcl hsl hl)
  · cases h

theorem em_o23 (hB : B ≤ em_n hp) {nx : Nat} (hok : em_ok μ) (hi : em_i μ pc = some (23, a, b, nx)) (h : em_po B μ hp lc st 23 a b nx = some (pc', lc', st')) (k : em_EW Γ K μ hp0 fin pc' lc' st' hp) : em_EW Γ K μ hp0 fin pc lc st hp := by
  obtain ⟨i, len, hd, hdec, hnx⟩ := hok.dec hi
  subst hnx
  simp only [em_dec] at hd
  cases hd
  simp only [em_po, em_ii] at h
  split at h
  · rename_i y x t
    cases h
    intro p e s m args below meth c hx hb hr hlk hml hown hnm hG hs H locs cells slots ls hW hlo hcl hsl hl
    exact lv_ishl hx hb hdec (k p e s m args below meth c hx hb hr hlk hml hown hnm hG hs H locs cells slots ls hW hlo hcl hsl hl)
  · cases h

theorem em_o24 (hB : B ≤ em_n hp) {nx : Nat} (hok : em_ok μ) (hi : em_i μ pc = some (24, a, b, nx)) (h : em_po B μ hp lc st 24 a b nx = some (pc', lc', st')) (k : em_EW Γ K μ hp0 fin pc' lc' st' hp) : em_EW Γ K μ hp0 fin pc lc st hp := by
  obtain ⟨i, len, hd, hdec, hnx⟩ := hok.dec hi
  subst hnx
  simp only [em_dec] at hd
  cases hd
  simp only [em_po, em_ii] at h
  split at h
  · rename_i y x t
    cases h
    intro p e s m args below meth c hx hb hr hlk hml hown hnm hG hs H locs cells slots ls hW hlo hcl hsl hl
    exact lv_ishr hx hb hdec (k p e s m args below meth c hx hb hr hlk hml hown hnm hG hs H locs cells slots ls hW hlo hcl hsl hl)
  · cases h

theorem em_o25 (hB : B ≤ em_n hp) {nx : Nat} (hok : em_ok μ) (hi : em_i μ pc = some (25, a, b, nx)) (h : em_po B μ hp lc st 25 a b nx = some (pc', lc', st')) (k : em_EW Γ K μ hp0 fin pc' lc' st' hp) : em_EW Γ K μ hp0 fin pc lc st hp := by
  obtain ⟨i, len, hd, hdec, hnx⟩ := hok.dec hi
  subst hnx
  simp only [em_dec] at hd
  cases hd
  simp only [em_po, em_ii] at h
  split at h
  · rename_i y x t
    cases h
    intro p e s m args below meth c hx hb hr hlk hml hown hnm hG hs H locs cells slots ls hW hlo hcl hsl hl
    exact lv_iushr hx hb hdec rfl (k p e s m args below meth c hx hb hr hlk hml hown hnm hG hs H locs cells slots ls hW hlo hcl hsl hl)
  · cases h

theorem em_o26 (hB : B ≤ em_n hp) {nx : Nat} (hok : em_ok μ) (hi : em_i μ pc = some (26, a, b, nx)) (h : em_po B μ hp lc st 26 a b nx = some (pc', lc', st')) (k : em_EW Γ K μ hp0 fin pc' lc' st' hp) : em_EW Γ K μ hp0 fin pc lc st hp := by
  obtain ⟨i, len, hd, hdec, hnx⟩ := hok.dec hi
  subst hnx
  simp only [em_dec] at hd
  cases hd
  simp only [em_po, em_ll] at h
  split at h
  · rename_i y x t
    cases h
    intro p e s m args below meth c hx hb hr hlk hml hown hnm hG hs H locs cells slots ls hW hlo hcl hsl hl
    exact lv_ladd hx hb hdec (k p e s m args below meth c hx hb hr hlk hml hown hnm hG hs H locs cells slots ls hW hlo hcl hsl hl)
  · cases h

theorem em_o27 (hB : B ≤ em_n hp) {nx : Nat} (hok : em_ok μ) (hi : em_i μ pc = some (27, a, b, nx)) (h : em_po B μ hp lc st 27 a b nx = some (pc', lc', st')) (k : em_EW Γ K μ hp0 fin pc' lc' st' hp) : em_EW Γ K μ hp0 fin pc lc st hp := by
  obtain ⟨i, len, hd, hdec, hnx⟩ := hok.dec hi
  subst hnx
  simp only [em_dec] at hd
  cases hd
  simp only [em_po, em_ll] at h
  split at h
  · rename_i y x t
    cases h
    intro p e s m args below meth c hx hb hr hlk hml hown hnm hG hs H locs cells slots ls hW hlo hcl hsl hl
    exact lv_lmul hx hb hdec (k p e s m args below meth c hx hb hr hlk hml hown hnm hG hs H locs cells slots ls hW hlo hcl hsl hl)
  · cases h

theorem em_o28 (hB : B ≤ em_n hp) {nx : Nat} (hok : em_ok μ) (hi : em_i μ pc = some (28, a, b, nx)) (h : em_po B μ hp lc st 28 a b nx = some (pc', lc', st')) (k : em_EW Γ K μ hp0 fin pc' lc' st' hp) : em_EW Γ K μ hp0 fin pc lc st hp := by
  obtain ⟨i, len, hd, hdec, hnx⟩ := hok.dec hi
  subst hnx
  simp only [em_dec] at hd
  cases hd
  simp only [em_po] at h
  split at h
  · rename_i x t
    cases h
    intro p e s m args below meth c hx hb hr hlk hml hown hnm hG hs H locs cells slots ls hW hlo hcl hsl hl
    exact lv_i2l hx hb hdec rfl (k p e s m args below meth c hx hb hr hlk hml hown hnm hG hs H locs cells slots ls hW hlo hcl hsl hl)
  · cases h

theorem em_o29 (hB : B ≤ em_n hp) {nx : Nat} (hok : em_ok μ) (hi : em_i μ pc = some (29, a, b, nx)) (h : em_po B μ hp lc st 29 a b nx = some (pc', lc', st')) (k : em_EW Γ K μ hp0 fin pc' lc' st' hp) : em_EW Γ K μ hp0 fin pc lc st hp := by
  obtain ⟨i, len, hd, hdec, hnx⟩ := hok.dec hi
  subst hnx
  simp only [em_dec] at hd
  cases hd
  simp only [em_po] at h
  split at h
  · rename_i y x t
    cases h
    intro p e s m args below meth c hx hb hr hlk hml hown hnm hG hs H locs cells slots ls hW hlo hcl hsl hl
    exact W.lcmp hx hb hdec (k p e s m args below meth c hx hb hr hlk hml hown hnm hG hs H locs cells slots ls hW hlo hcl hsl hl)
  · cases h

theorem em_o30 (hB : B ≤ em_n hp) {nx : Nat} (hok : em_ok μ) (hi : em_i μ pc = some (30, a, b, nx)) (h : em_po B μ hp lc st 30 a b nx = some (pc', lc', st')) (k : em_EW Γ K μ hp0 fin pc' lc' st' hp) : em_EW Γ K μ hp0 fin pc lc st hp := by
  obtain ⟨i, len, hd, hdec, hnx⟩ := hok.dec hi
  subst hnx
  simp only [em_dec] at hd
  cases hd
  simp only [em_po] at h
  split at h
  · rename_i x t
    cases h
    intro p e s m args below meth c hx hb hr hlk hml hown hnm hG hs H locs cells slots ls hW hlo hcl hsl hl
    exact lv_dup hx hb hdec rfl (k p e s m args below meth c hx hb hr hlk hml hown hnm hG hs H locs cells slots ls hW hlo hcl hsl hl)
  · rename_i x t
    cases h
    intro p e s m args below meth c hx hb hr hlk hml hown hnm hG hs H locs cells slots ls hW hlo hcl hsl hl
    exact lv_dup hx hb hdec rfl (k p e s m args below meth c hx hb hr hlk hml hown hnm hG hs H locs cells slots ls hW hlo hcl hsl hl)
  · cases h

theorem em_o31 (hB : B ≤ em_n hp) {nx : Nat} (hok : em_ok μ) (hi : em_i μ pc = some (31, a, b, nx)) (h : em_po B μ hp lc st 31 a b nx = some (pc', lc', st')) (k : em_EW Γ K μ hp0 fin pc' lc' st' hp) : em_EW Γ K μ hp0 fin pc lc st hp := by
  obtain ⟨i, len, hd, hdec, hnx⟩ := hok.dec hi
  subst hnx
  simp only [em_dec] at hd
  cases hd
  simp only [em_po] at h
  split at h
  · rename_i x y t
    cases h
    intro p e s m args below meth c hx hb hr hlk hml hown hnm hG hs H locs cells slots ls hW hlo hcl hsl hl
    exact lv_dup2_11 hx hb hdec rfl rfl (k p e s m args below meth c hx hb hr hlk hml hown hnm hG hs H locs cells slots ls hW hlo hcl hsl hl)
  · cases h

theorem em_o32 (hB : B ≤ em_n hp) {nx : Nat} (hok : em_ok μ) (hi : em_i μ pc = some (32, a, b, nx)) (h : em_po B μ hp lc st 32 a b nx = some (pc', lc', st')) (k : em_EW Γ K μ hp0 fin pc' lc' st' hp) : em_EW Γ K μ hp0 fin pc lc st hp := by
  obtain ⟨i, len, hd, hdec, hnx⟩ := hok.dec hi
  subst hnx
  simp only [em_dec] at hd
  cases hd
  cases h
  intro p e s m args below meth c hx hb hr hlk hml hown hnm hG hs H locs cells slots ls hW hlo hcl hsl hl
  exact lv_goto hx hb hdec (by unfold em_br; omega) (k p e s m args below meth c hx hb hr hlk hml hown hnm hG hs H locs cells slots ls hW hlo hcl hsl hl)

theorem em_o33 (hB : B ≤ em_n hp) {nx : Nat} (hok : em_ok μ) (hi : em_i μ pc = some (33, a, b, nx)) (h : em_po B μ hp lc st 33 a b nx = some (pc', lc', st')) (k : em_EW Γ K μ hp0 fin pc' lc' st' hp) : em_EW Γ K μ hp0 fin pc lc st hp := by
  obtain ⟨i, len, hd, hdec, hnx⟩ := hok.dec hi
  subst hnx
  simp only [em_dec] at hd
  cases hd
  simp only [em_po] at h
  split at h
  · rename_i k1 t c1 j1 hf1
    cases hq : (Nat.beq (em_k k1) c1 && (Nat.blt c1 9 && Nat.blt k1 B)) with
    | false => rw [hq] at h; cases h
    | true =>
      rw [hq] at h
      cases h
      rw [Bool.and_eq_true, Bool.and_eq_true] at hq
      obtain ⟨q1, q2, q3⟩ := hq
      have e1 := Nat.eq_of_beq_eq_true q1
      have e2 : c1 < 9 := Nat.le_of_ble_eq_true q2
      have e3 : k1 < em_n hp := Nat.lt_of_lt_of_le (Nat.le_of_ble_eq_true q3) hB
      obtain ⟨r, hr1, hj, hlink⟩ := hok.2.1 _ _ _ hf1
      intro p e s m args below meth c hx hb hr hlk hml hown hnm hG hs H locs cells slots ls hW hlo hcl hsl hl
      have hcell := (em_cl_c e1 e2).mp (hW.2.2 k1 e3)
      obtain ⟨cell, g1, g2, g3, g4⟩ := hcell
      obtain ⟨hS, hfc, kC, hkC, hkind⟩ := hG.2.1.1 c1 r hr1
      obtain ⟨cf, kf, fi, f, hfi, hfs⟩ := hS j1 hj
      have hnf : em_nf c1 = r.2.2 := em_nf_ok hr1
      have hlays := em_lays hG hr1 hj (args := args)
      refine W.getf hx hb hown (hG.1 _ hlink rfl args) hfi (u_facts hfc hkC hlays hfi).1 g1 (by rw [g3]; exact fun h => by cases h) (v := em_v Γ (em_fv hp c1 k1 j1)) (by rw [hfs, g4 j1 (by rw [hnf]; exact hj)]) rfl rfl hdec ?_
      exact k p e s m args below meth c hx hb hr hlk hml hown hnm hG hs H locs cells slots ls hW hlo hcl hsl hl
  · cases h

theorem em_o35 (hB : B ≤ em_n hp) {nx : Nat} (hok : em_ok μ) (hi : em_i μ pc = some (35, a, b, nx)) (h : em_po B μ hp lc st 35 a b nx = some (pc', lc', st')) (k : em_EW Γ K μ hp0 fin pc' lc' st' hp) : em_EW Γ K μ hp0 fin pc lc st hp := by
  obtain ⟨i, len, hd, hdec, hnx⟩ := hok.dec hi
  subst hnx
  simp only [em_dec] at hd
  cases hd
  simp only [em_po] at h
  split at h
  · rename_i v1 hv1
    cases h
    intro p e s m args below meth c hx hb hr hlk hml hown hnm hG hs H locs cells slots ls hW hlo hcl hsl hl
    exact lv_ldc hx hb hown (hG.1 _ (hok.2.2.1 _ _ hv1) rfl args) hdec (k p e s m args below meth c hx hb hr hlk hml hown hnm hG hs H locs cells slots ls hW hlo hcl hsl hl)
  · cases h

theorem em_o36 (hB : B ≤ em_n hp) {nx : Nat} (hok : em_ok μ) (hi : em_i μ pc = some (36, a, b, nx)) (h : em_po B μ hp lc st 36 a b nx = some (pc', lc', st')) (k : em_EW Γ K μ hp0 fin pc' lc' st' hp) : em_EW Γ K μ hp0 fin pc lc st hp := by
  obtain ⟨i, len, hd, hdec, hnx⟩ := hok.dec hi
  subst hnx
  simp only [em_dec] at hd
  cases hd
  simp only [em_po] at h
  split at h
  · rename_i v1 hv1
    cases h
    intro p e s m args below meth c hx hb hr hlk hml hown hnm hG hs H locs cells slots ls hW hlo hcl hsl hl
    exact lv_ldcw hx hb hown (hG.1 _ (hok.2.2.1 _ _ hv1) rfl args) hdec (k p e s m args below meth c hx hb hr hlk hml hown hnm hG hs H locs cells slots ls hW hlo hcl hsl hl)
  · cases h

theorem em_o37 (hB : B ≤ em_n hp) {nx : Nat} (hok : em_ok μ) (hi : em_i μ pc = some (37, a, b, nx)) (h : em_po B μ hp lc st 37 a b nx = some (pc', lc', st')) (k : em_EW Γ K μ hp0 fin pc' lc' st' hp) : em_EW Γ K μ hp0 fin pc lc st hp := by
  obtain ⟨i, len, hd, hdec, hnx⟩ := hok.dec hi
  subst hnx
  simp only [em_dec] at hd
  cases hd
  cases h
  intro p e s m args below meth c hx hb hr hlk hml hown hnm hG hs H locs cells slots ls hW hlo hcl hsl hl
  exact lv_ldc2 hx hb hown (hG.1 _ (hok.2.2.2 _ _ _ _ hi) rfl args) hdec (k p e s m args below meth c hx hb hr hlk hml hown hnm hG hs H locs cells slots ls hW hlo hcl hsl hl)

theorem em_pure (hB : B ≤ em_n hp) (hok : em_ok μ) (h : em_ps B μ hp pc lc st = some (pc', lc', st')) (k : em_EW Γ K μ hp0 fin pc' lc' st' hp) : em_EW Γ K μ hp0 fin pc lc st hp := by
  unfold em_ps at h
  split at h
  · rename_i op a b nx hi
    match op, hi, h with
    | 0, hi, h => exact em_o0 hB hok hi h k
    | 1, hi, h => exact em_o1 hB hok hi h k
    | 2, hi, h => exact em_o2 hB hok hi h k
    | 3, hi, h => exact em_o3 hB hok hi h k
    | 4, hi, h => exact em_o4 hB hok hi h k
    | 5, hi, h => exact em_o5 hB hok hi h k
    | 6, hi, h => exact em_o6 hB hok hi h k
    | 7, hi, h => exact em_o7 hB hok hi h k
    | 8, hi, h => exact em_o8 hB hok hi h k
    | 9, hi, h => exact em_o9 hB hok hi h k
    | 10, hi, h => exact em_o10 hB hok hi h k
    | 11, hi, h => exact em_o11 hB hok hi h k
    | 12, hi, h => exact em_o12 hB hok hi h k
    | 13, hi, h => exact em_o13 hB hok hi h k
    | 14, hi, h => exact em_o14 hB hok hi h k
    | 15, hi, h => exact em_o15 hB hok hi h k
    | 16, hi, h => exact em_o16 hB hok hi h k
    | 17, hi, h => exact em_o17 hB hok hi h k
    | 18, hi, h => exact em_o18 hB hok hi h k
    | 19, hi, h => exact em_o19 hB hok hi h k
    | 20, hi, h => exact em_o20 hB hok hi h k
    | 21, hi, h => exact em_o21 hB hok hi h k
    | 22, hi, h => exact em_o22 hB hok hi h k
    | 23, hi, h => exact em_o23 hB hok hi h k
    | 24, hi, h => exact em_o24 hB hok hi h k
    | 25, hi, h => exact em_o25 hB hok hi h k
    | 26, hi, h => exact em_o26 hB hok hi h k
    | 27, hi, h => exact em_o27 hB hok hi h k
    | 28, hi, h => exact em_o28 hB hok hi h k
    | 29, hi, h => exact em_o29 hB hok hi h k
    | 30, hi, h => exact em_o30 hB hok hi h k
    | 31, hi, h => exact em_o31 hB hok hi h k
    | 32, hi, h => exact em_o32 hB hok hi h k
    | 33, hi, h => exact em_o33 hB hok hi h k
    | 35, hi, h => exact em_o35 hB hok hi h k
    | 36, hi, h => exact em_o36 hB hok hi h k
    | 37, hi, h => exact em_o37 hB hok hi h k
    | 34, hi, h => cases h
    | n + 38, hi, h => cases h
  · cases h
end EmPure
